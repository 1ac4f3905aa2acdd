theorem dX0_init_0 : decode cX0_init 0 = .ok (.aload_n 0, 1) := by decide +kernel
theorem dX0_init_1 : decode cX0_init 1 = .ok (.invokespecial 3, 3) := by decide +kernel
theorem dX0_init_4 : decode cX0_init 4 = .ok (.aload_n 0, 1) := by decide +kernel
theorem dX0_init_5 : decode cX0_init 5 = .ok (.bipush 11, 2) := by decide +kernel
theorem dX0_init_7 : decode cX0_init 7 = .ok (.bipush 11, 2) := by decide +kernel
theorem dX0_init_9 : decode cX0_init 9 = .ok (.multianewarray 9 2, 4) := by decide +kernel
theorem dX0_init_13 : decode cX0_init 13 = .ok (.putfield 11, 3) := by decide +kernel
theorem dX0_init_16 : decode cX0_init 16 = .ok (.aload_n 0, 1) := by decide +kernel
theorem dX0_init_17 : decode cX0_init 17 = .ok (.bipush 11, 2) := by decide +kernel
theorem dX0_init_19 : decode cX0_init 19 = .ok (.bipush 11, 2) := by decide +kernel
theorem dX0_init_21 : decode cX0_init 21 = .ok (.multianewarray 9 2, 4) := by decide +kernel
theorem dX0_init_25 : decode cX0_init 25 = .ok (.putfield 16, 3) := by decide +kernel
theorem dX0_init_28 : decode cX0_init 28 = .ok (.return_, 1) := by decide +kernel
theorem dX0_reckon_0 : decode cX0_reckon 0 = .ok (.iconst 0, 1) := by decide +kernel
theorem dX0_reckon_1 : decode cX0_reckon 1 = .ok (.bipush 10, 2) := by decide +kernel
theorem dX0_reckon_3 : decode cX0_reckon 3 = .ok (.iload 4, 2) := by decide +kernel
theorem dX0_reckon_5 : decode cX0_reckon 5 = .ok (.invokestatic 19, 3) := by decide +kernel
theorem dX0_reckon_8 : decode cX0_reckon 8 = .ok (.invokestatic 25, 3) := by decide +kernel
theorem dX0_reckon_11 : decode cX0_reckon 11 = .ok (.istore 6, 2) := by decide +kernel
theorem dX0_reckon_13 : decode cX0_reckon 13 = .ok (.aload_n 0, 1) := by decide +kernel
theorem dX0_reckon_14 : decode cX0_reckon 14 = .ok (.getfield 11, 3) := by decide +kernel
theorem dX0_reckon_17 : decode cX0_reckon 17 = .ok (.invokestatic 28, 3) := by decide +kernel
theorem dX0_reckon_20 : decode cX0_reckon 20 = .ok (.aload_n 0, 1) := by decide +kernel
theorem dX0_reckon_21 : decode cX0_reckon 21 = .ok (.getfield 11, 3) := by decide +kernel
theorem dX0_reckon_24 : decode cX0_reckon 24 = .ok (.iconst 0, 1) := by decide +kernel
theorem dX0_reckon_25 : decode cX0_reckon 25 = .ok (.aaload, 1) := by decide +kernel
theorem dX0_reckon_26 : decode cX0_reckon 26 = .ok (.iconst 0, 1) := by decide +kernel
theorem dX0_reckon_27 : decode cX0_reckon 27 = .ok (.lconst 1, 1) := by decide +kernel
theorem dX0_reckon_28 : decode cX0_reckon 28 = .ok (.lastore, 1) := by decide +kernel
theorem dX0_reckon_29 : decode cX0_reckon 29 = .ok (.iconst 0, 1) := by decide +kernel
theorem dX0_reckon_30 : decode cX0_reckon 30 = .ok (.istore 7, 2) := by decide +kernel
theorem dX0_reckon_32 : decode cX0_reckon 32 = .ok (.iload 7, 2) := by decide +kernel
theorem dX0_reckon_34 : decode cX0_reckon 34 = .ok (.iconst 1, 1) := by decide +kernel
theorem dX0_reckon_35 : decode cX0_reckon 35 = .ok (.iadd, 1) := by decide +kernel
theorem dX0_reckon_36 : decode cX0_reckon 36 = .ok (.aload_n 3, 1) := by decide +kernel
theorem dX0_reckon_37 : decode cX0_reckon 37 = .ok (.getfield 32, 3) := by decide +kernel
theorem dX0_reckon_40 : decode cX0_reckon 40 = .ok (.if_icmp .ge 20, 3) := by decide +kernel
theorem dX0_reckon_43 : decode cX0_reckon 43 = .ok (.aload_n 0, 1) := by decide +kernel
theorem dX0_reckon_44 : decode cX0_reckon 44 = .ok (.iload 7, 2) := by decide +kernel
theorem dX0_reckon_46 : decode cX0_reckon 46 = .ok (.aload_n 1, 1) := by decide +kernel
theorem dX0_reckon_47 : decode cX0_reckon 47 = .ok (.aload_n 2, 1) := by decide +kernel
theorem dX0_reckon_48 : decode cX0_reckon 48 = .ok (.aload_n 3, 1) := by decide +kernel
theorem dX0_reckon_49 : decode cX0_reckon 49 = .ok (.iload 6, 2) := by decide +kernel
theorem dX0_reckon_51 : decode cX0_reckon 51 = .ok (.invokevirtual 38, 3) := by decide +kernel
theorem dX0_reckon_54 : decode cX0_reckon 54 = .ok (.iinc 7 1, 3) := by decide +kernel
theorem dX0_reckon_57 : decode cX0_reckon 57 = .ok (.goto (-25), 3) := by decide +kernel
theorem dX0_reckon_60 : decode cX0_reckon 60 = .ok (.aload_n 0, 1) := by decide +kernel
theorem dX0_reckon_61 : decode cX0_reckon 61 = .ok (.aload_n 1, 1) := by decide +kernel
theorem dX0_reckon_62 : decode cX0_reckon 62 = .ok (.aload_n 2, 1) := by decide +kernel
theorem dX0_reckon_63 : decode cX0_reckon 63 = .ok (.aload_n 3, 1) := by decide +kernel
theorem dX0_reckon_64 : decode cX0_reckon 64 = .ok (.iload 6, 2) := by decide +kernel
theorem dX0_reckon_66 : decode cX0_reckon 66 = .ok (.iload 5, 2) := by decide +kernel
theorem dX0_reckon_68 : decode cX0_reckon 68 = .ok (.invokevirtual 42, 3) := by decide +kernel
theorem dX0_reckon_71 : decode cX0_reckon 71 = .ok (.lreturn, 1) := by decide +kernel
theorem dX0_goOn_0 : decode cX0_goOn 0 = .ok (.aload_n 0, 1) := by decide +kernel
theorem dX0_goOn_1 : decode cX0_goOn 1 = .ok (.getfield 16, 3) := by decide +kernel
theorem dX0_goOn_4 : decode cX0_goOn 4 = .ok (.invokestatic 28, 3) := by decide +kernel
theorem dX0_goOn_7 : decode cX0_goOn 7 = .ok (.aload_n 3, 1) := by decide +kernel
theorem dX0_goOn_8 : decode cX0_goOn 8 = .ok (.iload_n 1, 1) := by decide +kernel
theorem dX0_goOn_9 : decode cX0_goOn 9 = .ok (.invokevirtual 46, 3) := by decide +kernel
theorem dX0_goOn_12 : decode cX0_goOn 12 = .ok (.istore 6, 2) := by decide +kernel
theorem dX0_goOn_14 : decode cX0_goOn 14 = .ok (.iconst 0, 1) := by decide +kernel
theorem dX0_goOn_15 : decode cX0_goOn 15 = .ok (.istore 7, 2) := by decide +kernel
theorem dX0_goOn_17 : decode cX0_goOn 17 = .ok (.iload 7, 2) := by decide +kernel
theorem dX0_goOn_19 : decode cX0_goOn 19 = .ok (.iload 5, 2) := by decide +kernel
theorem dX0_goOn_21 : decode cX0_goOn 21 = .ok (.if_icmp .gt 123, 3) := by decide +kernel
theorem dX0_goOn_24 : decode cX0_goOn 24 = .ok (.iload 7, 2) := by decide +kernel
theorem dX0_goOn_26 : decode cX0_goOn 26 = .ok (.iconst 1, 1) := by decide +kernel
theorem dX0_goOn_27 : decode cX0_goOn 27 = .ok (.iadd, 1) := by decide +kernel
theorem dX0_goOn_28 : decode cX0_goOn 28 = .ok (.istore 8, 2) := by decide +kernel
theorem dX0_goOn_30 : decode cX0_goOn 30 = .ok (.iload 8, 2) := by decide +kernel
theorem dX0_goOn_32 : decode cX0_goOn 32 = .ok (.iload 6, 2) := by decide +kernel
theorem dX0_goOn_34 : decode cX0_goOn 34 = .ok (.iadd, 1) := by decide +kernel
theorem dX0_goOn_35 : decode cX0_goOn 35 = .ok (.iload 5, 2) := by decide +kernel
theorem dX0_goOn_37 : decode cX0_goOn 37 = .ok (.if_icmp .gt 101, 3) := by decide +kernel
theorem dX0_goOn_40 : decode cX0_goOn 40 = .ok (.aload 4, 2) := by decide +kernel
theorem dX0_goOn_42 : decode cX0_goOn 42 = .ok (.iload_n 1, 1) := by decide +kernel
theorem dX0_goOn_43 : decode cX0_goOn 43 = .ok (.iload 8, 2) := by decide +kernel
theorem dX0_goOn_45 : decode cX0_goOn 45 = .ok (.iload 7, 2) := by decide +kernel
theorem dX0_goOn_47 : decode cX0_goOn 47 = .ok (.isub, 1) := by decide +kernel
theorem dX0_goOn_48 : decode cX0_goOn 48 = .ok (.invokevirtual 52, 3) := by decide +kernel
theorem dX0_goOn_51 : decode cX0_goOn 51 = .ok (.iconst 3, 1) := by decide +kernel
theorem dX0_goOn_52 : decode cX0_goOn 52 = .ok (.iload 6, 2) := by decide +kernel
theorem dX0_goOn_54 : decode cX0_goOn 54 = .ok (.imul, 1) := by decide +kernel
theorem dX0_goOn_55 : decode cX0_goOn 55 = .ok (.lshl, 1) := by decide +kernel
theorem dX0_goOn_56 : decode cX0_goOn 56 = .ok (.lstore 9, 2) := by decide +kernel
theorem dX0_goOn_58 : decode cX0_goOn 58 = .ok (.iconst 0, 1) := by decide +kernel
theorem dX0_goOn_59 : decode cX0_goOn 59 = .ok (.istore 11, 2) := by decide +kernel
theorem dX0_goOn_61 : decode cX0_goOn 61 = .ok (.iload 11, 2) := by decide +kernel
theorem dX0_goOn_63 : decode cX0_goOn 63 = .ok (.iload 5, 2) := by decide +kernel
theorem dX0_goOn_65 : decode cX0_goOn 65 = .ok (.if_icmp .gt 67, 3) := by decide +kernel
theorem dX0_goOn_68 : decode cX0_goOn 68 = .ok (.lload 9, 2) := by decide +kernel
theorem dX0_goOn_70 : decode cX0_goOn 70 = .ok (.lconst 0, 1) := by decide +kernel
theorem dX0_goOn_71 : decode cX0_goOn 71 = .ok (.lcmp, 1) := by decide +kernel
theorem dX0_goOn_72 : decode cX0_goOn 72 = .ok (.ifCond .eq 60, 3) := by decide +kernel
theorem dX0_goOn_75 : decode cX0_goOn 75 = .ok (.iload 11, 2) := by decide +kernel
theorem dX0_goOn_77 : decode cX0_goOn 77 = .ok (.iload 8, 2) := by decide +kernel
theorem dX0_goOn_79 : decode cX0_goOn 79 = .ok (.invokestatic 25, 3) := by decide +kernel
theorem dX0_goOn_82 : decode cX0_goOn 82 = .ok (.aload_n 2, 1) := by decide +kernel
theorem dX0_goOn_83 : decode cX0_goOn 83 = .ok (.iload_n 1, 1) := by decide +kernel
theorem dX0_goOn_84 : decode cX0_goOn 84 = .ok (.invokevirtual 46, 3) := by decide +kernel
theorem dX0_goOn_87 : decode cX0_goOn 87 = .ok (.iadd, 1) := by decide +kernel
theorem dX0_goOn_88 : decode cX0_goOn 88 = .ok (.istore 12, 2) := by decide +kernel
theorem dX0_goOn_90 : decode cX0_goOn 90 = .ok (.iload 12, 2) := by decide +kernel
theorem dX0_goOn_92 : decode cX0_goOn 92 = .ok (.iload 5, 2) := by decide +kernel
theorem dX0_goOn_94 : decode cX0_goOn 94 = .ok (.if_icmp .gt 32, 3) := by decide +kernel
theorem dX0_goOn_97 : decode cX0_goOn 97 = .ok (.aload_n 0, 1) := by decide +kernel
theorem dX0_goOn_98 : decode cX0_goOn 98 = .ok (.getfield 16, 3) := by decide +kernel
theorem dX0_goOn_101 : decode cX0_goOn 101 = .ok (.iload 8, 2) := by decide +kernel
theorem dX0_goOn_103 : decode cX0_goOn 103 = .ok (.iload 6, 2) := by decide +kernel
theorem dX0_goOn_105 : decode cX0_goOn 105 = .ok (.iadd, 1) := by decide +kernel
theorem dX0_goOn_106 : decode cX0_goOn 106 = .ok (.aaload, 1) := by decide +kernel
theorem dX0_goOn_107 : decode cX0_goOn 107 = .ok (.iload 12, 2) := by decide +kernel
theorem dX0_goOn_109 : decode cX0_goOn 109 = .ok (.dup2, 1) := by decide +kernel
theorem dX0_goOn_110 : decode cX0_goOn 110 = .ok (.laload, 1) := by decide +kernel
theorem dX0_goOn_111 : decode cX0_goOn 111 = .ok (.aload_n 0, 1) := by decide +kernel
theorem dX0_goOn_112 : decode cX0_goOn 112 = .ok (.getfield 11, 3) := by decide +kernel
theorem dX0_goOn_115 : decode cX0_goOn 115 = .ok (.iload 7, 2) := by decide +kernel
theorem dX0_goOn_117 : decode cX0_goOn 117 = .ok (.aaload, 1) := by decide +kernel
theorem dX0_goOn_118 : decode cX0_goOn 118 = .ok (.iload 11, 2) := by decide +kernel
theorem dX0_goOn_120 : decode cX0_goOn 120 = .ok (.laload, 1) := by decide +kernel
theorem dX0_goOn_121 : decode cX0_goOn 121 = .ok (.lload 9, 2) := by decide +kernel
theorem dX0_goOn_123 : decode cX0_goOn 123 = .ok (.lmul, 1) := by decide +kernel
theorem dX0_goOn_124 : decode cX0_goOn 124 = .ok (.ladd, 1) := by decide +kernel
theorem dX0_goOn_125 : decode cX0_goOn 125 = .ok (.lastore, 1) := by decide +kernel
theorem dX0_goOn_126 : decode cX0_goOn 126 = .ok (.iinc 11 1, 3) := by decide +kernel
theorem dX0_goOn_129 : decode cX0_goOn 129 = .ok (.goto (-68), 3) := by decide +kernel
theorem dX0_goOn_132 : decode cX0_goOn 132 = .ok (.iinc 8 1, 3) := by decide +kernel
theorem dX0_goOn_135 : decode cX0_goOn 135 = .ok (.goto (-105), 3) := by decide +kernel
theorem dX0_goOn_138 : decode cX0_goOn 138 = .ok (.iinc 7 1, 3) := by decide +kernel
theorem dX0_goOn_141 : decode cX0_goOn 141 = .ok (.goto (-124), 3) := by decide +kernel
theorem dX0_goOn_144 : decode cX0_goOn 144 = .ok (.aload_n 0, 1) := by decide +kernel
theorem dX0_goOn_145 : decode cX0_goOn 145 = .ok (.getfield 11, 3) := by decide +kernel
theorem dX0_goOn_148 : decode cX0_goOn 148 = .ok (.astore 7, 2) := by decide +kernel
theorem dX0_goOn_150 : decode cX0_goOn 150 = .ok (.aload_n 0, 1) := by decide +kernel
theorem dX0_goOn_151 : decode cX0_goOn 151 = .ok (.aload_n 0, 1) := by decide +kernel
theorem dX0_goOn_152 : decode cX0_goOn 152 = .ok (.getfield 16, 3) := by decide +kernel
theorem dX0_goOn_155 : decode cX0_goOn 155 = .ok (.putfield 11, 3) := by decide +kernel
theorem dX0_goOn_158 : decode cX0_goOn 158 = .ok (.aload_n 0, 1) := by decide +kernel
theorem dX0_goOn_159 : decode cX0_goOn 159 = .ok (.aload 7, 2) := by decide +kernel
theorem dX0_goOn_161 : decode cX0_goOn 161 = .ok (.putfield 16, 3) := by decide +kernel
theorem dX0_goOn_164 : decode cX0_goOn 164 = .ok (.return_, 1) := by decide +kernel
theorem dX0_toBox_0 : decode cX0_toBox 0 = .ok (.aload_n 3, 1) := by decide +kernel
theorem dX0_toBox_1 : decode cX0_toBox 1 = .ok (.getfield 32, 3) := by decide +kernel
theorem dX0_toBox_4 : decode cX0_toBox 4 = .ok (.iconst 1, 1) := by decide +kernel
theorem dX0_toBox_5 : decode cX0_toBox 5 = .ok (.isub, 1) := by decide +kernel
theorem dX0_toBox_6 : decode cX0_toBox 6 = .ok (.istore 6, 2) := by decide +kernel
theorem dX0_toBox_8 : decode cX0_toBox 8 = .ok (.lconst 0, 1) := by decide +kernel
theorem dX0_toBox_9 : decode cX0_toBox 9 = .ok (.lstore 7, 2) := by decide +kernel
theorem dX0_toBox_11 : decode cX0_toBox 11 = .ok (.iconst 0, 1) := by decide +kernel
theorem dX0_toBox_12 : decode cX0_toBox 12 = .ok (.istore 9, 2) := by decide +kernel
theorem dX0_toBox_14 : decode cX0_toBox 14 = .ok (.iload 9, 2) := by decide +kernel
theorem dX0_toBox_16 : decode cX0_toBox 16 = .ok (.iload 4, 2) := by decide +kernel
theorem dX0_toBox_18 : decode cX0_toBox 18 = .ok (.if_icmp .gt 144, 3) := by decide +kernel
theorem dX0_toBox_21 : decode cX0_toBox 21 = .ok (.iload 9, 2) := by decide +kernel
theorem dX0_toBox_23 : decode cX0_toBox 23 = .ok (.iconst 1, 1) := by decide +kernel
theorem dX0_toBox_24 : decode cX0_toBox 24 = .ok (.iadd, 1) := by decide +kernel
theorem dX0_toBox_25 : decode cX0_toBox 25 = .ok (.istore 10, 2) := by decide +kernel
theorem dX0_toBox_27 : decode cX0_toBox 27 = .ok (.iload 10, 2) := by decide +kernel
theorem dX0_toBox_29 : decode cX0_toBox 29 = .ok (.iload 4, 2) := by decide +kernel
theorem dX0_toBox_31 : decode cX0_toBox 31 = .ok (.if_icmp .gt 125, 3) := by decide +kernel
theorem dX0_toBox_34 : decode cX0_toBox 34 = .ok (.aload_n 3, 1) := by decide +kernel
theorem dX0_toBox_35 : decode cX0_toBox 35 = .ok (.iload 6, 2) := by decide +kernel
theorem dX0_toBox_37 : decode cX0_toBox 37 = .ok (.iload 10, 2) := by decide +kernel
theorem dX0_toBox_39 : decode cX0_toBox 39 = .ok (.iload 9, 2) := by decide +kernel
theorem dX0_toBox_41 : decode cX0_toBox 41 = .ok (.isub, 1) := by decide +kernel
theorem dX0_toBox_42 : decode cX0_toBox 42 = .ok (.invokevirtual 52, 3) := by decide +kernel
theorem dX0_toBox_45 : decode cX0_toBox 45 = .ok (.iconst 3, 1) := by decide +kernel
theorem dX0_toBox_46 : decode cX0_toBox 46 = .ok (.iload 4, 2) := by decide +kernel
theorem dX0_toBox_48 : decode cX0_toBox 48 = .ok (.iload 10, 2) := by decide +kernel
theorem dX0_toBox_50 : decode cX0_toBox 50 = .ok (.isub, 1) := by decide +kernel
theorem dX0_toBox_51 : decode cX0_toBox 51 = .ok (.imul, 1) := by decide +kernel
theorem dX0_toBox_52 : decode cX0_toBox 52 = .ok (.lshl, 1) := by decide +kernel
theorem dX0_toBox_53 : decode cX0_toBox 53 = .ok (.lstore 11, 2) := by decide +kernel
theorem dX0_toBox_55 : decode cX0_toBox 55 = .ok (.iconst 0, 1) := by decide +kernel
theorem dX0_toBox_56 : decode cX0_toBox 56 = .ok (.istore 13, 2) := by decide +kernel
theorem dX0_toBox_58 : decode cX0_toBox 58 = .ok (.iload 13, 2) := by decide +kernel
theorem dX0_toBox_60 : decode cX0_toBox 60 = .ok (.iload 4, 2) := by decide +kernel
theorem dX0_toBox_62 : decode cX0_toBox 62 = .ok (.if_icmp .gt 88, 3) := by decide +kernel
theorem dX0_toBox_65 : decode cX0_toBox 65 = .ok (.lload 11, 2) := by decide +kernel
theorem dX0_toBox_67 : decode cX0_toBox 67 = .ok (.lconst 0, 1) := by decide +kernel
theorem dX0_toBox_68 : decode cX0_toBox 68 = .ok (.lcmp, 1) := by decide +kernel
theorem dX0_toBox_69 : decode cX0_toBox 69 = .ok (.ifCond .eq 81, 3) := by decide +kernel
theorem dX0_toBox_72 : decode cX0_toBox 72 = .ok (.iload 13, 2) := by decide +kernel
theorem dX0_toBox_74 : decode cX0_toBox 74 = .ok (.iload 10, 2) := by decide +kernel
theorem dX0_toBox_76 : decode cX0_toBox 76 = .ok (.invokestatic 25, 3) := by decide +kernel
theorem dX0_toBox_79 : decode cX0_toBox 79 = .ok (.aload_n 1, 1) := by decide +kernel
theorem dX0_toBox_80 : decode cX0_toBox 80 = .ok (.iload 6, 2) := by decide +kernel
theorem dX0_toBox_82 : decode cX0_toBox 82 = .ok (.invokevirtual 46, 3) := by decide +kernel
theorem dX0_toBox_85 : decode cX0_toBox 85 = .ok (.iadd, 1) := by decide +kernel
theorem dX0_toBox_86 : decode cX0_toBox 86 = .ok (.istore 14, 2) := by decide +kernel
theorem dX0_toBox_88 : decode cX0_toBox 88 = .ok (.iload 14, 2) := by decide +kernel
theorem dX0_toBox_90 : decode cX0_toBox 90 = .ok (.iload 10, 2) := by decide +kernel
theorem dX0_toBox_92 : decode cX0_toBox 92 = .ok (.aload_n 2, 1) := by decide +kernel
theorem dX0_toBox_93 : decode cX0_toBox 93 = .ok (.iload 6, 2) := by decide +kernel
theorem dX0_toBox_95 : decode cX0_toBox 95 = .ok (.invokevirtual 46, 3) := by decide +kernel
theorem dX0_toBox_98 : decode cX0_toBox 98 = .ok (.iadd, 1) := by decide +kernel
theorem dX0_toBox_99 : decode cX0_toBox 99 = .ok (.if_icmp .ge 7, 3) := by decide +kernel
theorem dX0_toBox_102 : decode cX0_toBox 102 = .ok (.iconst 1, 1) := by decide +kernel
theorem dX0_toBox_103 : decode cX0_toBox 103 = .ok (.goto 4, 3) := by decide +kernel
theorem dX0_toBox_106 : decode cX0_toBox 106 = .ok (.iconst 0, 1) := by decide +kernel
theorem dX0_toBox_107 : decode cX0_toBox 107 = .ok (.istore 15, 2) := by decide +kernel
theorem dX0_toBox_109 : decode cX0_toBox 109 = .ok (.iload 14, 2) := by decide +kernel
theorem dX0_toBox_111 : decode cX0_toBox 111 = .ok (.iload 4, 2) := by decide +kernel
theorem dX0_toBox_113 : decode cX0_toBox 113 = .ok (.if_icmp .gt 31, 3) := by decide +kernel
theorem dX0_toBox_116 : decode cX0_toBox 116 = .ok (.iload 15, 2) := by decide +kernel
theorem dX0_toBox_118 : decode cX0_toBox 118 = .ok (.ifCond .ne 8, 3) := by decide +kernel
theorem dX0_toBox_121 : decode cX0_toBox 121 = .ok (.iload 5, 2) := by decide +kernel
theorem dX0_toBox_123 : decode cX0_toBox 123 = .ok (.ifCond .ne 21, 3) := by decide +kernel
theorem dX0_toBox_126 : decode cX0_toBox 126 = .ok (.lload 7, 2) := by decide +kernel
theorem dX0_toBox_128 : decode cX0_toBox 128 = .ok (.aload_n 0, 1) := by decide +kernel
theorem dX0_toBox_129 : decode cX0_toBox 129 = .ok (.getfield 11, 3) := by decide +kernel
theorem dX0_toBox_132 : decode cX0_toBox 132 = .ok (.iload 9, 2) := by decide +kernel
theorem dX0_toBox_134 : decode cX0_toBox 134 = .ok (.aaload, 1) := by decide +kernel
theorem dX0_toBox_135 : decode cX0_toBox 135 = .ok (.iload 13, 2) := by decide +kernel
theorem dX0_toBox_137 : decode cX0_toBox 137 = .ok (.laload, 1) := by decide +kernel
theorem dX0_toBox_138 : decode cX0_toBox 138 = .ok (.lload 11, 2) := by decide +kernel
theorem dX0_toBox_140 : decode cX0_toBox 140 = .ok (.lmul, 1) := by decide +kernel
theorem dX0_toBox_141 : decode cX0_toBox 141 = .ok (.ladd, 1) := by decide +kernel
theorem dX0_toBox_142 : decode cX0_toBox 142 = .ok (.lstore 7, 2) := by decide +kernel
theorem dX0_toBox_144 : decode cX0_toBox 144 = .ok (.iinc 13 1, 3) := by decide +kernel
theorem dX0_toBox_147 : decode cX0_toBox 147 = .ok (.goto (-89), 3) := by decide +kernel
theorem dX0_toBox_150 : decode cX0_toBox 150 = .ok (.iinc 10 1, 3) := by decide +kernel
theorem dX0_toBox_153 : decode cX0_toBox 153 = .ok (.goto (-126), 3) := by decide +kernel
theorem dX0_toBox_156 : decode cX0_toBox 156 = .ok (.iinc 9 1, 3) := by decide +kernel
theorem dX0_toBox_159 : decode cX0_toBox 159 = .ok (.goto (-145), 3) := by decide +kernel
theorem dX0_toBox_162 : decode cX0_toBox 162 = .ok (.lload 7, 2) := by decide +kernel
theorem dX0_toBox_164 : decode cX0_toBox 164 = .ok (.lreturn, 1) := by decide +kernel
theorem dX0_wipe_0 : decode cX0_wipe 0 = .ok (.iconst 0, 1) := by decide +kernel
theorem dX0_wipe_1 : decode cX0_wipe 1 = .ok (.istore_n 1, 1) := by decide +kernel
theorem dX0_wipe_2 : decode cX0_wipe 2 = .ok (.iload_n 1, 1) := by decide +kernel
theorem dX0_wipe_3 : decode cX0_wipe 3 = .ok (.aload_n 0, 1) := by decide +kernel
theorem dX0_wipe_4 : decode cX0_wipe 4 = .ok (.arraylength, 1) := by decide +kernel
theorem dX0_wipe_5 : decode cX0_wipe 5 = .ok (.if_icmp .ge 31, 3) := by decide +kernel
theorem dX0_wipe_8 : decode cX0_wipe 8 = .ok (.iconst 0, 1) := by decide +kernel
theorem dX0_wipe_9 : decode cX0_wipe 9 = .ok (.istore_n 2, 1) := by decide +kernel
theorem dX0_wipe_10 : decode cX0_wipe 10 = .ok (.iload_n 2, 1) := by decide +kernel
theorem dX0_wipe_11 : decode cX0_wipe 11 = .ok (.aload_n 0, 1) := by decide +kernel
theorem dX0_wipe_12 : decode cX0_wipe 12 = .ok (.iload_n 1, 1) := by decide +kernel
theorem dX0_wipe_13 : decode cX0_wipe 13 = .ok (.aaload, 1) := by decide +kernel
theorem dX0_wipe_14 : decode cX0_wipe 14 = .ok (.arraylength, 1) := by decide +kernel
theorem dX0_wipe_15 : decode cX0_wipe 15 = .ok (.if_icmp .ge 15, 3) := by decide +kernel
theorem dX0_wipe_18 : decode cX0_wipe 18 = .ok (.aload_n 0, 1) := by decide +kernel
theorem dX0_wipe_19 : decode cX0_wipe 19 = .ok (.iload_n 1, 1) := by decide +kernel
theorem dX0_wipe_20 : decode cX0_wipe 20 = .ok (.aaload, 1) := by decide +kernel
theorem dX0_wipe_21 : decode cX0_wipe 21 = .ok (.iload_n 2, 1) := by decide +kernel
theorem dX0_wipe_22 : decode cX0_wipe 22 = .ok (.lconst 0, 1) := by decide +kernel
theorem dX0_wipe_23 : decode cX0_wipe 23 = .ok (.lastore, 1) := by decide +kernel
theorem dX0_wipe_24 : decode cX0_wipe 24 = .ok (.iinc 2 1, 3) := by decide +kernel
theorem dX0_wipe_27 : decode cX0_wipe 27 = .ok (.goto (-17), 3) := by decide +kernel
theorem dX0_wipe_30 : decode cX0_wipe 30 = .ok (.iinc 1 1, 3) := by decide +kernel
theorem dX0_wipe_33 : decode cX0_wipe 33 = .ok (.goto (-31), 3) := by decide +kernel
theorem dX0_wipe_36 : decode cX0_wipe 36 = .ok (.return_, 1) := by decide +kernel
theorem dX1_init_0 : decode cX1_init 0 = .ok (.aload_n 0, 1) := by decide +kernel
theorem dX1_init_1 : decode cX1_init 1 = .ok (.invokespecial 5, 3) := by decide +kernel
theorem dX1_init_4 : decode cX1_init 4 = .ok (.aload_n 0, 1) := by decide +kernel
theorem dX1_init_5 : decode cX1_init 5 = .ok (.ldc 11, 2) := by decide +kernel
theorem dX1_init_7 : decode cX1_init 7 = .ok (.newarray .long, 2) := by decide +kernel
theorem dX1_init_9 : decode cX1_init 9 = .ok (.putfield 12, 3) := by decide +kernel
theorem dX1_init_12 : decode cX1_init 12 = .ok (.aload_n 0, 1) := by decide +kernel
theorem dX1_init_13 : decode cX1_init 13 = .ok (.iconst (-1), 1) := by decide +kernel
theorem dX1_init_14 : decode cX1_init 14 = .ok (.putfield 16, 3) := by decide +kernel
theorem dX1_init_17 : decode cX1_init 17 = .ok (.aload_n 0, 1) := by decide +kernel
theorem dX1_init_18 : decode cX1_init 18 = .ok (.iconst (-1), 1) := by decide +kernel
theorem dX1_init_19 : decode cX1_init 19 = .ok (.putfield 20, 3) := by decide +kernel
theorem dX1_init_22 : decode cX1_init 22 = .ok (.aload_n 0, 1) := by decide +kernel
theorem dX1_init_23 : decode cX1_init 23 = .ok (.aload_n 1, 1) := by decide +kernel
theorem dX1_init_24 : decode cX1_init 24 = .ok (.putfield 23, 3) := by decide +kernel
theorem dX1_init_27 : decode cX1_init 27 = .ok (.aload_n 0, 1) := by decide +kernel
theorem dX1_init_28 : decode cX1_init 28 = .ok (.new 27, 3) := by decide +kernel
theorem dX1_init_31 : decode cX1_init 31 = .ok (.dup, 1) := by decide +kernel
theorem dX1_init_32 : decode cX1_init 32 = .ok (.invokespecial 29, 3) := by decide +kernel
theorem dX1_init_35 : decode cX1_init 35 = .ok (.putfield 30, 3) := by decide +kernel
theorem dX1_init_38 : decode cX1_init 38 = .ok (.aload_n 0, 1) := by decide +kernel
theorem dX1_init_39 : decode cX1_init 39 = .ok (.aload_n 0, 1) := by decide +kernel
theorem dX1_init_40 : decode cX1_init 40 = .ok (.getfield 30, 3) := by decide +kernel
theorem dX1_init_43 : decode cX1_init 43 = .ok (.putfield 34, 3) := by decide +kernel
theorem dX1_init_46 : decode cX1_init 46 = .ok (.return_, 1) := by decide +kernel
theorem dX1_begin_0 : decode cX1_begin 0 = .ok (.aload_n 0, 1) := by decide +kernel
theorem dX1_begin_1 : decode cX1_begin 1 = .ok (.getfield 16, 3) := by decide +kernel
theorem dX1_begin_4 : decode cX1_begin 4 = .ok (.iload_n 1, 1) := by decide +kernel
theorem dX1_begin_5 : decode cX1_begin 5 = .ok (.if_icmp .ne 34, 3) := by decide +kernel
theorem dX1_begin_8 : decode cX1_begin 8 = .ok (.aload_n 0, 1) := by decide +kernel
theorem dX1_begin_9 : decode cX1_begin 9 = .ok (.getfield 20, 3) := by decide +kernel
theorem dX1_begin_12 : decode cX1_begin 12 = .ok (.iload_n 2, 1) := by decide +kernel
theorem dX1_begin_13 : decode cX1_begin 13 = .ok (.if_icmp .ne 26, 3) := by decide +kernel
theorem dX1_begin_16 : decode cX1_begin 16 = .ok (.aload_n 0, 1) := by decide +kernel
theorem dX1_begin_17 : decode cX1_begin 17 = .ok (.getfield 37, 3) := by decide +kernel
theorem dX1_begin_20 : decode cX1_begin 20 = .ok (.iload_n 3, 1) := by decide +kernel
theorem dX1_begin_21 : decode cX1_begin 21 = .ok (.if_icmp .ne 18, 3) := by decide +kernel
theorem dX1_begin_24 : decode cX1_begin 24 = .ok (.aload_n 0, 1) := by decide +kernel
theorem dX1_begin_25 : decode cX1_begin 25 = .ok (.getfield 40, 3) := by decide +kernel
theorem dX1_begin_28 : decode cX1_begin 28 = .ok (.aload_n 0, 1) := by decide +kernel
theorem dX1_begin_29 : decode cX1_begin 29 = .ok (.getfield 23, 3) := by decide +kernel
theorem dX1_begin_32 : decode cX1_begin 32 = .ok (.getfield 43, 3) := by decide +kernel
theorem dX1_begin_35 : decode cX1_begin 35 = .ok (.if_icmp .ne 4, 3) := by decide +kernel
theorem dX1_begin_38 : decode cX1_begin 38 = .ok (.return_, 1) := by decide +kernel
theorem dX1_begin_39 : decode cX1_begin 39 = .ok (.aload_n 0, 1) := by decide +kernel
theorem dX1_begin_40 : decode cX1_begin 40 = .ok (.iload_n 1, 1) := by decide +kernel
theorem dX1_begin_41 : decode cX1_begin 41 = .ok (.putfield 16, 3) := by decide +kernel
theorem dX1_begin_44 : decode cX1_begin 44 = .ok (.aload_n 0, 1) := by decide +kernel
theorem dX1_begin_45 : decode cX1_begin 45 = .ok (.iload_n 2, 1) := by decide +kernel
theorem dX1_begin_46 : decode cX1_begin 46 = .ok (.putfield 20, 3) := by decide +kernel
theorem dX1_begin_49 : decode cX1_begin 49 = .ok (.aload_n 0, 1) := by decide +kernel
theorem dX1_begin_50 : decode cX1_begin 50 = .ok (.iload_n 3, 1) := by decide +kernel
theorem dX1_begin_51 : decode cX1_begin 51 = .ok (.putfield 37, 3) := by decide +kernel
theorem dX1_begin_54 : decode cX1_begin 54 = .ok (.aload_n 0, 1) := by decide +kernel
theorem dX1_begin_55 : decode cX1_begin 55 = .ok (.aload_n 0, 1) := by decide +kernel
theorem dX1_begin_56 : decode cX1_begin 56 = .ok (.getfield 23, 3) := by decide +kernel
theorem dX1_begin_59 : decode cX1_begin 59 = .ok (.getfield 43, 3) := by decide +kernel
theorem dX1_begin_62 : decode cX1_begin 62 = .ok (.putfield 40, 3) := by decide +kernel
theorem dX1_begin_65 : decode cX1_begin 65 = .ok (.aload_n 0, 1) := by decide +kernel
theorem dX1_begin_66 : decode cX1_begin 66 = .ok (.aload_n 0, 1) := by decide +kernel
theorem dX1_begin_67 : decode cX1_begin 67 = .ok (.getfield 23, 3) := by decide +kernel
theorem dX1_begin_70 : decode cX1_begin 70 = .ok (.aload_n 0, 1) := by decide +kernel
theorem dX1_begin_71 : decode cX1_begin 71 = .ok (.getfield 20, 3) := by decide +kernel
theorem dX1_begin_74 : decode cX1_begin 74 = .ok (.invokevirtual 46, 3) := by decide +kernel
theorem dX1_begin_77 : decode cX1_begin 77 = .ok (.putfield 50, 3) := by decide +kernel
theorem dX1_begin_80 : decode cX1_begin 80 = .ok (.aload_n 0, 1) := by decide +kernel
theorem dX1_begin_81 : decode cX1_begin 81 = .ok (.aload_n 0, 1) := by decide +kernel
theorem dX1_begin_82 : decode cX1_begin 82 = .ok (.getfield 23, 3) := by decide +kernel
theorem dX1_begin_85 : decode cX1_begin 85 = .ok (.aload_n 0, 1) := by decide +kernel
theorem dX1_begin_86 : decode cX1_begin 86 = .ok (.getfield 16, 3) := by decide +kernel
theorem dX1_begin_89 : decode cX1_begin 89 = .ok (.invokevirtual 54, 3) := by decide +kernel
theorem dX1_begin_92 : decode cX1_begin 92 = .ok (.putfield 30, 3) := by decide +kernel
theorem dX1_begin_95 : decode cX1_begin 95 = .ok (.aload_n 0, 1) := by decide +kernel
theorem dX1_begin_96 : decode cX1_begin 96 = .ok (.aload_n 0, 1) := by decide +kernel
theorem dX1_begin_97 : decode cX1_begin 97 = .ok (.getfield 23, 3) := by decide +kernel
theorem dX1_begin_100 : decode cX1_begin 100 = .ok (.aload_n 0, 1) := by decide +kernel
theorem dX1_begin_101 : decode cX1_begin 101 = .ok (.getfield 20, 3) := by decide +kernel
theorem dX1_begin_104 : decode cX1_begin 104 = .ok (.invokevirtual 54, 3) := by decide +kernel
theorem dX1_begin_107 : decode cX1_begin 107 = .ok (.putfield 34, 3) := by decide +kernel
theorem dX1_begin_110 : decode cX1_begin 110 = .ok (.bipush 10, 2) := by decide +kernel
theorem dX1_begin_112 : decode cX1_begin 112 = .ok (.aload_n 0, 1) := by decide +kernel
theorem dX1_begin_113 : decode cX1_begin 113 = .ok (.getfield 23, 3) := by decide +kernel
theorem dX1_begin_116 : decode cX1_begin 116 = .ok (.getfield 58, 3) := by decide +kernel
theorem dX1_begin_119 : decode cX1_begin 119 = .ok (.imul, 1) := by decide +kernel
theorem dX1_begin_120 : decode cX1_begin 120 = .ok (.bipush 21, 2) := by decide +kernel
theorem dX1_begin_122 : decode cX1_begin 122 = .ok (.imul, 1) := by decide +kernel
theorem dX1_begin_123 : decode cX1_begin 123 = .ok (.aload_n 0, 1) := by decide +kernel
theorem dX1_begin_124 : decode cX1_begin 124 = .ok (.getfield 23, 3) := by decide +kernel
theorem dX1_begin_127 : decode cX1_begin 127 = .ok (.getfield 58, 3) := by decide +kernel
theorem dX1_begin_130 : decode cX1_begin 130 = .ok (.imul, 1) := by decide +kernel
theorem dX1_begin_131 : decode cX1_begin 131 = .ok (.bipush 18, 2) := by decide +kernel
theorem dX1_begin_133 : decode cX1_begin 133 = .ok (.imul, 1) := by decide +kernel
theorem dX1_begin_134 : decode cX1_begin 134 = .ok (.istore 4, 2) := by decide +kernel
theorem dX1_begin_136 : decode cX1_begin 136 = .ok (.iconst 0, 1) := by decide +kernel
theorem dX1_begin_137 : decode cX1_begin 137 = .ok (.istore 5, 2) := by decide +kernel
theorem dX1_begin_139 : decode cX1_begin 139 = .ok (.iload 5, 2) := by decide +kernel
theorem dX1_begin_141 : decode cX1_begin 141 = .ok (.iload 4, 2) := by decide +kernel
theorem dX1_begin_143 : decode cX1_begin 143 = .ok (.if_icmp .ge 29, 3) := by decide +kernel
theorem dX1_begin_146 : decode cX1_begin 146 = .ok (.iload 5, 2) := by decide +kernel
theorem dX1_begin_148 : decode cX1_begin 148 = .ok (.aload_n 0, 1) := by decide +kernel
theorem dX1_begin_149 : decode cX1_begin 149 = .ok (.getfield 12, 3) := by decide +kernel
theorem dX1_begin_152 : decode cX1_begin 152 = .ok (.arraylength, 1) := by decide +kernel
theorem dX1_begin_153 : decode cX1_begin 153 = .ok (.if_icmp .ge 19, 3) := by decide +kernel
theorem dX1_begin_156 : decode cX1_begin 156 = .ok (.aload_n 0, 1) := by decide +kernel
theorem dX1_begin_157 : decode cX1_begin 157 = .ok (.getfield 12, 3) := by decide +kernel
theorem dX1_begin_160 : decode cX1_begin 160 = .ok (.iload 5, 2) := by decide +kernel
theorem dX1_begin_162 : decode cX1_begin 162 = .ok (.ldc2_w 61, 3) := by decide +kernel
theorem dX1_begin_165 : decode cX1_begin 165 = .ok (.lastore, 1) := by decide +kernel
theorem dX1_begin_166 : decode cX1_begin 166 = .ok (.iinc 5 1, 3) := by decide +kernel
theorem dX1_begin_169 : decode cX1_begin 169 = .ok (.goto (-30), 3) := by decide +kernel
theorem dX1_begin_172 : decode cX1_begin 172 = .ok (.return_, 1) := by decide +kernel
theorem dX1_stateOfX_0 : decode cX1_stateOfX 0 = .ok (.iload_n 1, 1) := by decide +kernel
theorem dX1_stateOfX_1 : decode cX1_stateOfX 1 = .ok (.ifCond .ge 7, 3) := by decide +kernel
theorem dX1_stateOfX_4 : decode cX1_stateOfX 4 = .ok (.iconst (-1), 1) := by decide +kernel
theorem dX1_stateOfX_5 : decode cX1_stateOfX 5 = .ok (.goto 7, 3) := by decide +kernel
theorem dX1_stateOfX_8 : decode cX1_stateOfX 8 = .ok (.iload_n 1, 1) := by decide +kernel
theorem dX1_stateOfX_9 : decode cX1_stateOfX 9 = .ok (.bipush 100, 2) := by decide +kernel
theorem dX1_stateOfX_11 : decode cX1_stateOfX 11 = .ok (.idiv, 1) := by decide +kernel
theorem dX1_stateOfX_12 : decode cX1_stateOfX 12 = .ok (.istore_n 2, 1) := by decide +kernel
theorem dX1_stateOfX_13 : decode cX1_stateOfX 13 = .ok (.iload_n 1, 1) := by decide +kernel
theorem dX1_stateOfX_14 : decode cX1_stateOfX 14 = .ok (.bipush 100, 2) := by decide +kernel
theorem dX1_stateOfX_16 : decode cX1_stateOfX 16 = .ok (.irem, 1) := by decide +kernel
theorem dX1_stateOfX_17 : decode cX1_stateOfX 17 = .ok (.invokestatic 63, 3) := by decide +kernel
theorem dX1_stateOfX_20 : decode cX1_stateOfX 20 = .ok (.istore_n 3, 1) := by decide +kernel
theorem dX1_stateOfX_21 : decode cX1_stateOfX 21 = .ok (.aload_n 0, 1) := by decide +kernel
theorem dX1_stateOfX_22 : decode cX1_stateOfX 22 = .ok (.getfield 23, 3) := by decide +kernel
theorem dX1_stateOfX_25 : decode cX1_stateOfX 25 = .ok (.iload_n 2, 1) := by decide +kernel
theorem dX1_stateOfX_26 : decode cX1_stateOfX 26 = .ok (.invokevirtual 67, 3) := by decide +kernel
theorem dX1_stateOfX_29 : decode cX1_stateOfX 29 = .ok (.ifCond .eq 17, 3) := by decide +kernel
theorem dX1_stateOfX_32 : decode cX1_stateOfX 32 = .ok (.iload_n 3, 1) := by decide +kernel
theorem dX1_stateOfX_33 : decode cX1_stateOfX 33 = .ok (.iconst (-1), 1) := by decide +kernel
theorem dX1_stateOfX_34 : decode cX1_stateOfX 34 = .ok (.if_icmp .eq 12, 3) := by decide +kernel
theorem dX1_stateOfX_37 : decode cX1_stateOfX 37 = .ok (.iload_n 2, 1) := by decide +kernel
theorem dX1_stateOfX_38 : decode cX1_stateOfX 38 = .ok (.bipush 21, 2) := by decide +kernel
theorem dX1_stateOfX_40 : decode cX1_stateOfX 40 = .ok (.imul, 1) := by decide +kernel
theorem dX1_stateOfX_41 : decode cX1_stateOfX 41 = .ok (.iload_n 3, 1) := by decide +kernel
theorem dX1_stateOfX_42 : decode cX1_stateOfX 42 = .ok (.iadd, 1) := by decide +kernel
theorem dX1_stateOfX_43 : decode cX1_stateOfX 43 = .ok (.goto 4, 3) := by decide +kernel
theorem dX1_stateOfX_46 : decode cX1_stateOfX 46 = .ok (.iconst (-1), 1) := by decide +kernel
theorem dX1_stateOfX_47 : decode cX1_stateOfX 47 = .ok (.ireturn, 1) := by decide +kernel
theorem dX1_stateOfY_0 : decode cX1_stateOfY 0 = .ok (.aload_n 0, 1) := by decide +kernel
theorem dX1_stateOfY_1 : decode cX1_stateOfY 1 = .ok (.iload_n 1, 1) := by decide +kernel
theorem dX1_stateOfY_2 : decode cX1_stateOfY 2 = .ok (.invokevirtual 70, 3) := by decide +kernel
theorem dX1_stateOfY_5 : decode cX1_stateOfY 5 = .ok (.istore_n 3, 1) := by decide +kernel
theorem dX1_stateOfY_6 : decode cX1_stateOfY 6 = .ok (.iload_n 3, 1) := by decide +kernel
theorem dX1_stateOfY_7 : decode cX1_stateOfY 7 = .ok (.iconst (-1), 1) := by decide +kernel
theorem dX1_stateOfY_8 : decode cX1_stateOfY 8 = .ok (.if_icmp .ne 7, 3) := by decide +kernel
theorem dX1_stateOfY_11 : decode cX1_stateOfY 11 = .ok (.iconst (-1), 1) := by decide +kernel
theorem dX1_stateOfY_12 : decode cX1_stateOfY 12 = .ok (.goto 7, 3) := by decide +kernel
theorem dX1_stateOfY_15 : decode cX1_stateOfY 15 = .ok (.iload_n 3, 1) := by decide +kernel
theorem dX1_stateOfY_16 : decode cX1_stateOfY 16 = .ok (.bipush 21, 2) := by decide +kernel
theorem dX1_stateOfY_18 : decode cX1_stateOfY 18 = .ok (.irem, 1) := by decide +kernel
theorem dX1_stateOfY_19 : decode cX1_stateOfY 19 = .ok (.istore 4, 2) := by decide +kernel
theorem dX1_stateOfY_21 : decode cX1_stateOfY 21 = .ok (.iload 4, 2) := by decide +kernel
theorem dX1_stateOfY_23 : decode cX1_stateOfY 23 = .ok (.bipush 6, 2) := by decide +kernel
theorem dX1_stateOfY_25 : decode cX1_stateOfY 25 = .ok (.if_icmp .eq 10, 3) := by decide +kernel
theorem dX1_stateOfY_28 : decode cX1_stateOfY 28 = .ok (.iload 4, 2) := by decide +kernel
theorem dX1_stateOfY_30 : decode cX1_stateOfY 30 = .ok (.bipush 16, 2) := by decide +kernel
theorem dX1_stateOfY_32 : decode cX1_stateOfY 32 = .ok (.if_icmp .le 5, 3) := by decide +kernel
theorem dX1_stateOfY_35 : decode cX1_stateOfY 35 = .ok (.iconst (-1), 1) := by decide +kernel
theorem dX1_stateOfY_36 : decode cX1_stateOfY 36 = .ok (.ireturn, 1) := by decide +kernel
theorem dX1_stateOfY_37 : decode cX1_stateOfY 37 = .ok (.iload_n 3, 1) := by decide +kernel
theorem dX1_stateOfY_38 : decode cX1_stateOfY 38 = .ok (.iconst (-1), 1) := by decide +kernel
theorem dX1_stateOfY_39 : decode cX1_stateOfY 39 = .ok (.if_icmp .ne 7, 3) := by decide +kernel
theorem dX1_stateOfY_42 : decode cX1_stateOfY 42 = .ok (.iconst (-1), 1) := by decide +kernel
theorem dX1_stateOfY_43 : decode cX1_stateOfY 43 = .ok (.goto 9, 3) := by decide +kernel
theorem dX1_stateOfY_46 : decode cX1_stateOfY 46 = .ok (.aload_n 0, 1) := by decide +kernel
theorem dX1_stateOfY_47 : decode cX1_stateOfY 47 = .ok (.iload_n 3, 1) := by decide +kernel
theorem dX1_stateOfY_48 : decode cX1_stateOfY 48 = .ok (.iload_n 2, 1) := by decide +kernel
theorem dX1_stateOfY_49 : decode cX1_stateOfY 49 = .ok (.invokevirtual 73, 3) := by decide +kernel
theorem dX1_stateOfY_52 : decode cX1_stateOfY 52 = .ok (.ireturn, 1) := by decide +kernel
theorem dX1_worthOf_0 : decode cX1_worthOf 0 = .ok (.aload_n 0, 1) := by decide +kernel
theorem dX1_worthOf_1 : decode cX1_worthOf 1 = .ok (.iload_n 1, 1) := by decide +kernel
theorem dX1_worthOf_2 : decode cX1_worthOf 2 = .ok (.iload_n 2, 1) := by decide +kernel
theorem dX1_worthOf_3 : decode cX1_worthOf 3 = .ok (.iload_n 3, 1) := by decide +kernel
theorem dX1_worthOf_4 : decode cX1_worthOf 4 = .ok (.invokevirtual 77, 3) := by decide +kernel
theorem dX1_worthOf_7 : decode cX1_worthOf 7 = .ok (.lreturn, 1) := by decide +kernel
theorem dX1_choice_0 : decode cX1_choice 0 = .ok (.iconst (-1), 1) := by decide +kernel
theorem dX1_choice_1 : decode cX1_choice 1 = .ok (.istore 4, 2) := by decide +kernel
theorem dX1_choice_3 : decode cX1_choice 3 = .ok (.ldc2_w 61, 3) := by decide +kernel
theorem dX1_choice_6 : decode cX1_choice 6 = .ok (.lstore 5, 2) := by decide +kernel
theorem dX1_choice_8 : decode cX1_choice 8 = .ok (.iconst 0, 1) := by decide +kernel
theorem dX1_choice_9 : decode cX1_choice 9 = .ok (.istore 7, 2) := by decide +kernel
theorem dX1_choice_11 : decode cX1_choice 11 = .ok (.iload 7, 2) := by decide +kernel
theorem dX1_choice_13 : decode cX1_choice 13 = .ok (.iconst 4, 1) := by decide +kernel
theorem dX1_choice_14 : decode cX1_choice 14 = .ok (.if_icmp .gt 61, 3) := by decide +kernel
theorem dX1_choice_17 : decode cX1_choice 17 = .ok (.iload_n 1, 1) := by decide +kernel
theorem dX1_choice_18 : decode cX1_choice 18 = .ok (.ifCond .le 57, 3) := by decide +kernel
theorem dX1_choice_21 : decode cX1_choice 21 = .ok (.aload_n 0, 1) := by decide +kernel
theorem dX1_choice_22 : decode cX1_choice 22 = .ok (.iload 7, 2) := by decide +kernel
theorem dX1_choice_24 : decode cX1_choice 24 = .ok (.iload_n 2, 1) := by decide +kernel
theorem dX1_choice_25 : decode cX1_choice 25 = .ok (.iload_n 3, 1) := by decide +kernel
theorem dX1_choice_26 : decode cX1_choice 26 = .ok (.invokevirtual 81, 3) := by decide +kernel
theorem dX1_choice_29 : decode cX1_choice 29 = .ok (.ifCond .eq 40, 3) := by decide +kernel
theorem dX1_choice_32 : decode cX1_choice 32 = .ok (.aload_n 0, 1) := by decide +kernel
theorem dX1_choice_33 : decode cX1_choice 33 = .ok (.iload 7, 2) := by decide +kernel
theorem dX1_choice_35 : decode cX1_choice 35 = .ok (.iload_n 1, 1) := by decide +kernel
theorem dX1_choice_36 : decode cX1_choice 36 = .ok (.iload_n 2, 1) := by decide +kernel
theorem dX1_choice_37 : decode cX1_choice 37 = .ok (.iload_n 3, 1) := by decide +kernel
theorem dX1_choice_38 : decode cX1_choice 38 = .ok (.invokevirtual 85, 3) := by decide +kernel
theorem dX1_choice_41 : decode cX1_choice 41 = .ok (.lstore 8, 2) := by decide +kernel
theorem dX1_choice_43 : decode cX1_choice 43 = .ok (.lload 8, 2) := by decide +kernel
theorem dX1_choice_45 : decode cX1_choice 45 = .ok (.lload 5, 2) := by decide +kernel
theorem dX1_choice_47 : decode cX1_choice 47 = .ok (.lcmp, 1) := by decide +kernel
theorem dX1_choice_48 : decode cX1_choice 48 = .ok (.ifCond .le 8, 3) := by decide +kernel
theorem dX1_choice_51 : decode cX1_choice 51 = .ok (.iload 7, 2) := by decide +kernel
theorem dX1_choice_53 : decode cX1_choice 53 = .ok (.goto 5, 3) := by decide +kernel
theorem dX1_choice_56 : decode cX1_choice 56 = .ok (.iload 4, 2) := by decide +kernel
theorem dX1_choice_58 : decode cX1_choice 58 = .ok (.istore 4, 2) := by decide +kernel
theorem dX1_choice_60 : decode cX1_choice 60 = .ok (.lload 5, 2) := by decide +kernel
theorem dX1_choice_62 : decode cX1_choice 62 = .ok (.lload 8, 2) := by decide +kernel
theorem dX1_choice_64 : decode cX1_choice 64 = .ok (.invokestatic 89, 3) := by decide +kernel
theorem dX1_choice_67 : decode cX1_choice 67 = .ok (.lstore 5, 2) := by decide +kernel
theorem dX1_choice_69 : decode cX1_choice 69 = .ok (.iinc 7 1, 3) := by decide +kernel
theorem dX1_choice_72 : decode cX1_choice 72 = .ok (.goto (-61), 3) := by decide +kernel
theorem dX1_choice_75 : decode cX1_choice 75 = .ok (.iload 4, 2) := by decide +kernel
theorem dX1_choice_77 : decode cX1_choice 77 = .ok (.ireturn, 1) := by decide +kernel
theorem dX1_waitsFrom_0 : decode cX1_waitsFrom 0 = .ok (.iload_n 1, 1) := by decide +kernel
theorem dX1_waitsFrom_1 : decode cX1_waitsFrom 1 = .ok (.bipush 21, 2) := by decide +kernel
theorem dX1_waitsFrom_3 : decode cX1_waitsFrom 3 = .ok (.imul, 1) := by decide +kernel
theorem dX1_waitsFrom_4 : decode cX1_waitsFrom 4 = .ok (.istore 4, 2) := by decide +kernel
theorem dX1_waitsFrom_6 : decode cX1_waitsFrom 6 = .ok (.iconst 0, 1) := by decide +kernel
theorem dX1_waitsFrom_7 : decode cX1_waitsFrom 7 = .ok (.istore 5, 2) := by decide +kernel
theorem dX1_waitsFrom_9 : decode cX1_waitsFrom 9 = .ok (.iconst 0, 1) := by decide +kernel
theorem dX1_waitsFrom_10 : decode cX1_waitsFrom 10 = .ok (.istore 6, 2) := by decide +kernel
theorem dX1_waitsFrom_12 : decode cX1_waitsFrom 12 = .ok (.iload 6, 2) := by decide +kernel
theorem dX1_waitsFrom_14 : decode cX1_waitsFrom 14 = .ok (.iload_n 2, 1) := by decide +kernel
theorem dX1_waitsFrom_15 : decode cX1_waitsFrom 15 = .ok (.if_icmp .ge 50, 3) := by decide +kernel
theorem dX1_waitsFrom_18 : decode cX1_waitsFrom 18 = .ok (.iload 6, 2) := by decide +kernel
theorem dX1_waitsFrom_20 : decode cX1_waitsFrom 20 = .ok (.bipush 10, 2) := by decide +kernel
theorem dX1_waitsFrom_22 : decode cX1_waitsFrom 22 = .ok (.if_icmp .ge 43, 3) := by decide +kernel
theorem dX1_waitsFrom_25 : decode cX1_waitsFrom 25 = .ok (.aload_n 0, 1) := by decide +kernel
theorem dX1_waitsFrom_26 : decode cX1_waitsFrom 26 = .ok (.iload_n 2, 1) := by decide +kernel
theorem dX1_waitsFrom_27 : decode cX1_waitsFrom 27 = .ok (.iload 6, 2) := by decide +kernel
theorem dX1_waitsFrom_29 : decode cX1_waitsFrom 29 = .ok (.isub, 1) := by decide +kernel
theorem dX1_waitsFrom_30 : decode cX1_waitsFrom 30 = .ok (.iload 4, 2) := by decide +kernel
theorem dX1_waitsFrom_32 : decode cX1_waitsFrom 32 = .ok (.bipush 6, 2) := by decide +kernel
theorem dX1_waitsFrom_34 : decode cX1_waitsFrom 34 = .ok (.iadd, 1) := by decide +kernel
theorem dX1_waitsFrom_35 : decode cX1_waitsFrom 35 = .ok (.iload 4, 2) := by decide +kernel
theorem dX1_waitsFrom_37 : decode cX1_waitsFrom 37 = .ok (.iconst 5, 1) := by decide +kernel
theorem dX1_waitsFrom_38 : decode cX1_waitsFrom 38 = .ok (.iload_n 3, 1) := by decide +kernel
theorem dX1_waitsFrom_39 : decode cX1_waitsFrom 39 = .ok (.iload 6, 2) := by decide +kernel
theorem dX1_waitsFrom_41 : decode cX1_waitsFrom 41 = .ok (.iadd, 1) := by decide +kernel
theorem dX1_waitsFrom_42 : decode cX1_waitsFrom 42 = .ok (.invokestatic 95, 3) := by decide +kernel
theorem dX1_waitsFrom_45 : decode cX1_waitsFrom 45 = .ok (.iadd, 1) := by decide +kernel
theorem dX1_waitsFrom_46 : decode cX1_waitsFrom 46 = .ok (.invokevirtual 98, 3) := by decide +kernel
theorem dX1_waitsFrom_49 : decode cX1_waitsFrom 49 = .ok (.iconst 2, 1) := by decide +kernel
theorem dX1_waitsFrom_50 : decode cX1_waitsFrom 50 = .ok (.if_icmp .eq 6, 3) := by decide +kernel
theorem dX1_waitsFrom_53 : decode cX1_waitsFrom 53 = .ok (.goto 12, 3) := by decide +kernel
theorem dX1_waitsFrom_56 : decode cX1_waitsFrom 56 = .ok (.iinc 5 1, 3) := by decide +kernel
theorem dX1_waitsFrom_59 : decode cX1_waitsFrom 59 = .ok (.iinc 6 1, 3) := by decide +kernel
theorem dX1_waitsFrom_62 : decode cX1_waitsFrom 62 = .ok (.goto (-50), 3) := by decide +kernel
theorem dX1_waitsFrom_65 : decode cX1_waitsFrom 65 = .ok (.iload 5, 2) := by decide +kernel
theorem dX1_waitsFrom_67 : decode cX1_waitsFrom 67 = .ok (.ireturn, 1) := by decide +kernel
theorem dX1_modeOf_0 : decode cX1_modeOf 0 = .ok (.iload_n 0, 1) := by decide +kernel
theorem dX1_modeOf_1 : decode cX1_modeOf 1 = .ok (.iconst 0, 1) := by decide +kernel
theorem dX1_modeOf_2 : decode cX1_modeOf 2 = .ok (.iconst 5, 1) := by decide +kernel
theorem dX1_modeOf_3 : decode cX1_modeOf 3 = .ok (.invokestatic 102, 3) := by decide +kernel
theorem dX1_modeOf_6 : decode cX1_modeOf 6 = .ok (.ifCond .eq 5, 3) := by decide +kernel
theorem dX1_modeOf_9 : decode cX1_modeOf 9 = .ok (.iload_n 0, 1) := by decide +kernel
theorem dX1_modeOf_10 : decode cX1_modeOf 10 = .ok (.ireturn, 1) := by decide +kernel
theorem dX1_modeOf_11 : decode cX1_modeOf 11 = .ok (.iload_n 0, 1) := by decide +kernel
theorem dX1_modeOf_12 : decode cX1_modeOf 12 = .ok (.bipush 10, 2) := by decide +kernel
theorem dX1_modeOf_14 : decode cX1_modeOf 14 = .ok (.bipush 16, 2) := by decide +kernel
theorem dX1_modeOf_16 : decode cX1_modeOf 16 = .ok (.invokestatic 102, 3) := by decide +kernel
theorem dX1_modeOf_19 : decode cX1_modeOf 19 = .ok (.ifCond .eq 11, 3) := by decide +kernel
theorem dX1_modeOf_22 : decode cX1_modeOf 22 = .ok (.iload_n 0, 1) := by decide +kernel
theorem dX1_modeOf_23 : decode cX1_modeOf 23 = .ok (.bipush 10, 2) := by decide +kernel
theorem dX1_modeOf_25 : decode cX1_modeOf 25 = .ok (.isub, 1) := by decide +kernel
theorem dX1_modeOf_26 : decode cX1_modeOf 26 = .ok (.bipush 6, 2) := by decide +kernel
theorem dX1_modeOf_28 : decode cX1_modeOf 28 = .ok (.iadd, 1) := by decide +kernel
theorem dX1_modeOf_29 : decode cX1_modeOf 29 = .ok (.ireturn, 1) := by decide +kernel
theorem dX1_modeOf_30 : decode cX1_modeOf 30 = .ok (.iload_n 0, 1) := by decide +kernel
theorem dX1_modeOf_31 : decode cX1_modeOf 31 = .ok (.bipush 21, 2) := by decide +kernel
theorem dX1_modeOf_33 : decode cX1_modeOf 33 = .ok (.bipush 24, 2) := by decide +kernel
theorem dX1_modeOf_35 : decode cX1_modeOf 35 = .ok (.invokestatic 102, 3) := by decide +kernel
theorem dX1_modeOf_38 : decode cX1_modeOf 38 = .ok (.ifCond .eq 11, 3) := by decide +kernel
theorem dX1_modeOf_41 : decode cX1_modeOf 41 = .ok (.iload_n 0, 1) := by decide +kernel
theorem dX1_modeOf_42 : decode cX1_modeOf 42 = .ok (.bipush 20, 2) := by decide +kernel
theorem dX1_modeOf_44 : decode cX1_modeOf 44 = .ok (.isub, 1) := by decide +kernel
theorem dX1_modeOf_45 : decode cX1_modeOf 45 = .ok (.bipush 12, 2) := by decide +kernel
theorem dX1_modeOf_47 : decode cX1_modeOf 47 = .ok (.iadd, 1) := by decide +kernel
theorem dX1_modeOf_48 : decode cX1_modeOf 48 = .ok (.ireturn, 1) := by decide +kernel
theorem dX1_modeOf_49 : decode cX1_modeOf 49 = .ok (.iload_n 0, 1) := by decide +kernel
theorem dX1_modeOf_50 : decode cX1_modeOf 50 = .ok (.bipush 31, 2) := by decide +kernel
theorem dX1_modeOf_52 : decode cX1_modeOf 52 = .ok (.bipush 34, 2) := by decide +kernel
theorem dX1_modeOf_54 : decode cX1_modeOf 54 = .ok (.invokestatic 102, 3) := by decide +kernel
theorem dX1_modeOf_57 : decode cX1_modeOf 57 = .ok (.ifCond .eq 13, 3) := by decide +kernel
theorem dX1_modeOf_60 : decode cX1_modeOf 60 = .ok (.iload_n 0, 1) := by decide +kernel
theorem dX1_modeOf_61 : decode cX1_modeOf 61 = .ok (.bipush 30, 2) := by decide +kernel
theorem dX1_modeOf_63 : decode cX1_modeOf 63 = .ok (.isub, 1) := by decide +kernel
theorem dX1_modeOf_64 : decode cX1_modeOf 64 = .ok (.bipush 16, 2) := by decide +kernel
theorem dX1_modeOf_66 : decode cX1_modeOf 66 = .ok (.iadd, 1) := by decide +kernel
theorem dX1_modeOf_67 : decode cX1_modeOf 67 = .ok (.goto 4, 3) := by decide +kernel
theorem dX1_modeOf_70 : decode cX1_modeOf 70 = .ok (.iconst (-1), 1) := by decide +kernel
theorem dX1_modeOf_71 : decode cX1_modeOf 71 = .ok (.ireturn, 1) := by decide +kernel
theorem dX1_value_0 : decode cX1_value 0 = .ok (.iload_n 2, 1) := by decide +kernel
theorem dX1_value_1 : decode cX1_value 1 = .ok (.bipush 105, 2) := by decide +kernel
theorem dX1_value_3 : decode cX1_value 3 = .ok (.if_icmp .ne 22, 3) := by decide +kernel
theorem dX1_value_6 : decode cX1_value 6 = .ok (.iload_n 3, 1) := by decide +kernel
theorem dX1_value_7 : decode cX1_value 7 = .ok (.bipush 105, 2) := by decide +kernel
theorem dX1_value_9 : decode cX1_value 9 = .ok (.if_icmp .ne 7, 3) := by decide +kernel
theorem dX1_value_12 : decode cX1_value 12 = .ok (.lconst 1, 1) := by decide +kernel
theorem dX1_value_13 : decode cX1_value 13 = .ok (.goto 6, 3) := by decide +kernel
theorem dX1_value_16 : decode cX1_value 16 = .ok (.ldc2_w 105, 3) := by decide +kernel
theorem dX1_value_19 : decode cX1_value 19 = .ok (.bipush 6, 2) := by decide +kernel
theorem dX1_value_21 : decode cX1_value 21 = .ok (.iload_n 1, 1) := by decide +kernel
theorem dX1_value_22 : decode cX1_value 22 = .ok (.imul, 1) := by decide +kernel
theorem dX1_value_23 : decode cX1_value 23 = .ok (.lshl, 1) := by decide +kernel
theorem dX1_value_24 : decode cX1_value 24 = .ok (.lreturn, 1) := by decide +kernel
theorem dX1_value_25 : decode cX1_value 25 = .ok (.iload_n 3, 1) := by decide +kernel
theorem dX1_value_26 : decode cX1_value 26 = .ok (.bipush 105, 2) := by decide +kernel
theorem dX1_value_28 : decode cX1_value 28 = .ok (.if_icmp .eq 7, 3) := by decide +kernel
theorem dX1_value_31 : decode cX1_value 31 = .ok (.iload_n 1, 1) := by decide +kernel
theorem dX1_value_32 : decode cX1_value 32 = .ok (.ifCond .gt 15, 3) := by decide +kernel
theorem dX1_value_35 : decode cX1_value 35 = .ok (.iload_n 3, 1) := by decide +kernel
theorem dX1_value_36 : decode cX1_value 36 = .ok (.bipush 105, 2) := by decide +kernel
theorem dX1_value_38 : decode cX1_value 38 = .ok (.if_icmp .ne 7, 3) := by decide +kernel
theorem dX1_value_41 : decode cX1_value 41 = .ok (.lconst 0, 1) := by decide +kernel
theorem dX1_value_42 : decode cX1_value 42 = .ok (.goto 4, 3) := by decide +kernel
theorem dX1_value_45 : decode cX1_value 45 = .ok (.lconst 1, 1) := by decide +kernel
theorem dX1_value_46 : decode cX1_value 46 = .ok (.lreturn, 1) := by decide +kernel
theorem dX1_value_47 : decode cX1_value 47 = .ok (.iload_n 1, 1) := by decide +kernel
theorem dX1_value_48 : decode cX1_value 48 = .ok (.iconst 1, 1) := by decide +kernel
theorem dX1_value_49 : decode cX1_value 49 = .ok (.isub, 1) := by decide +kernel
theorem dX1_value_50 : decode cX1_value 50 = .ok (.aload_n 0, 1) := by decide +kernel
theorem dX1_value_51 : decode cX1_value 51 = .ok (.getfield 23, 3) := by decide +kernel
theorem dX1_value_54 : decode cX1_value 54 = .ok (.getfield 58, 3) := by decide +kernel
theorem dX1_value_57 : decode cX1_value 57 = .ok (.imul, 1) := by decide +kernel
theorem dX1_value_58 : decode cX1_value 58 = .ok (.bipush 21, 2) := by decide +kernel
theorem dX1_value_60 : decode cX1_value 60 = .ok (.imul, 1) := by decide +kernel
theorem dX1_value_61 : decode cX1_value 61 = .ok (.iload_n 2, 1) := by decide +kernel
theorem dX1_value_62 : decode cX1_value 62 = .ok (.iadd, 1) := by decide +kernel
theorem dX1_value_63 : decode cX1_value 63 = .ok (.istore 4, 2) := by decide +kernel
theorem dX1_value_65 : decode cX1_value 65 = .ok (.iload 4, 2) := by decide +kernel
theorem dX1_value_67 : decode cX1_value 67 = .ok (.aload_n 0, 1) := by decide +kernel
theorem dX1_value_68 : decode cX1_value 68 = .ok (.getfield 23, 3) := by decide +kernel
theorem dX1_value_71 : decode cX1_value 71 = .ok (.getfield 58, 3) := by decide +kernel
theorem dX1_value_74 : decode cX1_value 74 = .ok (.imul, 1) := by decide +kernel
theorem dX1_value_75 : decode cX1_value 75 = .ok (.iload_n 3, 1) := by decide +kernel
theorem dX1_value_76 : decode cX1_value 76 = .ok (.bipush 21, 2) := by decide +kernel
theorem dX1_value_78 : decode cX1_value 78 = .ok (.idiv, 1) := by decide +kernel
theorem dX1_value_79 : decode cX1_value 79 = .ok (.iadd, 1) := by decide +kernel
theorem dX1_value_80 : decode cX1_value 80 = .ok (.bipush 18, 2) := by decide +kernel
theorem dX1_value_82 : decode cX1_value 82 = .ok (.imul, 1) := by decide +kernel
theorem dX1_value_83 : decode cX1_value 83 = .ok (.iload_n 3, 1) := by decide +kernel
theorem dX1_value_84 : decode cX1_value 84 = .ok (.bipush 21, 2) := by decide +kernel
theorem dX1_value_86 : decode cX1_value 86 = .ok (.irem, 1) := by decide +kernel
theorem dX1_value_87 : decode cX1_value 87 = .ok (.iadd, 1) := by decide +kernel
theorem dX1_value_88 : decode cX1_value 88 = .ok (.istore 4, 2) := by decide +kernel
theorem dX1_value_90 : decode cX1_value 90 = .ok (.iload 4, 2) := by decide +kernel
theorem dX1_value_92 : decode cX1_value 92 = .ok (.ifCond .lt 13, 3) := by decide +kernel
theorem dX1_value_95 : decode cX1_value 95 = .ok (.iload 4, 2) := by decide +kernel
theorem dX1_value_97 : decode cX1_value 97 = .ok (.aload_n 0, 1) := by decide +kernel
theorem dX1_value_98 : decode cX1_value 98 = .ok (.getfield 12, 3) := by decide +kernel
theorem dX1_value_101 : decode cX1_value 101 = .ok (.arraylength, 1) := by decide +kernel
theorem dX1_value_102 : decode cX1_value 102 = .ok (.if_icmp .lt 5, 3) := by decide +kernel
theorem dX1_value_105 : decode cX1_value 105 = .ok (.lconst 0, 1) := by decide +kernel
theorem dX1_value_106 : decode cX1_value 106 = .ok (.lreturn, 1) := by decide +kernel
theorem dX1_value_107 : decode cX1_value 107 = .ok (.aload_n 0, 1) := by decide +kernel
theorem dX1_value_108 : decode cX1_value 108 = .ok (.getfield 12, 3) := by decide +kernel
theorem dX1_value_111 : decode cX1_value 111 = .ok (.iload 4, 2) := by decide +kernel
theorem dX1_value_113 : decode cX1_value 113 = .ok (.laload, 1) := by decide +kernel
theorem dX1_value_114 : decode cX1_value 114 = .ok (.ldc2_w 61, 3) := by decide +kernel
theorem dX1_value_117 : decode cX1_value 117 = .ok (.lcmp, 1) := by decide +kernel
theorem dX1_value_118 : decode cX1_value 118 = .ok (.ifCond .eq 11, 3) := by decide +kernel
theorem dX1_value_121 : decode cX1_value 121 = .ok (.aload_n 0, 1) := by decide +kernel
theorem dX1_value_122 : decode cX1_value 122 = .ok (.getfield 12, 3) := by decide +kernel
theorem dX1_value_125 : decode cX1_value 125 = .ok (.iload 4, 2) := by decide +kernel
theorem dX1_value_127 : decode cX1_value 127 = .ok (.laload, 1) := by decide +kernel
theorem dX1_value_128 : decode cX1_value 128 = .ok (.lreturn, 1) := by decide +kernel
theorem dX1_value_129 : decode cX1_value 129 = .ok (.lconst 0, 1) := by decide +kernel
theorem dX1_value_130 : decode cX1_value 130 = .ok (.lstore 5, 2) := by decide +kernel
theorem dX1_value_132 : decode cX1_value 132 = .ok (.iconst (-1), 1) := by decide +kernel
theorem dX1_value_133 : decode cX1_value 133 = .ok (.istore 7, 2) := by decide +kernel
theorem dX1_value_135 : decode cX1_value 135 = .ok (.iload 7, 2) := by decide +kernel
theorem dX1_value_137 : decode cX1_value 137 = .ok (.iconst 4, 1) := by decide +kernel
theorem dX1_value_138 : decode cX1_value 138 = .ok (.if_icmp .gt 36, 3) := by decide +kernel
theorem dX1_value_141 : decode cX1_value 141 = .ok (.aload_n 0, 1) := by decide +kernel
theorem dX1_value_142 : decode cX1_value 142 = .ok (.iload 7, 2) := by decide +kernel
theorem dX1_value_144 : decode cX1_value 144 = .ok (.iload_n 2, 1) := by decide +kernel
theorem dX1_value_145 : decode cX1_value 145 = .ok (.iload_n 3, 1) := by decide +kernel
theorem dX1_value_146 : decode cX1_value 146 = .ok (.invokevirtual 81, 3) := by decide +kernel
theorem dX1_value_149 : decode cX1_value 149 = .ok (.ifCond .eq 19, 3) := by decide +kernel
theorem dX1_value_152 : decode cX1_value 152 = .ok (.lload 5, 2) := by decide +kernel
theorem dX1_value_154 : decode cX1_value 154 = .ok (.aload_n 0, 1) := by decide +kernel
theorem dX1_value_155 : decode cX1_value 155 = .ok (.iload 7, 2) := by decide +kernel
theorem dX1_value_157 : decode cX1_value 157 = .ok (.iload_n 1, 1) := by decide +kernel
theorem dX1_value_158 : decode cX1_value 158 = .ok (.iload_n 2, 1) := by decide +kernel
theorem dX1_value_159 : decode cX1_value 159 = .ok (.iload_n 3, 1) := by decide +kernel
theorem dX1_value_160 : decode cX1_value 160 = .ok (.invokevirtual 85, 3) := by decide +kernel
theorem dX1_value_163 : decode cX1_value 163 = .ok (.invokestatic 89, 3) := by decide +kernel
theorem dX1_value_166 : decode cX1_value 166 = .ok (.lstore 5, 2) := by decide +kernel
theorem dX1_value_168 : decode cX1_value 168 = .ok (.iinc 7 1, 3) := by decide +kernel
theorem dX1_value_171 : decode cX1_value 171 = .ok (.goto (-36), 3) := by decide +kernel
theorem dX1_value_174 : decode cX1_value 174 = .ok (.aload_n 0, 1) := by decide +kernel
theorem dX1_value_175 : decode cX1_value 175 = .ok (.getfield 12, 3) := by decide +kernel
theorem dX1_value_178 : decode cX1_value 178 = .ok (.iload 4, 2) := by decide +kernel
theorem dX1_value_180 : decode cX1_value 180 = .ok (.lload 5, 2) := by decide +kernel
theorem dX1_value_182 : decode cX1_value 182 = .ok (.lastore, 1) := by decide +kernel
theorem dX1_value_183 : decode cX1_value 183 = .ok (.lload 5, 2) := by decide +kernel
theorem dX1_value_185 : decode cX1_value 185 = .ok (.lreturn, 1) := by decide +kernel
theorem dX1_can_0 : decode cX1_can 0 = .ok (.iload_n 2, 1) := by decide +kernel
theorem dX1_can_1 : decode cX1_can 1 = .ok (.bipush 21, 2) := by decide +kernel
theorem dX1_can_3 : decode cX1_can 3 = .ok (.irem, 1) := by decide +kernel
theorem dX1_can_4 : decode cX1_can 4 = .ok (.istore 4, 2) := by decide +kernel
theorem dX1_can_6 : decode cX1_can 6 = .ok (.iload 4, 2) := by decide +kernel
theorem dX1_can_8 : decode cX1_can 8 = .ok (.bipush 6, 2) := by decide +kernel
theorem dX1_can_10 : decode cX1_can 10 = .ok (.if_icmp .gt 8, 3) := by decide +kernel
theorem dX1_can_13 : decode cX1_can 13 = .ok (.iload_n 1, 1) := by decide +kernel
theorem dX1_can_14 : decode cX1_can 14 = .ok (.iconst (-1), 1) := by decide +kernel
theorem dX1_can_15 : decode cX1_can 15 = .ok (.if_icmp .ne 21, 3) := by decide +kernel
theorem dX1_can_18 : decode cX1_can 18 = .ok (.iload 4, 2) := by decide +kernel
theorem dX1_can_20 : decode cX1_can 20 = .ok (.bipush 6, 2) := by decide +kernel
theorem dX1_can_22 : decode cX1_can 22 = .ok (.if_icmp .le 12, 3) := by decide +kernel
theorem dX1_can_25 : decode cX1_can 25 = .ok (.iload_n 1, 1) := by decide +kernel
theorem dX1_can_26 : decode cX1_can 26 = .ok (.iconst (-1), 1) := by decide +kernel
theorem dX1_can_27 : decode cX1_can 27 = .ok (.if_icmp .ne 7, 3) := by decide +kernel
theorem dX1_can_30 : decode cX1_can 30 = .ok (.iconst 1, 1) := by decide +kernel
theorem dX1_can_31 : decode cX1_can 31 = .ok (.goto 4, 3) := by decide +kernel
theorem dX1_can_34 : decode cX1_can 34 = .ok (.iconst 0, 1) := by decide +kernel
theorem dX1_can_35 : decode cX1_can 35 = .ok (.ireturn, 1) := by decide +kernel
theorem dX1_can_36 : decode cX1_can 36 = .ok (.iload_n 1, 1) := by decide +kernel
theorem dX1_can_37 : decode cX1_can 37 = .ok (.iconst 2, 1) := by decide +kernel
theorem dX1_can_38 : decode cX1_can 38 = .ok (.if_icmp .lt 19, 3) := by decide +kernel
theorem dX1_can_41 : decode cX1_can 41 = .ok (.aload_n 0, 1) := by decide +kernel
theorem dX1_can_42 : decode cX1_can 42 = .ok (.getfield 37, 3) := by decide +kernel
theorem dX1_can_45 : decode cX1_can 45 = .ok (.iload_n 1, 1) := by decide +kernel
theorem dX1_can_46 : decode cX1_can 46 = .ok (.iconst 2, 1) := by decide +kernel
theorem dX1_can_47 : decode cX1_can 47 = .ok (.isub, 1) := by decide +kernel
theorem dX1_can_48 : decode cX1_can 48 = .ok (.ishr, 1) := by decide +kernel
theorem dX1_can_49 : decode cX1_can 49 = .ok (.iconst 1, 1) := by decide +kernel
theorem dX1_can_50 : decode cX1_can 50 = .ok (.iand, 1) := by decide +kernel
theorem dX1_can_51 : decode cX1_can 51 = .ok (.iconst 1, 1) := by decide +kernel
theorem dX1_can_52 : decode cX1_can 52 = .ok (.if_icmp .ne 5, 3) := by decide +kernel
theorem dX1_can_55 : decode cX1_can 55 = .ok (.iconst 0, 1) := by decide +kernel
theorem dX1_can_56 : decode cX1_can 56 = .ok (.ireturn, 1) := by decide +kernel
theorem dX1_can_57 : decode cX1_can 57 = .ok (.iload_n 1, 1) := by decide +kernel
theorem dX1_can_58 : decode cX1_can 58 = .ok (.ifCond .ne 16, 3) := by decide +kernel
theorem dX1_can_61 : decode cX1_can 61 = .ok (.iload 4, 2) := by decide +kernel
theorem dX1_can_63 : decode cX1_can 63 = .ok (.bipush 6, 2) := by decide +kernel
theorem dX1_can_65 : decode cX1_can 65 = .ok (.if_icmp .eq 7, 3) := by decide +kernel
theorem dX1_can_68 : decode cX1_can 68 = .ok (.iconst 1, 1) := by decide +kernel
theorem dX1_can_69 : decode cX1_can 69 = .ok (.goto 4, 3) := by decide +kernel
theorem dX1_can_72 : decode cX1_can 72 = .ok (.iconst 0, 1) := by decide +kernel
theorem dX1_can_73 : decode cX1_can 73 = .ok (.ireturn, 1) := by decide +kernel
theorem dX1_can_74 : decode cX1_can 74 = .ok (.iload_n 1, 1) := by decide +kernel
theorem dX1_can_75 : decode cX1_can 75 = .ok (.iconst 3, 1) := by decide +kernel
theorem dX1_can_76 : decode cX1_can 76 = .ok (.if_icmp .ne 40, 3) := by decide +kernel
theorem dX1_can_79 : decode cX1_can 79 = .ok (.aload_n 0, 1) := by decide +kernel
theorem dX1_can_80 : decode cX1_can 80 = .ok (.getfield 23, 3) := by decide +kernel
theorem dX1_can_83 : decode cX1_can 83 = .ok (.getfield 107, 3) := by decide +kernel
theorem dX1_can_86 : decode cX1_can 86 = .ok (.ifCond .ne 28, 3) := by decide +kernel
theorem dX1_can_89 : decode cX1_can 89 = .ok (.iload_n 2, 1) := by decide +kernel
theorem dX1_can_90 : decode cX1_can 90 = .ok (.bipush 21, 2) := by decide +kernel
theorem dX1_can_92 : decode cX1_can 92 = .ok (.idiv, 1) := by decide +kernel
theorem dX1_can_93 : decode cX1_can 93 = .ok (.iload_n 3, 1) := by decide +kernel
theorem dX1_can_94 : decode cX1_can 94 = .ok (.bipush 21, 2) := by decide +kernel
theorem dX1_can_96 : decode cX1_can 96 = .ok (.idiv, 1) := by decide +kernel
theorem dX1_can_97 : decode cX1_can 97 = .ok (.if_icmp .ne 17, 3) := by decide +kernel
theorem dX1_can_100 : decode cX1_can 100 = .ok (.iload_n 3, 1) := by decide +kernel
theorem dX1_can_101 : decode cX1_can 101 = .ok (.bipush 21, 2) := by decide +kernel
theorem dX1_can_103 : decode cX1_can 103 = .ok (.irem, 1) := by decide +kernel
theorem dX1_can_104 : decode cX1_can 104 = .ok (.invokestatic 110, 3) := by decide +kernel
theorem dX1_can_107 : decode cX1_can 107 = .ok (.ifCond .eq 7, 3) := by decide +kernel
theorem dX1_can_110 : decode cX1_can 110 = .ok (.iconst 1, 1) := by decide +kernel
theorem dX1_can_111 : decode cX1_can 111 = .ok (.goto 4, 3) := by decide +kernel
theorem dX1_can_114 : decode cX1_can 114 = .ok (.iconst 0, 1) := by decide +kernel
theorem dX1_can_115 : decode cX1_can 115 = .ok (.ireturn, 1) := by decide +kernel
theorem dX1_can_116 : decode cX1_can 116 = .ok (.iload_n 1, 1) := by decide +kernel
theorem dX1_can_117 : decode cX1_can 117 = .ok (.iconst 4, 1) := by decide +kernel
theorem dX1_can_118 : decode cX1_can 118 = .ok (.if_icmp .eq 10, 3) := by decide +kernel
theorem dX1_can_121 : decode cX1_can 121 = .ok (.iload 4, 2) := by decide +kernel
theorem dX1_can_123 : decode cX1_can 123 = .ok (.bipush 6, 2) := by decide +kernel
theorem dX1_can_125 : decode cX1_can 125 = .ok (.if_icmp .ne 7, 3) := by decide +kernel
theorem dX1_can_128 : decode cX1_can 128 = .ok (.iconst 1, 1) := by decide +kernel
theorem dX1_can_129 : decode cX1_can 129 = .ok (.goto 4, 3) := by decide +kernel
theorem dX1_can_132 : decode cX1_can 132 = .ok (.iconst 0, 1) := by decide +kernel
theorem dX1_can_133 : decode cX1_can 133 = .ok (.ireturn, 1) := by decide +kernel
theorem dX1_doing_0 : decode cX1_doing 0 = .ok (.iload_n 3, 1) := by decide +kernel
theorem dX1_doing_1 : decode cX1_doing 1 = .ok (.bipush 21, 2) := by decide +kernel
theorem dX1_doing_3 : decode cX1_doing 3 = .ok (.idiv, 1) := by decide +kernel
theorem dX1_doing_4 : decode cX1_doing 4 = .ok (.istore 5, 2) := by decide +kernel
theorem dX1_doing_6 : decode cX1_doing 6 = .ok (.iload_n 3, 1) := by decide +kernel
theorem dX1_doing_7 : decode cX1_doing 7 = .ok (.bipush 21, 2) := by decide +kernel
theorem dX1_doing_9 : decode cX1_doing 9 = .ok (.irem, 1) := by decide +kernel
theorem dX1_doing_10 : decode cX1_doing 10 = .ok (.istore 6, 2) := by decide +kernel
theorem dX1_doing_12 : decode cX1_doing 12 = .ok (.iload 5, 2) := by decide +kernel
theorem dX1_doing_14 : decode cX1_doing 14 = .ok (.iload 4, 2) := by decide +kernel
theorem dX1_doing_16 : decode cX1_doing 16 = .ok (.bipush 21, 2) := by decide +kernel
theorem dX1_doing_18 : decode cX1_doing 18 = .ok (.idiv, 1) := by decide +kernel
theorem dX1_doing_19 : decode cX1_doing 19 = .ok (.if_icmp .ne 7, 3) := by decide +kernel
theorem dX1_doing_22 : decode cX1_doing 22 = .ok (.iconst 1, 1) := by decide +kernel
theorem dX1_doing_23 : decode cX1_doing 23 = .ok (.goto 4, 3) := by decide +kernel
theorem dX1_doing_26 : decode cX1_doing 26 = .ok (.iconst 0, 1) := by decide +kernel
theorem dX1_doing_27 : decode cX1_doing 27 = .ok (.istore 7, 2) := by decide +kernel
theorem dX1_doing_29 : decode cX1_doing 29 = .ok (.iload_n 1, 1) := by decide +kernel
theorem dX1_doing_30 : decode cX1_doing 30 = .ok (.tableswitch 152 (-1) 4 #[134, 38, 47, 152, 47, 86], 38) := by decide +kernel
theorem dX1_doing_68 : decode cX1_doing 68 = .ok (.aload_n 0, 1) := by decide +kernel
theorem dX1_doing_69 : decode cX1_doing 69 = .ok (.iload_n 2, 1) := by decide +kernel
theorem dX1_doing_70 : decode cX1_doing 70 = .ok (.iload_n 3, 1) := by decide +kernel
theorem dX1_doing_71 : decode cX1_doing 71 = .ok (.iload 4, 2) := by decide +kernel
theorem dX1_doing_73 : decode cX1_doing 73 = .ok (.invokevirtual 113, 3) := by decide +kernel
theorem dX1_doing_76 : decode cX1_doing 76 = .ok (.lreturn, 1) := by decide +kernel
theorem dX1_doing_77 : decode cX1_doing 77 = .ok (.ldc2_w 116, 3) := by decide +kernel
theorem dX1_doing_80 : decode cX1_doing 80 = .ok (.aload_n 0, 1) := by decide +kernel
theorem dX1_doing_81 : decode cX1_doing 81 = .ok (.iload_n 2, 1) := by decide +kernel
theorem dX1_doing_82 : decode cX1_doing 82 = .ok (.aload_n 0, 1) := by decide +kernel
theorem dX1_doing_83 : decode cX1_doing 83 = .ok (.iload 5, 2) := by decide +kernel
theorem dX1_doing_85 : decode cX1_doing 85 = .ok (.aload_n 0, 1) := by decide +kernel
theorem dX1_doing_86 : decode cX1_doing 86 = .ok (.getfield 30, 3) := by decide +kernel
theorem dX1_doing_89 : decode cX1_doing 89 = .ok (.iload 5, 2) := by decide +kernel
theorem dX1_doing_91 : decode cX1_doing 91 = .ok (.invokevirtual 118, 3) := by decide +kernel
theorem dX1_doing_94 : decode cX1_doing 94 = .ok (.iconst 1, 1) := by decide +kernel
theorem dX1_doing_95 : decode cX1_doing 95 = .ok (.isub, 1) := by decide +kernel
theorem dX1_doing_96 : decode cX1_doing 96 = .ok (.invokevirtual 121, 3) := by decide +kernel
theorem dX1_doing_99 : decode cX1_doing 99 = .ok (.iload 4, 2) := by decide +kernel
theorem dX1_doing_101 : decode cX1_doing 101 = .ok (.iload 7, 2) := by decide +kernel
theorem dX1_doing_103 : decode cX1_doing 103 = .ok (.ifCond .eq 7, 3) := by decide +kernel
theorem dX1_doing_106 : decode cX1_doing 106 = .ok (.iconst 1, 1) := by decide +kernel
theorem dX1_doing_107 : decode cX1_doing 107 = .ok (.goto 4, 3) := by decide +kernel
theorem dX1_doing_110 : decode cX1_doing 110 = .ok (.iconst 0, 1) := by decide +kernel
theorem dX1_doing_111 : decode cX1_doing 111 = .ok (.invokevirtual 124, 3) := by decide +kernel
theorem dX1_doing_114 : decode cX1_doing 114 = .ok (.lmul, 1) := by decide +kernel
theorem dX1_doing_115 : decode cX1_doing 115 = .ok (.lreturn, 1) := by decide +kernel
theorem dX1_doing_116 : decode cX1_doing 116 = .ok (.ldc2_w 116, 3) := by decide +kernel
theorem dX1_doing_119 : decode cX1_doing 119 = .ok (.aload_n 0, 1) := by decide +kernel
theorem dX1_doing_120 : decode cX1_doing 120 = .ok (.iload_n 2, 1) := by decide +kernel
theorem dX1_doing_121 : decode cX1_doing 121 = .ok (.iload 5, 2) := by decide +kernel
theorem dX1_doing_123 : decode cX1_doing 123 = .ok (.aload_n 0, 1) := by decide +kernel
theorem dX1_doing_124 : decode cX1_doing 124 = .ok (.getfield 23, 3) := by decide +kernel
theorem dX1_doing_127 : decode cX1_doing 127 = .ok (.getfield 127, 3) := by decide +kernel
theorem dX1_doing_130 : decode cX1_doing 130 = .ok (.iconst 1, 1) := by decide +kernel
theorem dX1_doing_131 : decode cX1_doing 131 = .ok (.isub, 1) := by decide +kernel
theorem dX1_doing_132 : decode cX1_doing 132 = .ok (.iload 6, 2) := by decide +kernel
theorem dX1_doing_134 : decode cX1_doing 134 = .ok (.bipush 6, 2) := by decide +kernel
theorem dX1_doing_136 : decode cX1_doing 136 = .ok (.if_icmp .ne 7, 3) := by decide +kernel
theorem dX1_doing_139 : decode cX1_doing 139 = .ok (.iconst 1, 1) := by decide +kernel
theorem dX1_doing_140 : decode cX1_doing 140 = .ok (.goto 4, 3) := by decide +kernel
theorem dX1_doing_143 : decode cX1_doing 143 = .ok (.iconst 0, 1) := by decide +kernel
theorem dX1_doing_144 : decode cX1_doing 144 = .ok (.invokestatic 130, 3) := by decide +kernel
theorem dX1_doing_147 : decode cX1_doing 147 = .ok (.iload 4, 2) := by decide +kernel
theorem dX1_doing_149 : decode cX1_doing 149 = .ok (.iload 7, 2) := by decide +kernel
theorem dX1_doing_151 : decode cX1_doing 151 = .ok (.ifCond .eq 7, 3) := by decide +kernel
theorem dX1_doing_154 : decode cX1_doing 154 = .ok (.iconst 2, 1) := by decide +kernel
theorem dX1_doing_155 : decode cX1_doing 155 = .ok (.goto 4, 3) := by decide +kernel
theorem dX1_doing_158 : decode cX1_doing 158 = .ok (.iconst 0, 1) := by decide +kernel
theorem dX1_doing_159 : decode cX1_doing 159 = .ok (.invokevirtual 124, 3) := by decide +kernel
theorem dX1_doing_162 : decode cX1_doing 162 = .ok (.lmul, 1) := by decide +kernel
theorem dX1_doing_163 : decode cX1_doing 163 = .ok (.lreturn, 1) := by decide +kernel
theorem dX1_doing_164 : decode cX1_doing 164 = .ok (.ldc2_w 116, 3) := by decide +kernel
theorem dX1_doing_167 : decode cX1_doing 167 = .ok (.aload_n 0, 1) := by decide +kernel
theorem dX1_doing_168 : decode cX1_doing 168 = .ok (.iload_n 2, 1) := by decide +kernel
theorem dX1_doing_169 : decode cX1_doing 169 = .ok (.aload_n 0, 1) := by decide +kernel
theorem dX1_doing_170 : decode cX1_doing 170 = .ok (.iload_n 3, 1) := by decide +kernel
theorem dX1_doing_171 : decode cX1_doing 171 = .ok (.invokevirtual 134, 3) := by decide +kernel
theorem dX1_doing_174 : decode cX1_doing 174 = .ok (.iload 4, 2) := by decide +kernel
theorem dX1_doing_176 : decode cX1_doing 176 = .ok (.iconst 0, 1) := by decide +kernel
theorem dX1_doing_177 : decode cX1_doing 177 = .ok (.invokevirtual 124, 3) := by decide +kernel
theorem dX1_doing_180 : decode cX1_doing 180 = .ok (.lmul, 1) := by decide +kernel
theorem dX1_doing_181 : decode cX1_doing 181 = .ok (.lreturn, 1) := by decide +kernel
theorem dX1_doing_182 : decode cX1_doing 182 = .ok (.ldc2_w 116, 3) := by decide +kernel
theorem dX1_doing_185 : decode cX1_doing 185 = .ok (.aload_n 0, 1) := by decide +kernel
theorem dX1_doing_186 : decode cX1_doing 186 = .ok (.iload_n 2, 1) := by decide +kernel
theorem dX1_doing_187 : decode cX1_doing 187 = .ok (.iload_n 3, 1) := by decide +kernel
theorem dX1_doing_188 : decode cX1_doing 188 = .ok (.iload 4, 2) := by decide +kernel
theorem dX1_doing_190 : decode cX1_doing 190 = .ok (.iconst 0, 1) := by decide +kernel
theorem dX1_doing_191 : decode cX1_doing 191 = .ok (.invokevirtual 124, 3) := by decide +kernel
theorem dX1_doing_194 : decode cX1_doing 194 = .ok (.lmul, 1) := by decide +kernel
theorem dX1_doing_195 : decode cX1_doing 195 = .ok (.lreturn, 1) := by decide +kernel
theorem dX1_thinking_0 : decode cX1_thinking 0 = .ok (.iload_n 2, 1) := by decide +kernel
theorem dX1_thinking_1 : decode cX1_thinking 1 = .ok (.bipush 21, 2) := by decide +kernel
theorem dX1_thinking_3 : decode cX1_thinking 3 = .ok (.idiv, 1) := by decide +kernel
theorem dX1_thinking_4 : decode cX1_thinking 4 = .ok (.istore 4, 2) := by decide +kernel
theorem dX1_thinking_6 : decode cX1_thinking 6 = .ok (.iload_n 2, 1) := by decide +kernel
theorem dX1_thinking_7 : decode cX1_thinking 7 = .ok (.bipush 21, 2) := by decide +kernel
theorem dX1_thinking_9 : decode cX1_thinking 9 = .ok (.irem, 1) := by decide +kernel
theorem dX1_thinking_10 : decode cX1_thinking 10 = .ok (.istore 5, 2) := by decide +kernel
theorem dX1_thinking_12 : decode cX1_thinking 12 = .ok (.aload_n 0, 1) := by decide +kernel
theorem dX1_thinking_13 : decode cX1_thinking 13 = .ok (.getfield 30, 3) := by decide +kernel
theorem dX1_thinking_16 : decode cX1_thinking 16 = .ok (.iload 4, 2) := by decide +kernel
theorem dX1_thinking_18 : decode cX1_thinking 18 = .ok (.iload 5, 2) := by decide +kernel
theorem dX1_thinking_20 : decode cX1_thinking 20 = .ok (.invokevirtual 137, 3) := by decide +kernel
theorem dX1_thinking_23 : decode cX1_thinking 23 = .ok (.istore 6, 2) := by decide +kernel
theorem dX1_thinking_25 : decode cX1_thinking 25 = .ok (.aload_n 0, 1) := by decide +kernel
theorem dX1_thinking_26 : decode cX1_thinking 26 = .ok (.getfield 30, 3) := by decide +kernel
theorem dX1_thinking_29 : decode cX1_thinking 29 = .ok (.iload 4, 2) := by decide +kernel
theorem dX1_thinking_31 : decode cX1_thinking 31 = .ok (.iload 5, 2) := by decide +kernel
theorem dX1_thinking_33 : decode cX1_thinking 33 = .ok (.invokevirtual 140, 3) := by decide +kernel
theorem dX1_thinking_36 : decode cX1_thinking 36 = .ok (.istore 7, 2) := by decide +kernel
theorem dX1_thinking_38 : decode cX1_thinking 38 = .ok (.lconst 0, 1) := by decide +kernel
theorem dX1_thinking_39 : decode cX1_thinking 39 = .ok (.lstore 8, 2) := by decide +kernel
theorem dX1_thinking_41 : decode cX1_thinking 41 = .ok (.iload 6, 2) := by decide +kernel
theorem dX1_thinking_43 : decode cX1_thinking 43 = .ok (.ifCond .le 27, 3) := by decide +kernel
theorem dX1_thinking_46 : decode cX1_thinking 46 = .ok (.lload 8, 2) := by decide +kernel
theorem dX1_thinking_48 : decode cX1_thinking 48 = .ok (.iload 6, 2) := by decide +kernel
theorem dX1_thinking_50 : decode cX1_thinking 50 = .ok (.i2l, 1) := by decide +kernel
theorem dX1_thinking_51 : decode cX1_thinking 51 = .ok (.aload_n 0, 1) := by decide +kernel
theorem dX1_thinking_52 : decode cX1_thinking 52 = .ok (.iload_n 1, 1) := by decide +kernel
theorem dX1_thinking_53 : decode cX1_thinking 53 = .ok (.iload 4, 2) := by decide +kernel
theorem dX1_thinking_55 : decode cX1_thinking 55 = .ok (.bipush 21, 2) := by decide +kernel
theorem dX1_thinking_57 : decode cX1_thinking 57 = .ok (.imul, 1) := by decide +kernel
theorem dX1_thinking_58 : decode cX1_thinking 58 = .ok (.bipush 6, 2) := by decide +kernel
theorem dX1_thinking_60 : decode cX1_thinking 60 = .ok (.iadd, 1) := by decide +kernel
theorem dX1_thinking_61 : decode cX1_thinking 61 = .ok (.iload_n 3, 1) := by decide +kernel
theorem dX1_thinking_62 : decode cX1_thinking 62 = .ok (.iconst 0, 1) := by decide +kernel
theorem dX1_thinking_63 : decode cX1_thinking 63 = .ok (.invokevirtual 124, 3) := by decide +kernel
theorem dX1_thinking_66 : decode cX1_thinking 66 = .ok (.lmul, 1) := by decide +kernel
theorem dX1_thinking_67 : decode cX1_thinking 67 = .ok (.ladd, 1) := by decide +kernel
theorem dX1_thinking_68 : decode cX1_thinking 68 = .ok (.lstore 8, 2) := by decide +kernel
theorem dX1_thinking_70 : decode cX1_thinking 70 = .ok (.iload 7, 2) := by decide +kernel
theorem dX1_thinking_72 : decode cX1_thinking 72 = .ok (.ifCond .le 32, 3) := by decide +kernel
theorem dX1_thinking_75 : decode cX1_thinking 75 = .ok (.lload 8, 2) := by decide +kernel
theorem dX1_thinking_77 : decode cX1_thinking 77 = .ok (.iload 7, 2) := by decide +kernel
theorem dX1_thinking_79 : decode cX1_thinking 79 = .ok (.i2l, 1) := by decide +kernel
theorem dX1_thinking_80 : decode cX1_thinking 80 = .ok (.aload_n 0, 1) := by decide +kernel
theorem dX1_thinking_81 : decode cX1_thinking 81 = .ok (.iload_n 1, 1) := by decide +kernel
theorem dX1_thinking_82 : decode cX1_thinking 82 = .ok (.iload 4, 2) := by decide +kernel
theorem dX1_thinking_84 : decode cX1_thinking 84 = .ok (.aload_n 0, 1) := by decide +kernel
theorem dX1_thinking_85 : decode cX1_thinking 85 = .ok (.getfield 23, 3) := by decide +kernel
theorem dX1_thinking_88 : decode cX1_thinking 88 = .ok (.getfield 127, 3) := by decide +kernel
theorem dX1_thinking_91 : decode cX1_thinking 91 = .ok (.iconst 0, 1) := by decide +kernel
theorem dX1_thinking_92 : decode cX1_thinking 92 = .ok (.invokestatic 130, 3) := by decide +kernel
theorem dX1_thinking_95 : decode cX1_thinking 95 = .ok (.iload_n 3, 1) := by decide +kernel
theorem dX1_thinking_96 : decode cX1_thinking 96 = .ok (.iconst 0, 1) := by decide +kernel
theorem dX1_thinking_97 : decode cX1_thinking 97 = .ok (.invokevirtual 124, 3) := by decide +kernel
theorem dX1_thinking_100 : decode cX1_thinking 100 = .ok (.lmul, 1) := by decide +kernel
theorem dX1_thinking_101 : decode cX1_thinking 101 = .ok (.ladd, 1) := by decide +kernel
theorem dX1_thinking_102 : decode cX1_thinking 102 = .ok (.lstore 8, 2) := by decide +kernel
theorem dX1_thinking_104 : decode cX1_thinking 104 = .ok (.iload 6, 2) := by decide +kernel
theorem dX1_thinking_106 : decode cX1_thinking 106 = .ok (.iload 7, 2) := by decide +kernel
theorem dX1_thinking_108 : decode cX1_thinking 108 = .ok (.iadd, 1) := by decide +kernel
theorem dX1_thinking_109 : decode cX1_thinking 109 = .ok (.bipush 8, 2) := by decide +kernel
theorem dX1_thinking_111 : decode cX1_thinking 111 = .ok (.if_icmp .ge 32, 3) := by decide +kernel
theorem dX1_thinking_114 : decode cX1_thinking 114 = .ok (.lload 8, 2) := by decide +kernel
theorem dX1_thinking_116 : decode cX1_thinking 116 = .ok (.bipush 8, 2) := by decide +kernel
theorem dX1_thinking_118 : decode cX1_thinking 118 = .ok (.iload 6, 2) := by decide +kernel
theorem dX1_thinking_120 : decode cX1_thinking 120 = .ok (.isub, 1) := by decide +kernel
theorem dX1_thinking_121 : decode cX1_thinking 121 = .ok (.iload 7, 2) := by decide +kernel
theorem dX1_thinking_123 : decode cX1_thinking 123 = .ok (.isub, 1) := by decide +kernel
theorem dX1_thinking_124 : decode cX1_thinking 124 = .ok (.i2l, 1) := by decide +kernel
theorem dX1_thinking_125 : decode cX1_thinking 125 = .ok (.aload_n 0, 1) := by decide +kernel
theorem dX1_thinking_126 : decode cX1_thinking 126 = .ok (.iload_n 1, 1) := by decide +kernel
theorem dX1_thinking_127 : decode cX1_thinking 127 = .ok (.iload 4, 2) := by decide +kernel
theorem dX1_thinking_129 : decode cX1_thinking 129 = .ok (.iload 5, 2) := by decide +kernel
theorem dX1_thinking_131 : decode cX1_thinking 131 = .ok (.invokestatic 143, 3) := by decide +kernel
theorem dX1_thinking_134 : decode cX1_thinking 134 = .ok (.iload_n 3, 1) := by decide +kernel
theorem dX1_thinking_135 : decode cX1_thinking 135 = .ok (.iconst 0, 1) := by decide +kernel
theorem dX1_thinking_136 : decode cX1_thinking 136 = .ok (.invokevirtual 124, 3) := by decide +kernel
theorem dX1_thinking_139 : decode cX1_thinking 139 = .ok (.lmul, 1) := by decide +kernel
theorem dX1_thinking_140 : decode cX1_thinking 140 = .ok (.ladd, 1) := by decide +kernel
theorem dX1_thinking_141 : decode cX1_thinking 141 = .ok (.lstore 8, 2) := by decide +kernel
theorem dX1_thinking_143 : decode cX1_thinking 143 = .ok (.lload 8, 2) := by decide +kernel
theorem dX1_thinking_145 : decode cX1_thinking 145 = .ok (.lreturn, 1) := by decide +kernel
theorem dX1_against_0 : decode cX1_against 0 = .ok (.iload_n 3, 1) := by decide +kernel
theorem dX1_against_1 : decode cX1_against 1 = .ok (.bipush 21, 2) := by decide +kernel
theorem dX1_against_3 : decode cX1_against 3 = .ok (.idiv, 1) := by decide +kernel
theorem dX1_against_4 : decode cX1_against 4 = .ok (.istore 5, 2) := by decide +kernel
theorem dX1_against_6 : decode cX1_against 6 = .ok (.iload_n 3, 1) := by decide +kernel
theorem dX1_against_7 : decode cX1_against 7 = .ok (.bipush 21, 2) := by decide +kernel
theorem dX1_against_9 : decode cX1_against 9 = .ok (.irem, 1) := by decide +kernel
theorem dX1_against_10 : decode cX1_against 10 = .ok (.istore 6, 2) := by decide +kernel
theorem dX1_against_12 : decode cX1_against 12 = .ok (.iload 6, 2) := by decide +kernel
theorem dX1_against_14 : decode cX1_against 14 = .ok (.bipush 6, 2) := by decide +kernel
theorem dX1_against_16 : decode cX1_against 16 = .ok (.if_icmp .lt 23, 3) := by decide +kernel
theorem dX1_against_19 : decode cX1_against 19 = .ok (.ldc2_w 116, 3) := by decide +kernel
theorem dX1_against_22 : decode cX1_against 22 = .ok (.aload_n 0, 1) := by decide +kernel
theorem dX1_against_23 : decode cX1_against 23 = .ok (.iload_n 1, 1) := by decide +kernel
theorem dX1_against_24 : decode cX1_against 24 = .ok (.iload_n 2, 1) := by decide +kernel
theorem dX1_against_25 : decode cX1_against 25 = .ok (.iload 5, 2) := by decide +kernel
theorem dX1_against_27 : decode cX1_against 27 = .ok (.aload_n 0, 1) := by decide +kernel
theorem dX1_against_28 : decode cX1_against 28 = .ok (.iload_n 3, 1) := by decide +kernel
theorem dX1_against_29 : decode cX1_against 29 = .ok (.invokevirtual 146, 3) := by decide +kernel
theorem dX1_against_32 : decode cX1_against 32 = .ok (.iload 4, 2) := by decide +kernel
theorem dX1_against_34 : decode cX1_against 34 = .ok (.invokevirtual 149, 3) := by decide +kernel
theorem dX1_against_37 : decode cX1_against 37 = .ok (.lmul, 1) := by decide +kernel
theorem dX1_against_38 : decode cX1_against 38 = .ok (.lreturn, 1) := by decide +kernel
theorem dX1_against_39 : decode cX1_against 39 = .ok (.aload_n 0, 1) := by decide +kernel
theorem dX1_against_40 : decode cX1_against 40 = .ok (.getfield 34, 3) := by decide +kernel
theorem dX1_against_43 : decode cX1_against 43 = .ok (.iload 5, 2) := by decide +kernel
theorem dX1_against_45 : decode cX1_against 45 = .ok (.iload 6, 2) := by decide +kernel
theorem dX1_against_47 : decode cX1_against 47 = .ok (.invokevirtual 137, 3) := by decide +kernel
theorem dX1_against_50 : decode cX1_against 50 = .ok (.istore 7, 2) := by decide +kernel
theorem dX1_against_52 : decode cX1_against 52 = .ok (.aload_n 0, 1) := by decide +kernel
theorem dX1_against_53 : decode cX1_against 53 = .ok (.getfield 34, 3) := by decide +kernel
theorem dX1_against_56 : decode cX1_against 56 = .ok (.iload 5, 2) := by decide +kernel
theorem dX1_against_58 : decode cX1_against 58 = .ok (.iload 6, 2) := by decide +kernel
theorem dX1_against_60 : decode cX1_against 60 = .ok (.invokevirtual 140, 3) := by decide +kernel
theorem dX1_against_63 : decode cX1_against 63 = .ok (.istore 8, 2) := by decide +kernel
theorem dX1_against_65 : decode cX1_against 65 = .ok (.lconst 0, 1) := by decide +kernel
theorem dX1_against_66 : decode cX1_against 66 = .ok (.lstore 9, 2) := by decide +kernel
theorem dX1_against_68 : decode cX1_against 68 = .ok (.iload 7, 2) := by decide +kernel
theorem dX1_against_70 : decode cX1_against 70 = .ok (.ifCond .le 37, 3) := by decide +kernel
theorem dX1_against_73 : decode cX1_against 73 = .ok (.lload 9, 2) := by decide +kernel
theorem dX1_against_75 : decode cX1_against 75 = .ok (.iload 7, 2) := by decide +kernel
theorem dX1_against_77 : decode cX1_against 77 = .ok (.i2l, 1) := by decide +kernel
theorem dX1_against_78 : decode cX1_against 78 = .ok (.aload_n 0, 1) := by decide +kernel
theorem dX1_against_79 : decode cX1_against 79 = .ok (.iload_n 1, 1) := by decide +kernel
theorem dX1_against_80 : decode cX1_against 80 = .ok (.iload_n 2, 1) := by decide +kernel
theorem dX1_against_81 : decode cX1_against 81 = .ok (.iload 5, 2) := by decide +kernel
theorem dX1_against_83 : decode cX1_against 83 = .ok (.aload_n 0, 1) := by decide +kernel
theorem dX1_against_84 : decode cX1_against 84 = .ok (.iload 5, 2) := by decide +kernel
theorem dX1_against_86 : decode cX1_against 86 = .ok (.aload_n 0, 1) := by decide +kernel
theorem dX1_against_87 : decode cX1_against 87 = .ok (.getfield 34, 3) := by decide +kernel
theorem dX1_against_90 : decode cX1_against 90 = .ok (.iload 5, 2) := by decide +kernel
theorem dX1_against_92 : decode cX1_against 92 = .ok (.invokevirtual 118, 3) := by decide +kernel
theorem dX1_against_95 : decode cX1_against 95 = .ok (.invokevirtual 121, 3) := by decide +kernel
theorem dX1_against_98 : decode cX1_against 98 = .ok (.iload 4, 2) := by decide +kernel
theorem dX1_against_100 : decode cX1_against 100 = .ok (.invokevirtual 149, 3) := by decide +kernel
theorem dX1_against_103 : decode cX1_against 103 = .ok (.lmul, 1) := by decide +kernel
theorem dX1_against_104 : decode cX1_against 104 = .ok (.ladd, 1) := by decide +kernel
theorem dX1_against_105 : decode cX1_against 105 = .ok (.lstore 9, 2) := by decide +kernel
theorem dX1_against_107 : decode cX1_against 107 = .ok (.iload 8, 2) := by decide +kernel
theorem dX1_against_109 : decode cX1_against 109 = .ok (.ifCond .le 35, 3) := by decide +kernel
theorem dX1_against_112 : decode cX1_against 112 = .ok (.lload 9, 2) := by decide +kernel
theorem dX1_against_114 : decode cX1_against 114 = .ok (.iload 8, 2) := by decide +kernel
theorem dX1_against_116 : decode cX1_against 116 = .ok (.i2l, 1) := by decide +kernel
theorem dX1_against_117 : decode cX1_against 117 = .ok (.aload_n 0, 1) := by decide +kernel
theorem dX1_against_118 : decode cX1_against 118 = .ok (.iload_n 1, 1) := by decide +kernel
theorem dX1_against_119 : decode cX1_against 119 = .ok (.iload_n 2, 1) := by decide +kernel
theorem dX1_against_120 : decode cX1_against 120 = .ok (.iload 5, 2) := by decide +kernel
theorem dX1_against_122 : decode cX1_against 122 = .ok (.iload 5, 2) := by decide +kernel
theorem dX1_against_124 : decode cX1_against 124 = .ok (.aload_n 0, 1) := by decide +kernel
theorem dX1_against_125 : decode cX1_against 125 = .ok (.getfield 23, 3) := by decide +kernel
theorem dX1_against_128 : decode cX1_against 128 = .ok (.getfield 127, 3) := by decide +kernel
theorem dX1_against_131 : decode cX1_against 131 = .ok (.iconst 0, 1) := by decide +kernel
theorem dX1_against_132 : decode cX1_against 132 = .ok (.invokestatic 130, 3) := by decide +kernel
theorem dX1_against_135 : decode cX1_against 135 = .ok (.iload 4, 2) := by decide +kernel
theorem dX1_against_137 : decode cX1_against 137 = .ok (.invokevirtual 149, 3) := by decide +kernel
theorem dX1_against_140 : decode cX1_against 140 = .ok (.lmul, 1) := by decide +kernel
theorem dX1_against_141 : decode cX1_against 141 = .ok (.ladd, 1) := by decide +kernel
theorem dX1_against_142 : decode cX1_against 142 = .ok (.lstore 9, 2) := by decide +kernel
theorem dX1_against_144 : decode cX1_against 144 = .ok (.iload 7, 2) := by decide +kernel
theorem dX1_against_146 : decode cX1_against 146 = .ok (.iload 8, 2) := by decide +kernel
theorem dX1_against_148 : decode cX1_against 148 = .ok (.iadd, 1) := by decide +kernel
theorem dX1_against_149 : decode cX1_against 149 = .ok (.bipush 8, 2) := by decide +kernel
theorem dX1_against_151 : decode cX1_against 151 = .ok (.if_icmp .ge 35, 3) := by decide +kernel
theorem dX1_against_154 : decode cX1_against 154 = .ok (.lload 9, 2) := by decide +kernel
theorem dX1_against_156 : decode cX1_against 156 = .ok (.bipush 8, 2) := by decide +kernel
theorem dX1_against_158 : decode cX1_against 158 = .ok (.iload 7, 2) := by decide +kernel
theorem dX1_against_160 : decode cX1_against 160 = .ok (.isub, 1) := by decide +kernel
theorem dX1_against_161 : decode cX1_against 161 = .ok (.iload 8, 2) := by decide +kernel
theorem dX1_against_163 : decode cX1_against 163 = .ok (.isub, 1) := by decide +kernel
theorem dX1_against_164 : decode cX1_against 164 = .ok (.i2l, 1) := by decide +kernel
theorem dX1_against_165 : decode cX1_against 165 = .ok (.aload_n 0, 1) := by decide +kernel
theorem dX1_against_166 : decode cX1_against 166 = .ok (.iload_n 1, 1) := by decide +kernel
theorem dX1_against_167 : decode cX1_against 167 = .ok (.iload_n 2, 1) := by decide +kernel
theorem dX1_against_168 : decode cX1_against 168 = .ok (.iload 5, 2) := by decide +kernel
theorem dX1_against_170 : decode cX1_against 170 = .ok (.iload 5, 2) := by decide +kernel
theorem dX1_against_172 : decode cX1_against 172 = .ok (.iload 6, 2) := by decide +kernel
theorem dX1_against_174 : decode cX1_against 174 = .ok (.invokestatic 143, 3) := by decide +kernel
theorem dX1_against_177 : decode cX1_against 177 = .ok (.iload 4, 2) := by decide +kernel
theorem dX1_against_179 : decode cX1_against 179 = .ok (.invokevirtual 149, 3) := by decide +kernel
theorem dX1_against_182 : decode cX1_against 182 = .ok (.lmul, 1) := by decide +kernel
theorem dX1_against_183 : decode cX1_against 183 = .ok (.ladd, 1) := by decide +kernel
theorem dX1_against_184 : decode cX1_against 184 = .ok (.lstore 9, 2) := by decide +kernel
theorem dX1_against_186 : decode cX1_against 186 = .ok (.lload 9, 2) := by decide +kernel
theorem dX1_against_188 : decode cX1_against 188 = .ok (.lreturn, 1) := by decide +kernel
theorem dX1_seen_0 : decode cX1_seen 0 = .ok (.iload 4, 2) := by decide +kernel
theorem dX1_seen_2 : decode cX1_seen 2 = .ok (.bipush 21, 2) := by decide +kernel
theorem dX1_seen_4 : decode cX1_seen 4 = .ok (.idiv, 1) := by decide +kernel
theorem dX1_seen_5 : decode cX1_seen 5 = .ok (.iload_n 3, 1) := by decide +kernel
theorem dX1_seen_6 : decode cX1_seen 6 = .ok (.if_icmp .ne 7, 3) := by decide +kernel
theorem dX1_seen_9 : decode cX1_seen 9 = .ok (.iconst 1, 1) := by decide +kernel
theorem dX1_seen_10 : decode cX1_seen 10 = .ok (.goto 4, 3) := by decide +kernel
theorem dX1_seen_13 : decode cX1_seen 13 = .ok (.iconst 0, 1) := by decide +kernel
theorem dX1_seen_14 : decode cX1_seen 14 = .ok (.istore 6, 2) := by decide +kernel
theorem dX1_seen_16 : decode cX1_seen 16 = .ok (.aload_n 0, 1) := by decide +kernel
theorem dX1_seen_17 : decode cX1_seen 17 = .ok (.iload_n 1, 1) := by decide +kernel
theorem dX1_seen_18 : decode cX1_seen 18 = .ok (.iconst 1, 1) := by decide +kernel
theorem dX1_seen_19 : decode cX1_seen 19 = .ok (.isub, 1) := by decide +kernel
theorem dX1_seen_20 : decode cX1_seen 20 = .ok (.iload_n 2, 1) := by decide +kernel
theorem dX1_seen_21 : decode cX1_seen 21 = .ok (.iload 6, 2) := by decide +kernel
theorem dX1_seen_23 : decode cX1_seen 23 = .ok (.ifCond .eq 14, 3) := by decide +kernel
theorem dX1_seen_26 : decode cX1_seen 26 = .ok (.aload_n 0, 1) := by decide +kernel
theorem dX1_seen_27 : decode cX1_seen 27 = .ok (.iload 4, 2) := by decide +kernel
theorem dX1_seen_29 : decode cX1_seen 29 = .ok (.iload 5, 2) := by decide +kernel
theorem dX1_seen_31 : decode cX1_seen 31 = .ok (.invokevirtual 73, 3) := by decide +kernel
theorem dX1_seen_34 : decode cX1_seen 34 = .ok (.goto 5, 3) := by decide +kernel
theorem dX1_seen_37 : decode cX1_seen 37 = .ok (.iload 4, 2) := by decide +kernel
theorem dX1_seen_39 : decode cX1_seen 39 = .ok (.invokevirtual 77, 3) := by decide +kernel
theorem dX1_seen_42 : decode cX1_seen 42 = .ok (.lreturn, 1) := by decide +kernel
theorem dX1_seeing_0 : decode cX1_seeing 0 = .ok (.aload_n 0, 1) := by decide +kernel
theorem dX1_seeing_1 : decode cX1_seeing 1 = .ok (.getfield 50, 3) := by decide +kernel
theorem dX1_seeing_4 : decode cX1_seeing 4 = .ok (.ifCond .eq 22, 3) := by decide +kernel
theorem dX1_seeing_7 : decode cX1_seeing 7 = .ok (.iload_n 2, 1) := by decide +kernel
theorem dX1_seeing_8 : decode cX1_seeing 8 = .ok (.ifCond .eq 18, 3) := by decide +kernel
theorem dX1_seeing_11 : decode cX1_seeing 11 = .ok (.iload_n 1, 1) := by decide +kernel
theorem dX1_seeing_12 : decode cX1_seeing 12 = .ok (.bipush 21, 2) := by decide +kernel
theorem dX1_seeing_14 : decode cX1_seeing 14 = .ok (.irem, 1) := by decide +kernel
theorem dX1_seeing_15 : decode cX1_seeing 15 = .ok (.bipush 6, 2) := by decide +kernel
theorem dX1_seeing_17 : decode cX1_seeing 17 = .ok (.if_icmp .ge 9, 3) := by decide +kernel
theorem dX1_seeing_20 : decode cX1_seeing 20 = .ok (.iload_n 1, 1) := by decide +kernel
theorem dX1_seeing_21 : decode cX1_seeing 21 = .ok (.bipush 105, 2) := by decide +kernel
theorem dX1_seeing_23 : decode cX1_seeing 23 = .ok (.if_icmp .lt 5, 3) := by decide +kernel
theorem dX1_seeing_26 : decode cX1_seeing 26 = .ok (.iload_n 1, 1) := by decide +kernel
theorem dX1_seeing_27 : decode cX1_seeing 27 = .ok (.ireturn, 1) := by decide +kernel
theorem dX1_seeing_28 : decode cX1_seeing 28 = .ok (.iload_n 1, 1) := by decide +kernel
theorem dX1_seeing_29 : decode cX1_seeing 29 = .ok (.bipush 21, 2) := by decide +kernel
theorem dX1_seeing_31 : decode cX1_seeing 31 = .ok (.idiv, 1) := by decide +kernel
theorem dX1_seeing_32 : decode cX1_seeing 32 = .ok (.bipush 21, 2) := by decide +kernel
theorem dX1_seeing_34 : decode cX1_seeing 34 = .ok (.imul, 1) := by decide +kernel
theorem dX1_seeing_35 : decode cX1_seeing 35 = .ok (.iload_n 2, 1) := by decide +kernel
theorem dX1_seeing_36 : decode cX1_seeing 36 = .ok (.iconst 1, 1) := by decide +kernel
theorem dX1_seeing_37 : decode cX1_seeing 37 = .ok (.if_icmp .ne 8, 3) := by decide +kernel
theorem dX1_seeing_40 : decode cX1_seeing 40 = .ok (.bipush 6, 2) := by decide +kernel
theorem dX1_seeing_42 : decode cX1_seeing 42 = .ok (.goto 5, 3) := by decide +kernel
theorem dX1_seeing_45 : decode cX1_seeing 45 = .ok (.bipush 17, 2) := by decide +kernel
theorem dX1_seeing_47 : decode cX1_seeing 47 = .ok (.iadd, 1) := by decide +kernel
theorem dX1_seeing_48 : decode cX1_seeing 48 = .ok (.ireturn, 1) := by decide +kernel
theorem dX1_movedY_0 : decode cX1_movedY 0 = .ok (.iload_n 1, 1) := by decide +kernel
theorem dX1_movedY_1 : decode cX1_movedY 1 = .ok (.bipush 21, 2) := by decide +kernel
theorem dX1_movedY_3 : decode cX1_movedY 3 = .ok (.idiv, 1) := by decide +kernel
theorem dX1_movedY_4 : decode cX1_movedY 4 = .ok (.istore_n 2, 1) := by decide +kernel
theorem dX1_movedY_5 : decode cX1_movedY 5 = .ok (.iload_n 1, 1) := by decide +kernel
theorem dX1_movedY_6 : decode cX1_movedY 6 = .ok (.bipush 21, 2) := by decide +kernel
theorem dX1_movedY_8 : decode cX1_movedY 8 = .ok (.irem, 1) := by decide +kernel
theorem dX1_movedY_9 : decode cX1_movedY 9 = .ok (.lookupswitch 58 #[(6, 27), (17, 43)], 27) := by decide +kernel
theorem dX1_movedY_36 : decode cX1_movedY 36 = .ok (.aload_n 0, 1) := by decide +kernel
theorem dX1_movedY_37 : decode cX1_movedY 37 = .ok (.iload_n 2, 1) := by decide +kernel
theorem dX1_movedY_38 : decode cX1_movedY 38 = .ok (.aload_n 0, 1) := by decide +kernel
theorem dX1_movedY_39 : decode cX1_movedY 39 = .ok (.getfield 34, 3) := by decide +kernel
theorem dX1_movedY_42 : decode cX1_movedY 42 = .ok (.iload_n 2, 1) := by decide +kernel
theorem dX1_movedY_43 : decode cX1_movedY 43 = .ok (.invokevirtual 118, 3) := by decide +kernel
theorem dX1_movedY_46 : decode cX1_movedY 46 = .ok (.iconst 1, 1) := by decide +kernel
theorem dX1_movedY_47 : decode cX1_movedY 47 = .ok (.isub, 1) := by decide +kernel
theorem dX1_movedY_48 : decode cX1_movedY 48 = .ok (.invokevirtual 121, 3) := by decide +kernel
theorem dX1_movedY_51 : decode cX1_movedY 51 = .ok (.ireturn, 1) := by decide +kernel
theorem dX1_movedY_52 : decode cX1_movedY 52 = .ok (.iload_n 2, 1) := by decide +kernel
theorem dX1_movedY_53 : decode cX1_movedY 53 = .ok (.aload_n 0, 1) := by decide +kernel
theorem dX1_movedY_54 : decode cX1_movedY 54 = .ok (.getfield 23, 3) := by decide +kernel
theorem dX1_movedY_57 : decode cX1_movedY 57 = .ok (.getfield 127, 3) := by decide +kernel
theorem dX1_movedY_60 : decode cX1_movedY 60 = .ok (.iconst 1, 1) := by decide +kernel
theorem dX1_movedY_61 : decode cX1_movedY 61 = .ok (.isub, 1) := by decide +kernel
theorem dX1_movedY_62 : decode cX1_movedY 62 = .ok (.iconst 0, 1) := by decide +kernel
theorem dX1_movedY_63 : decode cX1_movedY 63 = .ok (.invokestatic 130, 3) := by decide +kernel
theorem dX1_movedY_66 : decode cX1_movedY 66 = .ok (.ireturn, 1) := by decide +kernel
theorem dX1_movedY_67 : decode cX1_movedY 67 = .ok (.aload_n 0, 1) := by decide +kernel
theorem dX1_movedY_68 : decode cX1_movedY 68 = .ok (.iload_n 1, 1) := by decide +kernel
theorem dX1_movedY_69 : decode cX1_movedY 69 = .ok (.invokevirtual 134, 3) := by decide +kernel
theorem dX1_movedY_72 : decode cX1_movedY 72 = .ok (.ireturn, 1) := by decide +kernel
theorem dX1_goOn_0 : decode cX1_goOn 0 = .ok (.iload_n 1, 1) := by decide +kernel
theorem dX1_goOn_1 : decode cX1_goOn 1 = .ok (.bipush 21, 2) := by decide +kernel
theorem dX1_goOn_3 : decode cX1_goOn 3 = .ok (.idiv, 1) := by decide +kernel
theorem dX1_goOn_4 : decode cX1_goOn 4 = .ok (.istore_n 2, 1) := by decide +kernel
theorem dX1_goOn_5 : decode cX1_goOn 5 = .ok (.iload_n 1, 1) := by decide +kernel
theorem dX1_goOn_6 : decode cX1_goOn 6 = .ok (.bipush 21, 2) := by decide +kernel
theorem dX1_goOn_8 : decode cX1_goOn 8 = .ok (.irem, 1) := by decide +kernel
theorem dX1_goOn_9 : decode cX1_goOn 9 = .ok (.istore_n 3, 1) := by decide +kernel
theorem dX1_goOn_10 : decode cX1_goOn 10 = .ok (.iload_n 3, 1) := by decide +kernel
theorem dX1_goOn_11 : decode cX1_goOn 11 = .ok (.invokestatic 110, 3) := by decide +kernel
theorem dX1_goOn_14 : decode cX1_goOn 14 = .ok (.ifCond .eq 15, 3) := by decide +kernel
theorem dX1_goOn_17 : decode cX1_goOn 17 = .ok (.aload_n 0, 1) := by decide +kernel
theorem dX1_goOn_18 : decode cX1_goOn 18 = .ok (.iload_n 2, 1) := by decide +kernel
theorem dX1_goOn_19 : decode cX1_goOn 19 = .ok (.iload_n 3, 1) := by decide +kernel
theorem dX1_goOn_20 : decode cX1_goOn 20 = .ok (.bipush 6, 2) := by decide +kernel
theorem dX1_goOn_22 : decode cX1_goOn 22 = .ok (.isub, 1) := by decide +kernel
theorem dX1_goOn_23 : decode cX1_goOn 23 = .ok (.iconst 1, 1) := by decide +kernel
theorem dX1_goOn_24 : decode cX1_goOn 24 = .ok (.isub, 1) := by decide +kernel
theorem dX1_goOn_25 : decode cX1_goOn 25 = .ok (.invokevirtual 121, 3) := by decide +kernel
theorem dX1_goOn_28 : decode cX1_goOn 28 = .ok (.ireturn, 1) := by decide +kernel
theorem dX1_goOn_29 : decode cX1_goOn 29 = .ok (.iload_n 3, 1) := by decide +kernel
theorem dX1_goOn_30 : decode cX1_goOn 30 = .ok (.bipush 16, 2) := by decide +kernel
theorem dX1_goOn_32 : decode cX1_goOn 32 = .ok (.if_icmp .le 7, 3) := by decide +kernel
theorem dX1_goOn_35 : decode cX1_goOn 35 = .ok (.iconst 1, 1) := by decide +kernel
theorem dX1_goOn_36 : decode cX1_goOn 36 = .ok (.goto 4, 3) := by decide +kernel
theorem dX1_goOn_39 : decode cX1_goOn 39 = .ok (.iconst 0, 1) := by decide +kernel
theorem dX1_goOn_40 : decode cX1_goOn 40 = .ok (.istore 4, 2) := by decide +kernel
theorem dX1_goOn_42 : decode cX1_goOn 42 = .ok (.iload_n 2, 1) := by decide +kernel
theorem dX1_goOn_43 : decode cX1_goOn 43 = .ok (.iload_n 3, 1) := by decide +kernel
theorem dX1_goOn_44 : decode cX1_goOn 44 = .ok (.iconst 1, 1) := by decide +kernel
theorem dX1_goOn_45 : decode cX1_goOn 45 = .ok (.isub, 1) := by decide +kernel
theorem dX1_goOn_46 : decode cX1_goOn 46 = .ok (.iload 4, 2) := by decide +kernel
theorem dX1_goOn_48 : decode cX1_goOn 48 = .ok (.ifCond .eq 8, 3) := by decide +kernel
theorem dX1_goOn_51 : decode cX1_goOn 51 = .ok (.bipush 16, 2) := by decide +kernel
theorem dX1_goOn_53 : decode cX1_goOn 53 = .ok (.goto 5, 3) := by decide +kernel
theorem dX1_goOn_56 : decode cX1_goOn 56 = .ok (.bipush 12, 2) := by decide +kernel
theorem dX1_goOn_58 : decode cX1_goOn 58 = .ok (.isub, 1) := by decide +kernel
theorem dX1_goOn_59 : decode cX1_goOn 59 = .ok (.iload 4, 2) := by decide +kernel
theorem dX1_goOn_61 : decode cX1_goOn 61 = .ok (.invokestatic 130, 3) := by decide +kernel
theorem dX1_goOn_64 : decode cX1_goOn 64 = .ok (.ireturn, 1) := by decide +kernel
theorem dX1_walks_0 : decode cX1_walks 0 = .ok (.iload_n 0, 1) := by decide +kernel
theorem dX1_walks_1 : decode cX1_walks 1 = .ok (.bipush 6, 2) := by decide +kernel
theorem dX1_walks_3 : decode cX1_walks 3 = .ok (.if_icmp .le 13, 3) := by decide +kernel
theorem dX1_walks_6 : decode cX1_walks 6 = .ok (.iload_n 0, 1) := by decide +kernel
theorem dX1_walks_7 : decode cX1_walks 7 = .ok (.bipush 12, 2) := by decide +kernel
theorem dX1_walks_9 : decode cX1_walks 9 = .ok (.if_icmp .gt 7, 3) := by decide +kernel
theorem dX1_walks_12 : decode cX1_walks 12 = .ok (.iconst 1, 1) := by decide +kernel
theorem dX1_walks_13 : decode cX1_walks 13 = .ok (.goto 4, 3) := by decide +kernel
theorem dX1_walks_16 : decode cX1_walks 16 = .ok (.iconst 0, 1) := by decide +kernel
theorem dX1_walks_17 : decode cX1_walks 17 = .ok (.ireturn, 1) := by decide +kernel
theorem dX1_walkOn_0 : decode cX1_walkOn 0 = .ok (.iload_n 2, 1) := by decide +kernel
theorem dX1_walkOn_1 : decode cX1_walkOn 1 = .ok (.ifCond .le 13, 3) := by decide +kernel
theorem dX1_walkOn_4 : decode cX1_walkOn 4 = .ok (.iload_n 1, 1) := by decide +kernel
theorem dX1_walkOn_5 : decode cX1_walkOn 5 = .ok (.bipush 21, 2) := by decide +kernel
theorem dX1_walkOn_7 : decode cX1_walkOn 7 = .ok (.imul, 1) := by decide +kernel
theorem dX1_walkOn_8 : decode cX1_walkOn 8 = .ok (.bipush 6, 2) := by decide +kernel
theorem dX1_walkOn_10 : decode cX1_walkOn 10 = .ok (.iadd, 1) := by decide +kernel
theorem dX1_walkOn_11 : decode cX1_walkOn 11 = .ok (.iload_n 2, 1) := by decide +kernel
theorem dX1_walkOn_12 : decode cX1_walkOn 12 = .ok (.iadd, 1) := by decide +kernel
theorem dX1_walkOn_13 : decode cX1_walkOn 13 = .ok (.ireturn, 1) := by decide +kernel
theorem dX1_walkOn_14 : decode cX1_walkOn 14 = .ok (.iload_n 1, 1) := by decide +kernel
theorem dX1_walkOn_15 : decode cX1_walkOn 15 = .ok (.iconst 1, 1) := by decide +kernel
theorem dX1_walkOn_16 : decode cX1_walkOn 16 = .ok (.iadd, 1) := by decide +kernel
theorem dX1_walkOn_17 : decode cX1_walkOn 17 = .ok (.aload_n 0, 1) := by decide +kernel
theorem dX1_walkOn_18 : decode cX1_walkOn 18 = .ok (.getfield 23, 3) := by decide +kernel
theorem dX1_walkOn_21 : decode cX1_walkOn 21 = .ok (.getfield 58, 3) := by decide +kernel
theorem dX1_walkOn_24 : decode cX1_walkOn 24 = .ok (.if_icmp .ge 12, 3) := by decide +kernel
theorem dX1_walkOn_27 : decode cX1_walkOn 27 = .ok (.iload_n 1, 1) := by decide +kernel
theorem dX1_walkOn_28 : decode cX1_walkOn 28 = .ok (.iconst 1, 1) := by decide +kernel
theorem dX1_walkOn_29 : decode cX1_walkOn 29 = .ok (.iadd, 1) := by decide +kernel
theorem dX1_walkOn_30 : decode cX1_walkOn 30 = .ok (.bipush 21, 2) := by decide +kernel
theorem dX1_walkOn_32 : decode cX1_walkOn 32 = .ok (.imul, 1) := by decide +kernel
theorem dX1_walkOn_33 : decode cX1_walkOn 33 = .ok (.goto 5, 3) := by decide +kernel
theorem dX1_walkOn_36 : decode cX1_walkOn 36 = .ok (.bipush 105, 2) := by decide +kernel
theorem dX1_walkOn_38 : decode cX1_walkOn 38 = .ok (.ireturn, 1) := by decide +kernel
theorem dX1_strayOn_0 : decode cX1_strayOn 0 = .ok (.iload_n 1, 1) := by decide +kernel
theorem dX1_strayOn_1 : decode cX1_strayOn 1 = .ok (.ifCond .le 22, 3) := by decide +kernel
theorem dX1_strayOn_4 : decode cX1_strayOn 4 = .ok (.iload_n 0, 1) := by decide +kernel
theorem dX1_strayOn_5 : decode cX1_strayOn 5 = .ok (.bipush 21, 2) := by decide +kernel
theorem dX1_strayOn_7 : decode cX1_strayOn 7 = .ok (.imul, 1) := by decide +kernel
theorem dX1_strayOn_8 : decode cX1_strayOn 8 = .ok (.iload_n 2, 1) := by decide +kernel
theorem dX1_strayOn_9 : decode cX1_strayOn 9 = .ok (.ifCond .eq 8, 3) := by decide +kernel
theorem dX1_strayOn_12 : decode cX1_strayOn 12 = .ok (.bipush 16, 2) := by decide +kernel
theorem dX1_strayOn_14 : decode cX1_strayOn 14 = .ok (.goto 5, 3) := by decide +kernel
theorem dX1_strayOn_17 : decode cX1_strayOn 17 = .ok (.bipush 12, 2) := by decide +kernel
theorem dX1_strayOn_19 : decode cX1_strayOn 19 = .ok (.iadd, 1) := by decide +kernel
theorem dX1_strayOn_20 : decode cX1_strayOn 20 = .ok (.iload_n 1, 1) := by decide +kernel
theorem dX1_strayOn_21 : decode cX1_strayOn 21 = .ok (.iadd, 1) := by decide +kernel
theorem dX1_strayOn_22 : decode cX1_strayOn 22 = .ok (.ireturn, 1) := by decide +kernel
theorem dX1_strayOn_23 : decode cX1_strayOn 23 = .ok (.iload_n 0, 1) := by decide +kernel
theorem dX1_strayOn_24 : decode cX1_strayOn 24 = .ok (.bipush 21, 2) := by decide +kernel
theorem dX1_strayOn_26 : decode cX1_strayOn 26 = .ok (.imul, 1) := by decide +kernel
theorem dX1_strayOn_27 : decode cX1_strayOn 27 = .ok (.iload_n 2, 1) := by decide +kernel
theorem dX1_strayOn_28 : decode cX1_strayOn 28 = .ok (.ifCond .eq 8, 3) := by decide +kernel
theorem dX1_strayOn_31 : decode cX1_strayOn 31 = .ok (.bipush 6, 2) := by decide +kernel
theorem dX1_strayOn_33 : decode cX1_strayOn 33 = .ok (.goto 4, 3) := by decide +kernel
theorem dX1_strayOn_36 : decode cX1_strayOn 36 = .ok (.iconst 0, 1) := by decide +kernel
theorem dX1_strayOn_37 : decode cX1_strayOn 37 = .ok (.iadd, 1) := by decide +kernel
theorem dX1_strayOn_38 : decode cX1_strayOn 38 = .ok (.ireturn, 1) := by decide +kernel
theorem dX1_thoughtOn_0 : decode cX1_thoughtOn 0 = .ok (.iload_n 0, 1) := by decide +kernel
theorem dX1_thoughtOn_1 : decode cX1_thoughtOn 1 = .ok (.bipush 21, 2) := by decide +kernel
theorem dX1_thoughtOn_3 : decode cX1_thoughtOn 3 = .ok (.imul, 1) := by decide +kernel
theorem dX1_thoughtOn_4 : decode cX1_thoughtOn 4 = .ok (.iconst 5, 1) := by decide +kernel
theorem dX1_thoughtOn_5 : decode cX1_thoughtOn 5 = .ok (.iload_n 1, 1) := by decide +kernel
theorem dX1_thoughtOn_6 : decode cX1_thoughtOn 6 = .ok (.iconst 1, 1) := by decide +kernel
theorem dX1_thoughtOn_7 : decode cX1_thoughtOn 7 = .ok (.iadd, 1) := by decide +kernel
theorem dX1_thoughtOn_8 : decode cX1_thoughtOn 8 = .ok (.invokestatic 95, 3) := by decide +kernel
theorem dX1_thoughtOn_11 : decode cX1_thoughtOn 11 = .ok (.iadd, 1) := by decide +kernel
theorem dX1_thoughtOn_12 : decode cX1_thoughtOn 12 = .ok (.ireturn, 1) := by decide +kernel
theorem dX2_init_0 : decode cX2_init 0 = .ok (.aload_n 0, 1) := by decide +kernel
theorem dX2_init_1 : decode cX2_init 1 = .ok (.invokespecial 3, 3) := by decide +kernel
theorem dX2_init_4 : decode cX2_init 4 = .ok (.aload_n 0, 1) := by decide +kernel
theorem dX2_init_5 : decode cX2_init 5 = .ok (.iconst 2, 1) := by decide +kernel
theorem dX2_init_6 : decode cX2_init 6 = .ok (.putfield 9, 3) := by decide +kernel
theorem dX2_init_9 : decode cX2_init 9 = .ok (.aload_n 0, 1) := by decide +kernel
theorem dX2_init_10 : decode cX2_init 10 = .ok (.new 15, 3) := by decide +kernel
theorem dX2_init_13 : decode cX2_init 13 = .ok (.dup, 1) := by decide +kernel
theorem dX2_init_14 : decode cX2_init 14 = .ok (.invokespecial 17, 3) := by decide +kernel
theorem dX2_init_17 : decode cX2_init 17 = .ok (.putfield 18, 3) := by decide +kernel
theorem dX2_init_20 : decode cX2_init 20 = .ok (.aload_n 0, 1) := by decide +kernel
theorem dX2_init_21 : decode cX2_init 21 = .ok (.iconst 5, 1) := by decide +kernel
theorem dX2_init_22 : decode cX2_init 22 = .ok (.anewarray 22, 3) := by decide +kernel
theorem dX2_init_25 : decode cX2_init 25 = .ok (.putfield 24, 3) := by decide +kernel
theorem dX2_init_28 : decode cX2_init 28 = .ok (.aload_n 0, 1) := by decide +kernel
theorem dX2_init_29 : decode cX2_init 29 = .ok (.iconst 5, 1) := by decide +kernel
theorem dX2_init_30 : decode cX2_init 30 = .ok (.newarray .int, 2) := by decide +kernel
theorem dX2_init_32 : decode cX2_init 32 = .ok (.putfield 28, 3) := by decide +kernel
theorem dX2_init_35 : decode cX2_init 35 = .ok (.aload_n 0, 1) := by decide +kernel
theorem dX2_init_36 : decode cX2_init 36 = .ok (.bipush 6, 2) := by decide +kernel
theorem dX2_init_38 : decode cX2_init 38 = .ok (.newarray .int, 2) := by decide +kernel
theorem dX2_init_40 : decode cX2_init 40 = .ok (.putfield 32, 3) := by decide +kernel
theorem dX2_init_43 : decode cX2_init 43 = .ok (.aload_n 0, 1) := by decide +kernel
theorem dX2_init_44 : decode cX2_init 44 = .ok (.bipush 6, 2) := by decide +kernel
theorem dX2_init_46 : decode cX2_init 46 = .ok (.newarray .int, 2) := by decide +kernel
theorem dX2_init_48 : decode cX2_init 48 = .ok (.putfield 35, 3) := by decide +kernel
theorem dX2_init_51 : decode cX2_init 51 = .ok (.aload_n 0, 1) := by decide +kernel
theorem dX2_init_52 : decode cX2_init 52 = .ok (.iconst 5, 1) := by decide +kernel
theorem dX2_init_53 : decode cX2_init 53 = .ok (.newarray .int, 2) := by decide +kernel
theorem dX2_init_55 : decode cX2_init 55 = .ok (.putfield 38, 3) := by decide +kernel
theorem dX2_init_58 : decode cX2_init 58 = .ok (.aload_n 0, 1) := by decide +kernel
theorem dX2_init_59 : decode cX2_init 59 = .ok (.iconst 5, 1) := by decide +kernel
theorem dX2_init_60 : decode cX2_init 60 = .ok (.newarray .int, 2) := by decide +kernel
theorem dX2_init_62 : decode cX2_init 62 = .ok (.putfield 41, 3) := by decide +kernel
theorem dX2_init_65 : decode cX2_init 65 = .ok (.aload_n 0, 1) := by decide +kernel
theorem dX2_init_66 : decode cX2_init 66 = .ok (.iconst 5, 1) := by decide +kernel
theorem dX2_init_67 : decode cX2_init 67 = .ok (.newarray .int, 2) := by decide +kernel
theorem dX2_init_69 : decode cX2_init 69 = .ok (.putfield 44, 3) := by decide +kernel
theorem dX2_init_72 : decode cX2_init 72 = .ok (.iconst 0, 1) := by decide +kernel
theorem dX2_init_73 : decode cX2_init 73 = .ok (.istore_n 1, 1) := by decide +kernel
theorem dX2_init_74 : decode cX2_init 74 = .ok (.iload_n 1, 1) := by decide +kernel
theorem dX2_init_75 : decode cX2_init 75 = .ok (.aload_n 0, 1) := by decide +kernel
theorem dX2_init_76 : decode cX2_init 76 = .ok (.getfield 24, 3) := by decide +kernel
theorem dX2_init_79 : decode cX2_init 79 = .ok (.arraylength, 1) := by decide +kernel
theorem dX2_init_80 : decode cX2_init 80 = .ok (.if_icmp .ge 22, 3) := by decide +kernel
theorem dX2_init_83 : decode cX2_init 83 = .ok (.aload_n 0, 1) := by decide +kernel
theorem dX2_init_84 : decode cX2_init 84 = .ok (.getfield 24, 3) := by decide +kernel
theorem dX2_init_87 : decode cX2_init 87 = .ok (.iload_n 1, 1) := by decide +kernel
theorem dX2_init_88 : decode cX2_init 88 = .ok (.new 22, 3) := by decide +kernel
theorem dX2_init_91 : decode cX2_init 91 = .ok (.dup, 1) := by decide +kernel
theorem dX2_init_92 : decode cX2_init 92 = .ok (.invokespecial 47, 3) := by decide +kernel
theorem dX2_init_95 : decode cX2_init 95 = .ok (.aastore, 1) := by decide +kernel
theorem dX2_init_96 : decode cX2_init 96 = .ok (.iinc 1 1, 3) := by decide +kernel
theorem dX2_init_99 : decode cX2_init 99 = .ok (.goto (-25), 3) := by decide +kernel
theorem dX2_init_102 : decode cX2_init 102 = .ok (.return_, 1) := by decide +kernel
theorem dX2_addRiddle_0 : decode cX2_addRiddle 0 = .ok (.aload_n 0, 1) := by decide +kernel
theorem dX2_addRiddle_1 : decode cX2_addRiddle 1 = .ok (.getfield 48, 3) := by decide +kernel
theorem dX2_addRiddle_4 : decode cX2_addRiddle 4 = .ok (.ifCond .lt 11, 3) := by decide +kernel
theorem dX2_addRiddle_7 : decode cX2_addRiddle 7 = .ok (.aload_n 0, 1) := by decide +kernel
theorem dX2_addRiddle_8 : decode cX2_addRiddle 8 = .ok (.getfield 48, 3) := by decide +kernel
theorem dX2_addRiddle_11 : decode cX2_addRiddle 11 = .ok (.iconst 5, 1) := by decide +kernel
theorem dX2_addRiddle_12 : decode cX2_addRiddle 12 = .ok (.if_icmp .lt 5, 3) := by decide +kernel
theorem dX2_addRiddle_15 : decode cX2_addRiddle 15 = .ok (.iconst (-1), 1) := by decide +kernel
theorem dX2_addRiddle_16 : decode cX2_addRiddle 16 = .ok (.ireturn, 1) := by decide +kernel
theorem dX2_addRiddle_17 : decode cX2_addRiddle 17 = .ok (.aload_n 0, 1) := by decide +kernel
theorem dX2_addRiddle_18 : decode cX2_addRiddle 18 = .ok (.getfield 28, 3) := by decide +kernel
theorem dX2_addRiddle_21 : decode cX2_addRiddle 21 = .ok (.aload_n 0, 1) := by decide +kernel
theorem dX2_addRiddle_22 : decode cX2_addRiddle 22 = .ok (.getfield 48, 3) := by decide +kernel
theorem dX2_addRiddle_25 : decode cX2_addRiddle 25 = .ok (.iload_n 1, 1) := by decide +kernel
theorem dX2_addRiddle_26 : decode cX2_addRiddle 26 = .ok (.iastore, 1) := by decide +kernel
theorem dX2_addRiddle_27 : decode cX2_addRiddle 27 = .ok (.aload_n 0, 1) := by decide +kernel
theorem dX2_addRiddle_28 : decode cX2_addRiddle 28 = .ok (.getfield 32, 3) := by decide +kernel
theorem dX2_addRiddle_31 : decode cX2_addRiddle 31 = .ok (.aload_n 0, 1) := by decide +kernel
theorem dX2_addRiddle_32 : decode cX2_addRiddle 32 = .ok (.getfield 48, 3) := by decide +kernel
theorem dX2_addRiddle_35 : decode cX2_addRiddle 35 = .ok (.iconst 1, 1) := by decide +kernel
theorem dX2_addRiddle_36 : decode cX2_addRiddle 36 = .ok (.iadd, 1) := by decide +kernel
theorem dX2_addRiddle_37 : decode cX2_addRiddle 37 = .ok (.iload_n 2, 1) := by decide +kernel
theorem dX2_addRiddle_38 : decode cX2_addRiddle 38 = .ok (.iastore, 1) := by decide +kernel
theorem dX2_addRiddle_39 : decode cX2_addRiddle 39 = .ok (.aload_n 0, 1) := by decide +kernel
theorem dX2_addRiddle_40 : decode cX2_addRiddle 40 = .ok (.getfield 35, 3) := by decide +kernel
theorem dX2_addRiddle_43 : decode cX2_addRiddle 43 = .ok (.aload_n 0, 1) := by decide +kernel
theorem dX2_addRiddle_44 : decode cX2_addRiddle 44 = .ok (.getfield 48, 3) := by decide +kernel
theorem dX2_addRiddle_47 : decode cX2_addRiddle 47 = .ok (.iconst 1, 1) := by decide +kernel
theorem dX2_addRiddle_48 : decode cX2_addRiddle 48 = .ok (.iadd, 1) := by decide +kernel
theorem dX2_addRiddle_49 : decode cX2_addRiddle 49 = .ok (.iload_n 3, 1) := by decide +kernel
theorem dX2_addRiddle_50 : decode cX2_addRiddle 50 = .ok (.iastore, 1) := by decide +kernel
theorem dX2_addRiddle_51 : decode cX2_addRiddle 51 = .ok (.aload_n 0, 1) := by decide +kernel
theorem dX2_addRiddle_52 : decode cX2_addRiddle 52 = .ok (.dup, 1) := by decide +kernel
theorem dX2_addRiddle_53 : decode cX2_addRiddle 53 = .ok (.getfield 48, 3) := by decide +kernel
theorem dX2_addRiddle_56 : decode cX2_addRiddle 56 = .ok (.iconst 1, 1) := by decide +kernel
theorem dX2_addRiddle_57 : decode cX2_addRiddle 57 = .ok (.iadd, 1) := by decide +kernel
theorem dX2_addRiddle_58 : decode cX2_addRiddle 58 = .ok (.putfield 48, 3) := by decide +kernel
theorem dX2_addRiddle_61 : decode cX2_addRiddle 61 = .ok (.aload_n 0, 1) := by decide +kernel
theorem dX2_addRiddle_62 : decode cX2_addRiddle 62 = .ok (.dup, 1) := by decide +kernel
theorem dX2_addRiddle_63 : decode cX2_addRiddle 63 = .ok (.getfield 51, 3) := by decide +kernel
theorem dX2_addRiddle_66 : decode cX2_addRiddle 66 = .ok (.iconst 1, 1) := by decide +kernel
theorem dX2_addRiddle_67 : decode cX2_addRiddle 67 = .ok (.iadd, 1) := by decide +kernel
theorem dX2_addRiddle_68 : decode cX2_addRiddle 68 = .ok (.putfield 51, 3) := by decide +kernel
theorem dX2_addRiddle_71 : decode cX2_addRiddle 71 = .ok (.aload_n 0, 1) := by decide +kernel
theorem dX2_addRiddle_72 : decode cX2_addRiddle 72 = .ok (.getfield 48, 3) := by decide +kernel
theorem dX2_addRiddle_75 : decode cX2_addRiddle 75 = .ok (.iconst 1, 1) := by decide +kernel
theorem dX2_addRiddle_76 : decode cX2_addRiddle 76 = .ok (.isub, 1) := by decide +kernel
theorem dX2_addRiddle_77 : decode cX2_addRiddle 77 = .ok (.ireturn, 1) := by decide +kernel
theorem dX2_addBand_0 : decode cX2_addBand 0 = .ok (.aload_n 0, 1) := by decide +kernel
theorem dX2_addBand_1 : decode cX2_addBand 1 = .ok (.getfield 54, 3) := by decide +kernel
theorem dX2_addBand_4 : decode cX2_addBand 4 = .ok (.ifCond .lt 11, 3) := by decide +kernel
theorem dX2_addBand_7 : decode cX2_addBand 7 = .ok (.aload_n 0, 1) := by decide +kernel
theorem dX2_addBand_8 : decode cX2_addBand 8 = .ok (.getfield 54, 3) := by decide +kernel
theorem dX2_addBand_11 : decode cX2_addBand 11 = .ok (.iconst 5, 1) := by decide +kernel
theorem dX2_addBand_12 : decode cX2_addBand 12 = .ok (.if_icmp .lt 5, 3) := by decide +kernel
theorem dX2_addBand_15 : decode cX2_addBand 15 = .ok (.iconst (-1), 1) := by decide +kernel
theorem dX2_addBand_16 : decode cX2_addBand 16 = .ok (.ireturn, 1) := by decide +kernel
theorem dX2_addBand_17 : decode cX2_addBand 17 = .ok (.aload_n 0, 1) := by decide +kernel
theorem dX2_addBand_18 : decode cX2_addBand 18 = .ok (.getfield 38, 3) := by decide +kernel
theorem dX2_addBand_21 : decode cX2_addBand 21 = .ok (.aload_n 0, 1) := by decide +kernel
theorem dX2_addBand_22 : decode cX2_addBand 22 = .ok (.getfield 54, 3) := by decide +kernel
theorem dX2_addBand_25 : decode cX2_addBand 25 = .ok (.iload_n 1, 1) := by decide +kernel
theorem dX2_addBand_26 : decode cX2_addBand 26 = .ok (.iastore, 1) := by decide +kernel
theorem dX2_addBand_27 : decode cX2_addBand 27 = .ok (.aload_n 0, 1) := by decide +kernel
theorem dX2_addBand_28 : decode cX2_addBand 28 = .ok (.getfield 41, 3) := by decide +kernel
theorem dX2_addBand_31 : decode cX2_addBand 31 = .ok (.aload_n 0, 1) := by decide +kernel
theorem dX2_addBand_32 : decode cX2_addBand 32 = .ok (.getfield 54, 3) := by decide +kernel
theorem dX2_addBand_35 : decode cX2_addBand 35 = .ok (.iload_n 2, 1) := by decide +kernel
theorem dX2_addBand_36 : decode cX2_addBand 36 = .ok (.iastore, 1) := by decide +kernel
theorem dX2_addBand_37 : decode cX2_addBand 37 = .ok (.aload_n 0, 1) := by decide +kernel
theorem dX2_addBand_38 : decode cX2_addBand 38 = .ok (.getfield 44, 3) := by decide +kernel
theorem dX2_addBand_41 : decode cX2_addBand 41 = .ok (.aload_n 0, 1) := by decide +kernel
theorem dX2_addBand_42 : decode cX2_addBand 42 = .ok (.getfield 54, 3) := by decide +kernel
theorem dX2_addBand_45 : decode cX2_addBand 45 = .ok (.iload_n 3, 1) := by decide +kernel
theorem dX2_addBand_46 : decode cX2_addBand 46 = .ok (.iastore, 1) := by decide +kernel
theorem dX2_addBand_47 : decode cX2_addBand 47 = .ok (.aload_n 0, 1) := by decide +kernel
theorem dX2_addBand_48 : decode cX2_addBand 48 = .ok (.dup, 1) := by decide +kernel
theorem dX2_addBand_49 : decode cX2_addBand 49 = .ok (.getfield 54, 3) := by decide +kernel
theorem dX2_addBand_52 : decode cX2_addBand 52 = .ok (.iconst 1, 1) := by decide +kernel
theorem dX2_addBand_53 : decode cX2_addBand 53 = .ok (.iadd, 1) := by decide +kernel
theorem dX2_addBand_54 : decode cX2_addBand 54 = .ok (.putfield 54, 3) := by decide +kernel
theorem dX2_addBand_57 : decode cX2_addBand 57 = .ok (.aload_n 0, 1) := by decide +kernel
theorem dX2_addBand_58 : decode cX2_addBand 58 = .ok (.dup, 1) := by decide +kernel
theorem dX2_addBand_59 : decode cX2_addBand 59 = .ok (.getfield 51, 3) := by decide +kernel
theorem dX2_addBand_62 : decode cX2_addBand 62 = .ok (.iconst 1, 1) := by decide +kernel
theorem dX2_addBand_63 : decode cX2_addBand 63 = .ok (.iadd, 1) := by decide +kernel
theorem dX2_addBand_64 : decode cX2_addBand 64 = .ok (.putfield 51, 3) := by decide +kernel
theorem dX2_addBand_67 : decode cX2_addBand 67 = .ok (.aload_n 0, 1) := by decide +kernel
theorem dX2_addBand_68 : decode cX2_addBand 68 = .ok (.getfield 54, 3) := by decide +kernel
theorem dX2_addBand_71 : decode cX2_addBand 71 = .ok (.iconst 1, 1) := by decide +kernel
theorem dX2_addBand_72 : decode cX2_addBand 72 = .ok (.isub, 1) := by decide +kernel
theorem dX2_addBand_73 : decode cX2_addBand 73 = .ok (.ireturn, 1) := by decide +kernel
theorem dX2_setWeather_0 : decode cX2_setWeather 0 = .ok (.aload_n 0, 1) := by decide +kernel
theorem dX2_setWeather_1 : decode cX2_setWeather 1 = .ok (.iload_n 1, 1) := by decide +kernel
theorem dX2_setWeather_2 : decode cX2_setWeather 2 = .ok (.putfield 9, 3) := by decide +kernel
theorem dX2_setWeather_5 : decode cX2_setWeather 5 = .ok (.aload_n 0, 1) := by decide +kernel
theorem dX2_setWeather_6 : decode cX2_setWeather 6 = .ok (.iload_n 2, 1) := by decide +kernel
theorem dX2_setWeather_7 : decode cX2_setWeather 7 = .ok (.putfield 57, 3) := by decide +kernel
theorem dX2_setWeather_10 : decode cX2_setWeather 10 = .ok (.aload_n 0, 1) := by decide +kernel
theorem dX2_setWeather_11 : decode cX2_setWeather 11 = .ok (.dup, 1) := by decide +kernel
theorem dX2_setWeather_12 : decode cX2_setWeather 12 = .ok (.getfield 51, 3) := by decide +kernel
theorem dX2_setWeather_15 : decode cX2_setWeather 15 = .ok (.iconst 1, 1) := by decide +kernel
theorem dX2_setWeather_16 : decode cX2_setWeather 16 = .ok (.iadd, 1) := by decide +kernel
theorem dX2_setWeather_17 : decode cX2_setWeather 17 = .ok (.putfield 51, 3) := by decide +kernel
theorem dX2_setWeather_20 : decode cX2_setWeather 20 = .ok (.return_, 1) := by decide +kernel
theorem dX2_hasBand_0 : decode cX2_hasBand 0 = .ok (.iload_n 1, 1) := by decide +kernel
theorem dX2_hasBand_1 : decode cX2_hasBand 1 = .ok (.ifCond .lt 20, 3) := by decide +kernel
theorem dX2_hasBand_4 : decode cX2_hasBand 4 = .ok (.iload_n 1, 1) := by decide +kernel
theorem dX2_hasBand_5 : decode cX2_hasBand 5 = .ok (.aload_n 0, 1) := by decide +kernel
theorem dX2_hasBand_6 : decode cX2_hasBand 6 = .ok (.getfield 54, 3) := by decide +kernel
theorem dX2_hasBand_9 : decode cX2_hasBand 9 = .ok (.if_icmp .ge 12, 3) := by decide +kernel
theorem dX2_hasBand_12 : decode cX2_hasBand 12 = .ok (.iload_n 1, 1) := by decide +kernel
theorem dX2_hasBand_13 : decode cX2_hasBand 13 = .ok (.iconst 5, 1) := by decide +kernel
theorem dX2_hasBand_14 : decode cX2_hasBand 14 = .ok (.if_icmp .ge 7, 3) := by decide +kernel
theorem dX2_hasBand_17 : decode cX2_hasBand 17 = .ok (.iconst 1, 1) := by decide +kernel
theorem dX2_hasBand_18 : decode cX2_hasBand 18 = .ok (.goto 4, 3) := by decide +kernel
theorem dX2_hasBand_21 : decode cX2_hasBand 21 = .ok (.iconst 0, 1) := by decide +kernel
theorem dX2_hasBand_22 : decode cX2_hasBand 22 = .ok (.ireturn, 1) := by decide +kernel
theorem dX2_hasRiddle_0 : decode cX2_hasRiddle 0 = .ok (.iload_n 1, 1) := by decide +kernel
theorem dX2_hasRiddle_1 : decode cX2_hasRiddle 1 = .ok (.ifCond .lt 20, 3) := by decide +kernel
theorem dX2_hasRiddle_4 : decode cX2_hasRiddle 4 = .ok (.iload_n 1, 1) := by decide +kernel
theorem dX2_hasRiddle_5 : decode cX2_hasRiddle 5 = .ok (.aload_n 0, 1) := by decide +kernel
theorem dX2_hasRiddle_6 : decode cX2_hasRiddle 6 = .ok (.getfield 48, 3) := by decide +kernel
theorem dX2_hasRiddle_9 : decode cX2_hasRiddle 9 = .ok (.if_icmp .ge 12, 3) := by decide +kernel
theorem dX2_hasRiddle_12 : decode cX2_hasRiddle 12 = .ok (.iload_n 1, 1) := by decide +kernel
theorem dX2_hasRiddle_13 : decode cX2_hasRiddle 13 = .ok (.iconst 5, 1) := by decide +kernel
theorem dX2_hasRiddle_14 : decode cX2_hasRiddle 14 = .ok (.if_icmp .ge 7, 3) := by decide +kernel
theorem dX2_hasRiddle_17 : decode cX2_hasRiddle 17 = .ok (.iconst 1, 1) := by decide +kernel
theorem dX2_hasRiddle_18 : decode cX2_hasRiddle 18 = .ok (.goto 4, 3) := by decide +kernel
theorem dX2_hasRiddle_21 : decode cX2_hasRiddle 21 = .ok (.iconst 0, 1) := by decide +kernel
theorem dX2_hasRiddle_22 : decode cX2_hasRiddle 22 = .ok (.ireturn, 1) := by decide +kernel
theorem dX2_followsSeen_0 : decode cX2_followsSeen 0 = .ok (.aload_n 0, 1) := by decide +kernel
theorem dX2_followsSeen_1 : decode cX2_followsSeen 1 = .ok (.iload_n 1, 1) := by decide +kernel
theorem dX2_followsSeen_2 : decode cX2_followsSeen 2 = .ok (.invokevirtual 60, 3) := by decide +kernel
theorem dX2_followsSeen_5 : decode cX2_followsSeen 5 = .ok (.ifCond .eq 24, 3) := by decide +kernel
theorem dX2_followsSeen_8 : decode cX2_followsSeen 8 = .ok (.aload_n 0, 1) := by decide +kernel
theorem dX2_followsSeen_9 : decode cX2_followsSeen 9 = .ok (.getfield 44, 3) := by decide +kernel
theorem dX2_followsSeen_12 : decode cX2_followsSeen 12 = .ok (.iload_n 1, 1) := by decide +kernel
theorem dX2_followsSeen_13 : decode cX2_followsSeen 13 = .ok (.iaload, 1) := by decide +kernel
theorem dX2_followsSeen_14 : decode cX2_followsSeen 14 = .ok (.iconst 1, 1) := by decide +kernel
theorem dX2_followsSeen_15 : decode cX2_followsSeen 15 = .ok (.if_icmp .ne 14, 3) := by decide +kernel
theorem dX2_followsSeen_18 : decode cX2_followsSeen 18 = .ok (.aload_n 0, 1) := by decide +kernel
theorem dX2_followsSeen_19 : decode cX2_followsSeen 19 = .ok (.getfield 57, 3) := by decide +kernel
theorem dX2_followsSeen_22 : decode cX2_followsSeen 22 = .ok (.ifCond .ne 7, 3) := by decide +kernel
theorem dX2_followsSeen_25 : decode cX2_followsSeen 25 = .ok (.iconst 1, 1) := by decide +kernel
theorem dX2_followsSeen_26 : decode cX2_followsSeen 26 = .ok (.goto 4, 3) := by decide +kernel
theorem dX2_followsSeen_29 : decode cX2_followsSeen 29 = .ok (.iconst 0, 1) := by decide +kernel
theorem dX2_followsSeen_30 : decode cX2_followsSeen 30 = .ok (.ireturn, 1) := by decide +kernel
theorem dX2_steps_0 : decode cX2_steps 0 = .ok (.aload_n 0, 1) := by decide +kernel
theorem dX2_steps_1 : decode cX2_steps 1 = .ok (.iload_n 1, 1) := by decide +kernel
theorem dX2_steps_2 : decode cX2_steps 2 = .ok (.invokevirtual 60, 3) := by decide +kernel
theorem dX2_steps_5 : decode cX2_steps 5 = .ok (.ifCond .eq 11, 3) := by decide +kernel
theorem dX2_steps_8 : decode cX2_steps 8 = .ok (.aload_n 0, 1) := by decide +kernel
theorem dX2_steps_9 : decode cX2_steps 9 = .ok (.iload_n 2, 1) := by decide +kernel
theorem dX2_steps_10 : decode cX2_steps 10 = .ok (.invokevirtual 64, 3) := by decide +kernel
theorem dX2_steps_13 : decode cX2_steps 13 = .ok (.ifCond .ne 5, 3) := by decide +kernel
theorem dX2_steps_16 : decode cX2_steps 16 = .ok (.iconst (-1), 1) := by decide +kernel
theorem dX2_steps_17 : decode cX2_steps 17 = .ok (.ireturn, 1) := by decide +kernel
theorem dX2_steps_18 : decode cX2_steps 18 = .ok (.aload_n 0, 1) := by decide +kernel
theorem dX2_steps_19 : decode cX2_steps 19 = .ok (.getfield 32, 3) := by decide +kernel
theorem dX2_steps_22 : decode cX2_steps 22 = .ok (.iload_n 2, 1) := by decide +kernel
theorem dX2_steps_23 : decode cX2_steps 23 = .ok (.iconst 1, 1) := by decide +kernel
theorem dX2_steps_24 : decode cX2_steps 24 = .ok (.iadd, 1) := by decide +kernel
theorem dX2_steps_25 : decode cX2_steps 25 = .ok (.iaload, 1) := by decide +kernel
theorem dX2_steps_26 : decode cX2_steps 26 = .ok (.aload_n 0, 1) := by decide +kernel
theorem dX2_steps_27 : decode cX2_steps 27 = .ok (.getfield 32, 3) := by decide +kernel
theorem dX2_steps_30 : decode cX2_steps 30 = .ok (.iload_n 2, 1) := by decide +kernel
theorem dX2_steps_31 : decode cX2_steps 31 = .ok (.iaload, 1) := by decide +kernel
theorem dX2_steps_32 : decode cX2_steps 32 = .ok (.isub, 1) := by decide +kernel
theorem dX2_steps_33 : decode cX2_steps 33 = .ok (.invokestatic 67, 3) := by decide +kernel
theorem dX2_steps_36 : decode cX2_steps 36 = .ok (.aload_n 0, 1) := by decide +kernel
theorem dX2_steps_37 : decode cX2_steps 37 = .ok (.getfield 35, 3) := by decide +kernel
theorem dX2_steps_40 : decode cX2_steps 40 = .ok (.iload_n 2, 1) := by decide +kernel
theorem dX2_steps_41 : decode cX2_steps 41 = .ok (.iconst 1, 1) := by decide +kernel
theorem dX2_steps_42 : decode cX2_steps 42 = .ok (.iadd, 1) := by decide +kernel
theorem dX2_steps_43 : decode cX2_steps 43 = .ok (.iaload, 1) := by decide +kernel
theorem dX2_steps_44 : decode cX2_steps 44 = .ok (.aload_n 0, 1) := by decide +kernel
theorem dX2_steps_45 : decode cX2_steps 45 = .ok (.getfield 35, 3) := by decide +kernel
theorem dX2_steps_48 : decode cX2_steps 48 = .ok (.iload_n 2, 1) := by decide +kernel
theorem dX2_steps_49 : decode cX2_steps 49 = .ok (.iaload, 1) := by decide +kernel
theorem dX2_steps_50 : decode cX2_steps 50 = .ok (.isub, 1) := by decide +kernel
theorem dX2_steps_51 : decode cX2_steps 51 = .ok (.invokestatic 67, 3) := by decide +kernel
theorem dX2_steps_54 : decode cX2_steps 54 = .ok (.iadd, 1) := by decide +kernel
theorem dX2_steps_55 : decode cX2_steps 55 = .ok (.istore_n 3, 1) := by decide +kernel
theorem dX2_steps_56 : decode cX2_steps 56 = .ok (.iconst 1, 1) := by decide +kernel
theorem dX2_steps_57 : decode cX2_steps 57 = .ok (.aload_n 0, 1) := by decide +kernel
theorem dX2_steps_58 : decode cX2_steps 58 = .ok (.getfield 41, 3) := by decide +kernel
theorem dX2_steps_61 : decode cX2_steps 61 = .ok (.iload_n 1, 1) := by decide +kernel
theorem dX2_steps_62 : decode cX2_steps 62 = .ok (.iaload, 1) := by decide +kernel
theorem dX2_steps_63 : decode cX2_steps 63 = .ok (.invokestatic 73, 3) := by decide +kernel
theorem dX2_steps_66 : decode cX2_steps 66 = .ok (.istore 4, 2) := by decide +kernel
theorem dX2_steps_68 : decode cX2_steps 68 = .ok (.iconst 1, 1) := by decide +kernel
theorem dX2_steps_69 : decode cX2_steps 69 = .ok (.bipush 6, 2) := by decide +kernel
theorem dX2_steps_71 : decode cX2_steps 71 = .ok (.iload_n 3, 1) := by decide +kernel
theorem dX2_steps_72 : decode cX2_steps 72 = .ok (.iload 4, 2) := by decide +kernel
theorem dX2_steps_74 : decode cX2_steps 74 = .ok (.iadd, 1) := by decide +kernel
theorem dX2_steps_75 : decode cX2_steps 75 = .ok (.iconst 1, 1) := by decide +kernel
theorem dX2_steps_76 : decode cX2_steps 76 = .ok (.isub, 1) := by decide +kernel
theorem dX2_steps_77 : decode cX2_steps 77 = .ok (.iload 4, 2) := by decide +kernel
theorem dX2_steps_79 : decode cX2_steps 79 = .ok (.idiv, 1) := by decide +kernel
theorem dX2_steps_80 : decode cX2_steps 80 = .ok (.invokestatic 77, 3) := by decide +kernel
theorem dX2_steps_83 : decode cX2_steps 83 = .ok (.invokestatic 73, 3) := by decide +kernel
theorem dX2_steps_86 : decode cX2_steps 86 = .ok (.ireturn, 1) := by decide +kernel
theorem dX2_skill_0 : decode cX2_skill 0 = .ok (.aload_n 0, 1) := by decide +kernel
theorem dX2_skill_1 : decode cX2_skill 1 = .ok (.iload_n 1, 1) := by decide +kernel
theorem dX2_skill_2 : decode cX2_skill 2 = .ok (.invokevirtual 60, 3) := by decide +kernel
theorem dX2_skill_5 : decode cX2_skill 5 = .ok (.ifCond .eq 7, 3) := by decide +kernel
theorem dX2_skill_8 : decode cX2_skill 8 = .ok (.iload_n 1, 1) := by decide +kernel
theorem dX2_skill_9 : decode cX2_skill 9 = .ok (.goto 4, 3) := by decide +kernel
theorem dX2_skill_12 : decode cX2_skill 12 = .ok (.iconst 0, 1) := by decide +kernel
theorem dX2_skill_13 : decode cX2_skill 13 = .ok (.istore_n 2, 1) := by decide +kernel
theorem dX2_skill_14 : decode cX2_skill 14 = .ok (.aload_n 0, 1) := by decide +kernel
theorem dX2_skill_15 : decode cX2_skill 15 = .ok (.getfield 24, 3) := by decide +kernel
theorem dX2_skill_18 : decode cX2_skill 18 = .ok (.iload_n 2, 1) := by decide +kernel
theorem dX2_skill_19 : decode cX2_skill 19 = .ok (.aaload, 1) := by decide +kernel
theorem dX2_skill_20 : decode cX2_skill 20 = .ok (.astore_n 3, 1) := by decide +kernel
theorem dX2_skill_21 : decode cX2_skill 21 = .ok (.aload_n 3, 1) := by decide +kernel
theorem dX2_skill_22 : decode cX2_skill 22 = .ok (.getfield 80, 3) := by decide +kernel
theorem dX2_skill_25 : decode cX2_skill 25 = .ok (.aload_n 0, 1) := by decide +kernel
theorem dX2_skill_26 : decode cX2_skill 26 = .ok (.getfield 51, 3) := by decide +kernel
theorem dX2_skill_29 : decode cX2_skill 29 = .ok (.if_icmp .eq 23, 3) := by decide +kernel
theorem dX2_skill_32 : decode cX2_skill 32 = .ok (.aload_n 0, 1) := by decide +kernel
theorem dX2_skill_33 : decode cX2_skill 33 = .ok (.aload_n 3, 1) := by decide +kernel
theorem dX2_skill_34 : decode cX2_skill 34 = .ok (.iload_n 2, 1) := by decide +kernel
theorem dX2_skill_35 : decode cX2_skill 35 = .ok (.aload_n 0, 1) := by decide +kernel
theorem dX2_skill_36 : decode cX2_skill 36 = .ok (.getfield 38, 3) := by decide +kernel
theorem dX2_skill_39 : decode cX2_skill 39 = .ok (.iload_n 2, 1) := by decide +kernel
theorem dX2_skill_40 : decode cX2_skill 40 = .ok (.iaload, 1) := by decide +kernel
theorem dX2_skill_41 : decode cX2_skill 41 = .ok (.invokevirtual 81, 3) := by decide +kernel
theorem dX2_skill_44 : decode cX2_skill 44 = .ok (.aload_n 3, 1) := by decide +kernel
theorem dX2_skill_45 : decode cX2_skill 45 = .ok (.aload_n 0, 1) := by decide +kernel
theorem dX2_skill_46 : decode cX2_skill 46 = .ok (.getfield 51, 3) := by decide +kernel
theorem dX2_skill_49 : decode cX2_skill 49 = .ok (.putfield 80, 3) := by decide +kernel
theorem dX2_skill_52 : decode cX2_skill 52 = .ok (.aload_n 3, 1) := by decide +kernel
theorem dX2_skill_53 : decode cX2_skill 53 = .ok (.areturn, 1) := by decide +kernel
theorem dX2_load_0 : decode cX2_load 0 = .ok (.aload_n 0, 1) := by decide +kernel
theorem dX2_load_1 : decode cX2_load 1 = .ok (.iload_n 2, 1) := by decide +kernel
theorem dX2_load_2 : decode cX2_load 2 = .ok (.invokevirtual 60, 3) := by decide +kernel
theorem dX2_load_5 : decode cX2_load 5 = .ok (.ifCond .ne 4, 3) := by decide +kernel
theorem dX2_load_8 : decode cX2_load 8 = .ok (.return_, 1) := by decide +kernel
theorem dX2_load_9 : decode cX2_load 9 = .ok (.aload_n 0, 1) := by decide +kernel
theorem dX2_load_10 : decode cX2_load 10 = .ok (.getfield 18, 3) := by decide +kernel
theorem dX2_load_13 : decode cX2_load 13 = .ok (.iload_n 3, 1) := by decide +kernel
theorem dX2_load_14 : decode cX2_load 14 = .ok (.iload_n 2, 1) := by decide +kernel
theorem dX2_load_15 : decode cX2_load 15 = .ok (.aload_n 0, 1) := by decide +kernel
theorem dX2_load_16 : decode cX2_load 16 = .ok (.getfield 41, 3) := by decide +kernel
theorem dX2_load_19 : decode cX2_load 19 = .ok (.iload_n 2, 1) := by decide +kernel
theorem dX2_load_20 : decode cX2_load 20 = .ok (.iaload, 1) := by decide +kernel
theorem dX2_load_21 : decode cX2_load 21 = .ok (.invokevirtual 85, 3) := by decide +kernel
theorem dX2_load_24 : decode cX2_load 24 = .ok (.aload_n 0, 1) := by decide +kernel
theorem dX2_load_25 : decode cX2_load 25 = .ok (.getfield 18, 3) := by decide +kernel
theorem dX2_load_28 : decode cX2_load 28 = .ok (.aload_n 0, 1) := by decide +kernel
theorem dX2_load_29 : decode cX2_load 29 = .ok (.getfield 48, 3) := by decide +kernel
theorem dX2_load_32 : decode cX2_load 32 = .ok (.aload_n 0, 1) := by decide +kernel
theorem dX2_load_33 : decode cX2_load 33 = .ok (.getfield 57, 3) := by decide +kernel
theorem dX2_load_36 : decode cX2_load 36 = .ok (.invokevirtual 89, 3) := by decide +kernel
theorem dX2_load_39 : decode cX2_load 39 = .ok (.iconst 0, 1) := by decide +kernel
theorem dX2_load_40 : decode cX2_load 40 = .ok (.istore 4, 2) := by decide +kernel
theorem dX2_load_42 : decode cX2_load 42 = .ok (.iload 4, 2) := by decide +kernel
theorem dX2_load_44 : decode cX2_load 44 = .ok (.aload_n 0, 1) := by decide +kernel
theorem dX2_load_45 : decode cX2_load 45 = .ok (.getfield 48, 3) := by decide +kernel
theorem dX2_load_48 : decode cX2_load 48 = .ok (.if_icmp .ge 132, 3) := by decide +kernel
theorem dX2_load_51 : decode cX2_load 51 = .ok (.iload 4, 2) := by decide +kernel
theorem dX2_load_53 : decode cX2_load 53 = .ok (.iconst 5, 1) := by decide +kernel
theorem dX2_load_54 : decode cX2_load 54 = .ok (.if_icmp .ge 126, 3) := by decide +kernel
theorem dX2_load_57 : decode cX2_load 57 = .ok (.aload_n 1, 1) := by decide +kernel
theorem dX2_load_58 : decode cX2_load 58 = .ok (.getfield 93, 3) := by decide +kernel
theorem dX2_load_61 : decode cX2_load 61 = .ok (.iload 4, 2) := by decide +kernel
theorem dX2_load_63 : decode cX2_load 63 = .ok (.aload_n 0, 1) := by decide +kernel
theorem dX2_load_64 : decode cX2_load 64 = .ok (.iload_n 2, 1) := by decide +kernel
theorem dX2_load_65 : decode cX2_load 65 = .ok (.iload 4, 2) := by decide +kernel
theorem dX2_load_67 : decode cX2_load 67 = .ok (.invokevirtual 96, 3) := by decide +kernel
theorem dX2_load_70 : decode cX2_load 70 = .ok (.iastore, 1) := by decide +kernel
theorem dX2_load_71 : decode cX2_load 71 = .ok (.iconst 0, 1) := by decide +kernel
theorem dX2_load_72 : decode cX2_load 72 = .ok (.istore 5, 2) := by decide +kernel
theorem dX2_load_74 : decode cX2_load 74 = .ok (.iload 5, 2) := by decide +kernel
theorem dX2_load_76 : decode cX2_load 76 = .ok (.bipush 6, 2) := by decide +kernel
theorem dX2_load_78 : decode cX2_load 78 = .ok (.if_icmp .ge 96, 3) := by decide +kernel
theorem dX2_load_81 : decode cX2_load 81 = .ok (.aload_n 0, 1) := by decide +kernel
theorem dX2_load_82 : decode cX2_load 82 = .ok (.getfield 18, 3) := by decide +kernel
theorem dX2_load_85 : decode cX2_load 85 = .ok (.aload_n 0, 1) := by decide +kernel
theorem dX2_load_86 : decode cX2_load 86 = .ok (.getfield 28, 3) := by decide +kernel
theorem dX2_load_89 : decode cX2_load 89 = .ok (.iload 4, 2) := by decide +kernel
theorem dX2_load_91 : decode cX2_load 91 = .ok (.iaload, 1) := by decide +kernel
theorem dX2_load_92 : decode cX2_load 92 = .ok (.iload 4, 2) := by decide +kernel
theorem dX2_load_94 : decode cX2_load 94 = .ok (.iload 5, 2) := by decide +kernel
theorem dX2_load_96 : decode cX2_load 96 = .ok (.invokevirtual 98, 3) := by decide +kernel
theorem dX2_load_99 : decode cX2_load 99 = .ok (.iconst 0, 1) := by decide +kernel
theorem dX2_load_100 : decode cX2_load 100 = .ok (.bipush 8, 2) := by decide +kernel
theorem dX2_load_102 : decode cX2_load 102 = .ok (.aload_n 0, 1) := by decide +kernel
theorem dX2_load_103 : decode cX2_load 103 = .ok (.getfield 18, 3) := by decide +kernel
theorem dX2_load_106 : decode cX2_load 106 = .ok (.bipush 115, 2) := by decide +kernel
theorem dX2_load_108 : decode cX2_load 108 = .ok (.invokevirtual 101, 3) := by decide +kernel
theorem dX2_load_111 : decode cX2_load 111 = .ok (.invokestatic 77, 3) := by decide +kernel
theorem dX2_load_114 : decode cX2_load 114 = .ok (.invokestatic 73, 3) := by decide +kernel
theorem dX2_load_117 : decode cX2_load 117 = .ok (.istore 6, 2) := by decide +kernel
theorem dX2_load_119 : decode cX2_load 119 = .ok (.aload_n 1, 1) := by decide +kernel
theorem dX2_load_120 : decode cX2_load 120 = .ok (.getfield 104, 3) := by decide +kernel
theorem dX2_load_123 : decode cX2_load 123 = .ok (.iload 4, 2) := by decide +kernel
theorem dX2_load_125 : decode cX2_load 125 = .ok (.bipush 6, 2) := by decide +kernel
theorem dX2_load_127 : decode cX2_load 127 = .ok (.imul, 1) := by decide +kernel
theorem dX2_load_128 : decode cX2_load 128 = .ok (.iload 5, 2) := by decide +kernel
theorem dX2_load_130 : decode cX2_load 130 = .ok (.iadd, 1) := by decide +kernel
theorem dX2_load_131 : decode cX2_load 131 = .ok (.iload 6, 2) := by decide +kernel
theorem dX2_load_133 : decode cX2_load 133 = .ok (.iastore, 1) := by decide +kernel
theorem dX2_load_134 : decode cX2_load 134 = .ok (.aload_n 1, 1) := by decide +kernel
theorem dX2_load_135 : decode cX2_load 135 = .ok (.getfield 107, 3) := by decide +kernel
theorem dX2_load_138 : decode cX2_load 138 = .ok (.iload 4, 2) := by decide +kernel
theorem dX2_load_140 : decode cX2_load 140 = .ok (.bipush 6, 2) := by decide +kernel
theorem dX2_load_142 : decode cX2_load 142 = .ok (.imul, 1) := by decide +kernel
theorem dX2_load_143 : decode cX2_load 143 = .ok (.iload 5, 2) := by decide +kernel
theorem dX2_load_145 : decode cX2_load 145 = .ok (.iadd, 1) := by decide +kernel
theorem dX2_load_146 : decode cX2_load 146 = .ok (.iconst 0, 1) := by decide +kernel
theorem dX2_load_147 : decode cX2_load 147 = .ok (.bipush 8, 2) := by decide +kernel
theorem dX2_load_149 : decode cX2_load 149 = .ok (.iload 6, 2) := by decide +kernel
theorem dX2_load_151 : decode cX2_load 151 = .ok (.isub, 1) := by decide +kernel
theorem dX2_load_152 : decode cX2_load 152 = .ok (.aload_n 0, 1) := by decide +kernel
theorem dX2_load_153 : decode cX2_load 153 = .ok (.getfield 18, 3) := by decide +kernel
theorem dX2_load_156 : decode cX2_load 156 = .ok (.bipush 101, 2) := by decide +kernel
theorem dX2_load_158 : decode cX2_load 158 = .ok (.invokevirtual 101, 3) := by decide +kernel
theorem dX2_load_161 : decode cX2_load 161 = .ok (.invokestatic 77, 3) := by decide +kernel
theorem dX2_load_164 : decode cX2_load 164 = .ok (.invokestatic 73, 3) := by decide +kernel
theorem dX2_load_167 : decode cX2_load 167 = .ok (.iastore, 1) := by decide +kernel
theorem dX2_load_168 : decode cX2_load 168 = .ok (.iinc 5 1, 3) := by decide +kernel
theorem dX2_load_171 : decode cX2_load 171 = .ok (.goto (-97), 3) := by decide +kernel
theorem dX2_load_174 : decode cX2_load 174 = .ok (.iinc 4 1, 3) := by decide +kernel
theorem dX2_load_177 : decode cX2_load 177 = .ok (.goto (-135), 3) := by decide +kernel
theorem dX2_load_180 : decode cX2_load 180 = .ok (.return_, 1) := by decide +kernel
theorem dX3_init_0 : decode cX3_init 0 = .ok (.aload_n 0, 1) := by decide +kernel
theorem dX3_init_1 : decode cX3_init 1 = .ok (.invokespecial 3, 3) := by decide +kernel
theorem dX3_init_4 : decode cX3_init 4 = .ok (.aload_n 0, 1) := by decide +kernel
theorem dX3_init_5 : decode cX3_init 5 = .ok (.iconst 5, 1) := by decide +kernel
theorem dX3_init_6 : decode cX3_init 6 = .ok (.anewarray 9, 3) := by decide +kernel
theorem dX3_init_9 : decode cX3_init 9 = .ok (.putfield 11, 3) := by decide +kernel
theorem dX3_init_12 : decode cX3_init 12 = .ok (.aload_n 0, 1) := by decide +kernel
theorem dX3_init_13 : decode cX3_init 13 = .ok (.iconst 5, 1) := by decide +kernel
theorem dX3_init_14 : decode cX3_init 14 = .ok (.newarray .int, 2) := by decide +kernel
theorem dX3_init_16 : decode cX3_init 16 = .ok (.putfield 17, 3) := by decide +kernel
theorem dX3_init_19 : decode cX3_init 19 = .ok (.aload_n 0, 1) := by decide +kernel
theorem dX3_init_20 : decode cX3_init 20 = .ok (.iconst 5, 1) := by decide +kernel
theorem dX3_init_21 : decode cX3_init 21 = .ok (.newarray .int, 2) := by decide +kernel
theorem dX3_init_23 : decode cX3_init 23 = .ok (.putfield 21, 3) := by decide +kernel
theorem dX3_init_26 : decode cX3_init 26 = .ok (.aload_n 0, 1) := by decide +kernel
theorem dX3_init_27 : decode cX3_init 27 = .ok (.iconst 5, 1) := by decide +kernel
theorem dX3_init_28 : decode cX3_init 28 = .ok (.newarray .int, 2) := by decide +kernel
theorem dX3_init_30 : decode cX3_init 30 = .ok (.putfield 24, 3) := by decide +kernel
theorem dX3_init_33 : decode cX3_init 33 = .ok (.aload_n 0, 1) := by decide +kernel
theorem dX3_init_34 : decode cX3_init 34 = .ok (.iconst 5, 1) := by decide +kernel
theorem dX3_init_35 : decode cX3_init 35 = .ok (.newarray .int, 2) := by decide +kernel
theorem dX3_init_37 : decode cX3_init 37 = .ok (.putfield 27, 3) := by decide +kernel
theorem dX3_init_40 : decode cX3_init 40 = .ok (.aload_n 0, 1) := by decide +kernel
theorem dX3_init_41 : decode cX3_init 41 = .ok (.iconst 1, 1) := by decide +kernel
theorem dX3_init_42 : decode cX3_init 42 = .ok (.putfield 30, 3) := by decide +kernel
theorem dX3_init_45 : decode cX3_init 45 = .ok (.aload_n 0, 1) := by decide +kernel
theorem dX3_init_46 : decode cX3_init 46 = .ok (.aload_n 1, 1) := by decide +kernel
theorem dX3_init_47 : decode cX3_init 47 = .ok (.putfield 34, 3) := by decide +kernel
theorem dX3_init_50 : decode cX3_init 50 = .ok (.aload_n 0, 1) := by decide +kernel
theorem dX3_init_51 : decode cX3_init 51 = .ok (.aload_n 2, 1) := by decide +kernel
theorem dX3_init_52 : decode cX3_init 52 = .ok (.putfield 38, 3) := by decide +kernel
theorem dX3_init_55 : decode cX3_init 55 = .ok (.return_, 1) := by decide +kernel
theorem dX3_boxTick_0 : decode cX3_boxTick 0 = .ok (.iload_n 1, 1) := by decide +kernel
theorem dX3_boxTick_1 : decode cX3_boxTick 1 = .ok (.ifCond .lt 17, 3) := by decide +kernel
theorem dX3_boxTick_4 : decode cX3_boxTick 4 = .ok (.iload_n 1, 1) := by decide +kernel
theorem dX3_boxTick_5 : decode cX3_boxTick 5 = .ok (.iconst 5, 1) := by decide +kernel
theorem dX3_boxTick_6 : decode cX3_boxTick 6 = .ok (.if_icmp .ge 12, 3) := by decide +kernel
theorem dX3_boxTick_9 : decode cX3_boxTick 9 = .ok (.aload_n 0, 1) := by decide +kernel
theorem dX3_boxTick_10 : decode cX3_boxTick 10 = .ok (.getfield 27, 3) := by decide +kernel
theorem dX3_boxTick_13 : decode cX3_boxTick 13 = .ok (.iload_n 1, 1) := by decide +kernel
theorem dX3_boxTick_14 : decode cX3_boxTick 14 = .ok (.iaload, 1) := by decide +kernel
theorem dX3_boxTick_15 : decode cX3_boxTick 15 = .ok (.goto 4, 3) := by decide +kernel
theorem dX3_boxTick_18 : decode cX3_boxTick 18 = .ok (.iconst (-1), 1) := by decide +kernel
theorem dX3_boxTick_19 : decode cX3_boxTick 19 = .ok (.ireturn, 1) := by decide +kernel
theorem dX3_play_0 : decode cX3_play 0 = .ok (.aload_n 0, 1) := by decide +kernel
theorem dX3_play_1 : decode cX3_play 1 = .ok (.getfield 38, 3) := by decide +kernel
theorem dX3_play_4 : decode cX3_play 4 = .ok (.invokevirtual 42, 3) := by decide +kernel
theorem dX3_play_7 : decode cX3_play 7 = .ok (.aload_n 0, 1) := by decide +kernel
theorem dX3_play_8 : decode cX3_play 8 = .ok (.iconst 0, 1) := by decide +kernel
theorem dX3_play_9 : decode cX3_play 9 = .ok (.putfield 47, 3) := by decide +kernel
theorem dX3_play_12 : decode cX3_play 12 = .ok (.aload_n 0, 1) := by decide +kernel
theorem dX3_play_13 : decode cX3_play 13 = .ok (.iconst 1, 1) := by decide +kernel
theorem dX3_play_14 : decode cX3_play 14 = .ok (.putfield 50, 3) := by decide +kernel
theorem dX3_play_17 : decode cX3_play 17 = .ok (.iconst 0, 1) := by decide +kernel
theorem dX3_play_18 : decode cX3_play 18 = .ok (.istore_n 1, 1) := by decide +kernel
theorem dX3_play_19 : decode cX3_play 19 = .ok (.iload_n 1, 1) := by decide +kernel
theorem dX3_play_20 : decode cX3_play 20 = .ok (.iconst 5, 1) := by decide +kernel
theorem dX3_play_21 : decode cX3_play 21 = .ok (.if_icmp .ge 51, 3) := by decide +kernel
theorem dX3_play_24 : decode cX3_play 24 = .ok (.aload_n 0, 1) := by decide +kernel
theorem dX3_play_25 : decode cX3_play 25 = .ok (.getfield 11, 3) := by decide +kernel
theorem dX3_play_28 : decode cX3_play 28 = .ok (.iload_n 1, 1) := by decide +kernel
theorem dX3_play_29 : decode cX3_play 29 = .ok (.aload_n 0, 1) := by decide +kernel
theorem dX3_play_30 : decode cX3_play 30 = .ok (.getfield 34, 3) := by decide +kernel
theorem dX3_play_33 : decode cX3_play 33 = .ok (.iload_n 1, 1) := by decide +kernel
theorem dX3_play_34 : decode cX3_play 34 = .ok (.invokevirtual 54, 3) := by decide +kernel
theorem dX3_play_37 : decode cX3_play 37 = .ok (.aastore, 1) := by decide +kernel
theorem dX3_play_38 : decode cX3_play 38 = .ok (.aload_n 0, 1) := by decide +kernel
theorem dX3_play_39 : decode cX3_play 39 = .ok (.getfield 17, 3) := by decide +kernel
theorem dX3_play_42 : decode cX3_play 42 = .ok (.iload_n 1, 1) := by decide +kernel
theorem dX3_play_43 : decode cX3_play 43 = .ok (.iconst 0, 1) := by decide +kernel
theorem dX3_play_44 : decode cX3_play 44 = .ok (.iastore, 1) := by decide +kernel
theorem dX3_play_45 : decode cX3_play 45 = .ok (.aload_n 0, 1) := by decide +kernel
theorem dX3_play_46 : decode cX3_play 46 = .ok (.getfield 21, 3) := by decide +kernel
theorem dX3_play_49 : decode cX3_play 49 = .ok (.iload_n 1, 1) := by decide +kernel
theorem dX3_play_50 : decode cX3_play 50 = .ok (.iconst 0, 1) := by decide +kernel
theorem dX3_play_51 : decode cX3_play 51 = .ok (.iastore, 1) := by decide +kernel
theorem dX3_play_52 : decode cX3_play 52 = .ok (.aload_n 0, 1) := by decide +kernel
theorem dX3_play_53 : decode cX3_play 53 = .ok (.getfield 24, 3) := by decide +kernel
theorem dX3_play_56 : decode cX3_play 56 = .ok (.iload_n 1, 1) := by decide +kernel
theorem dX3_play_57 : decode cX3_play 57 = .ok (.iconst 0, 1) := by decide +kernel
theorem dX3_play_58 : decode cX3_play 58 = .ok (.iastore, 1) := by decide +kernel
theorem dX3_play_59 : decode cX3_play 59 = .ok (.aload_n 0, 1) := by decide +kernel
theorem dX3_play_60 : decode cX3_play 60 = .ok (.getfield 27, 3) := by decide +kernel
theorem dX3_play_63 : decode cX3_play 63 = .ok (.iload_n 1, 1) := by decide +kernel
theorem dX3_play_64 : decode cX3_play 64 = .ok (.iconst 0, 1) := by decide +kernel
theorem dX3_play_65 : decode cX3_play 65 = .ok (.iastore, 1) := by decide +kernel
theorem dX3_play_66 : decode cX3_play 66 = .ok (.iinc 1 1, 3) := by decide +kernel
theorem dX3_play_69 : decode cX3_play 69 = .ok (.goto (-50), 3) := by decide +kernel
theorem dX3_play_72 : decode cX3_play 72 = .ok (.iconst 1, 1) := by decide +kernel
theorem dX3_play_73 : decode cX3_play 73 = .ok (.istore_n 1, 1) := by decide +kernel
theorem dX3_play_74 : decode cX3_play 74 = .ok (.iload_n 1, 1) := by decide +kernel
theorem dX3_play_75 : decode cX3_play 75 = .ok (.bipush 10, 2) := by decide +kernel
theorem dX3_play_77 : decode cX3_play 77 = .ok (.if_icmp .gt 39, 3) := by decide +kernel
theorem dX3_play_80 : decode cX3_play 80 = .ok (.iconst 0, 1) := by decide +kernel
theorem dX3_play_81 : decode cX3_play 81 = .ok (.istore_n 2, 1) := by decide +kernel
theorem dX3_play_82 : decode cX3_play 82 = .ok (.iload_n 2, 1) := by decide +kernel
theorem dX3_play_83 : decode cX3_play 83 = .ok (.aload_n 0, 1) := by decide +kernel
theorem dX3_play_84 : decode cX3_play 84 = .ok (.getfield 34, 3) := by decide +kernel
theorem dX3_play_87 : decode cX3_play 87 = .ok (.getfield 60, 3) := by decide +kernel
theorem dX3_play_90 : decode cX3_play 90 = .ok (.if_icmp .ge 20, 3) := by decide +kernel
theorem dX3_play_93 : decode cX3_play 93 = .ok (.iload_n 2, 1) := by decide +kernel
theorem dX3_play_94 : decode cX3_play 94 = .ok (.iconst 5, 1) := by decide +kernel
theorem dX3_play_95 : decode cX3_play 95 = .ok (.if_icmp .ge 15, 3) := by decide +kernel
theorem dX3_play_98 : decode cX3_play 98 = .ok (.aload_n 0, 1) := by decide +kernel
theorem dX3_play_99 : decode cX3_play 99 = .ok (.iload_n 2, 1) := by decide +kernel
theorem dX3_play_100 : decode cX3_play 100 = .ok (.iload_n 1, 1) := by decide +kernel
theorem dX3_play_101 : decode cX3_play 101 = .ok (.invokevirtual 63, 3) := by decide +kernel
theorem dX3_play_104 : decode cX3_play 104 = .ok (.iinc 2 1, 3) := by decide +kernel
theorem dX3_play_107 : decode cX3_play 107 = .ok (.goto (-25), 3) := by decide +kernel
theorem dX3_play_110 : decode cX3_play 110 = .ok (.iinc 1 1, 3) := by decide +kernel
theorem dX3_play_113 : decode cX3_play 113 = .ok (.goto (-39), 3) := by decide +kernel
theorem dX3_play_116 : decode cX3_play 116 = .ok (.aload_n 0, 1) := by decide +kernel
theorem dX3_play_117 : decode cX3_play 117 = .ok (.getfield 47, 3) := by decide +kernel
theorem dX3_play_120 : decode cX3_play 120 = .ok (.ireturn, 1) := by decide +kernel
theorem dX3_move_0 : decode cX3_move 0 = .ok (.aload_n 0, 1) := by decide +kernel
theorem dX3_move_1 : decode cX3_move 1 = .ok (.getfield 21, 3) := by decide +kernel
theorem dX3_move_4 : decode cX3_move 4 = .ok (.iload_n 1, 1) := by decide +kernel
theorem dX3_move_5 : decode cX3_move 5 = .ok (.iaload, 1) := by decide +kernel
theorem dX3_move_6 : decode cX3_move 6 = .ok (.ifCond .ne 12, 3) := by decide +kernel
theorem dX3_move_9 : decode cX3_move 9 = .ok (.aload_n 0, 1) := by decide +kernel
theorem dX3_move_10 : decode cX3_move 10 = .ok (.iload_n 1, 1) := by decide +kernel
theorem dX3_move_11 : decode cX3_move 11 = .ok (.iload_n 2, 1) := by decide +kernel
theorem dX3_move_12 : decode cX3_move 12 = .ok (.invokevirtual 67, 3) := by decide +kernel
theorem dX3_move_15 : decode cX3_move 15 = .ok (.goto 62, 3) := by decide +kernel
theorem dX3_move_18 : decode cX3_move 18 = .ok (.aload_n 0, 1) := by decide +kernel
theorem dX3_move_19 : decode cX3_move 19 = .ok (.getfield 21, 3) := by decide +kernel
theorem dX3_move_22 : decode cX3_move 22 = .ok (.iload_n 1, 1) := by decide +kernel
theorem dX3_move_23 : decode cX3_move 23 = .ok (.iaload, 1) := by decide +kernel
theorem dX3_move_24 : decode cX3_move 24 = .ok (.iconst 1, 1) := by decide +kernel
theorem dX3_move_25 : decode cX3_move 25 = .ok (.if_icmp .ne 12, 3) := by decide +kernel
theorem dX3_move_28 : decode cX3_move 28 = .ok (.aload_n 0, 1) := by decide +kernel
theorem dX3_move_29 : decode cX3_move 29 = .ok (.iload_n 1, 1) := by decide +kernel
theorem dX3_move_30 : decode cX3_move 30 = .ok (.iload_n 2, 1) := by decide +kernel
theorem dX3_move_31 : decode cX3_move 31 = .ok (.invokevirtual 70, 3) := by decide +kernel
theorem dX3_move_34 : decode cX3_move 34 = .ok (.goto 43, 3) := by decide +kernel
theorem dX3_move_37 : decode cX3_move 37 = .ok (.aload_n 0, 1) := by decide +kernel
theorem dX3_move_38 : decode cX3_move 38 = .ok (.getfield 21, 3) := by decide +kernel
theorem dX3_move_41 : decode cX3_move 41 = .ok (.iload_n 1, 1) := by decide +kernel
theorem dX3_move_42 : decode cX3_move 42 = .ok (.iaload, 1) := by decide +kernel
theorem dX3_move_43 : decode cX3_move 43 = .ok (.iconst 2, 1) := by decide +kernel
theorem dX3_move_44 : decode cX3_move 44 = .ok (.if_icmp .ne 33, 3) := by decide +kernel
theorem dX3_move_47 : decode cX3_move 47 = .ok (.aload_n 0, 1) := by decide +kernel
theorem dX3_move_48 : decode cX3_move 48 = .ok (.getfield 24, 3) := by decide +kernel
theorem dX3_move_51 : decode cX3_move 51 = .ok (.iload_n 1, 1) := by decide +kernel
theorem dX3_move_52 : decode cX3_move 52 = .ok (.dup2, 1) := by decide +kernel
theorem dX3_move_53 : decode cX3_move 53 = .ok (.iaload, 1) := by decide +kernel
theorem dX3_move_54 : decode cX3_move 54 = .ok (.iconst 1, 1) := by decide +kernel
theorem dX3_move_55 : decode cX3_move 55 = .ok (.isub, 1) := by decide +kernel
theorem dX3_move_56 : decode cX3_move 56 = .ok (.iastore, 1) := by decide +kernel
theorem dX3_move_57 : decode cX3_move 57 = .ok (.aload_n 0, 1) := by decide +kernel
theorem dX3_move_58 : decode cX3_move 58 = .ok (.getfield 21, 3) := by decide +kernel
theorem dX3_move_61 : decode cX3_move 61 = .ok (.iload_n 1, 1) := by decide +kernel
theorem dX3_move_62 : decode cX3_move 62 = .ok (.aload_n 0, 1) := by decide +kernel
theorem dX3_move_63 : decode cX3_move 63 = .ok (.getfield 24, 3) := by decide +kernel
theorem dX3_move_66 : decode cX3_move 66 = .ok (.iload_n 1, 1) := by decide +kernel
theorem dX3_move_67 : decode cX3_move 67 = .ok (.iaload, 1) := by decide +kernel
theorem dX3_move_68 : decode cX3_move 68 = .ok (.ifCond .ne 7, 3) := by decide +kernel
theorem dX3_move_71 : decode cX3_move 71 = .ok (.iconst 0, 1) := by decide +kernel
theorem dX3_move_72 : decode cX3_move 72 = .ok (.goto 4, 3) := by decide +kernel
theorem dX3_move_75 : decode cX3_move 75 = .ok (.iconst 2, 1) := by decide +kernel
theorem dX3_move_76 : decode cX3_move 76 = .ok (.iastore, 1) := by decide +kernel
theorem dX3_move_77 : decode cX3_move 77 = .ok (.return_, 1) := by decide +kernel
theorem dX3_thinkOrFollow_0 : decode cX3_thinkOrFollow 0 = .ok (.aload_n 0, 1) := by decide +kernel
theorem dX3_thinkOrFollow_1 : decode cX3_thinkOrFollow 1 = .ok (.getfield 34, 3) := by decide +kernel
theorem dX3_thinkOrFollow_4 : decode cX3_thinkOrFollow 4 = .ok (.iload_n 1, 1) := by decide +kernel
theorem dX3_thinkOrFollow_5 : decode cX3_thinkOrFollow 5 = .ok (.invokevirtual 73, 3) := by decide +kernel
theorem dX3_thinkOrFollow_8 : decode cX3_thinkOrFollow 8 = .ok (.ifCond .eq 27, 3) := by decide +kernel
theorem dX3_thinkOrFollow_11 : decode cX3_thinkOrFollow 11 = .ok (.aload_n 0, 1) := by decide +kernel
theorem dX3_thinkOrFollow_12 : decode cX3_thinkOrFollow 12 = .ok (.iload_n 1, 1) := by decide +kernel
theorem dX3_thinkOrFollow_13 : decode cX3_thinkOrFollow 13 = .ok (.iload_n 2, 1) := by decide +kernel
theorem dX3_thinkOrFollow_14 : decode cX3_thinkOrFollow 14 = .ok (.iconst 1, 1) := by decide +kernel
theorem dX3_thinkOrFollow_15 : decode cX3_thinkOrFollow 15 = .ok (.isub, 1) := by decide +kernel
theorem dX3_thinkOrFollow_16 : decode cX3_thinkOrFollow 16 = .ok (.invokevirtual 77, 3) := by decide +kernel
theorem dX3_thinkOrFollow_19 : decode cX3_thinkOrFollow 19 = .ok (.ifCond .eq 16, 3) := by decide +kernel
theorem dX3_thinkOrFollow_22 : decode cX3_thinkOrFollow 22 = .ok (.aload_n 0, 1) := by decide +kernel
theorem dX3_thinkOrFollow_23 : decode cX3_thinkOrFollow 23 = .ok (.iload_n 1, 1) := by decide +kernel
theorem dX3_thinkOrFollow_24 : decode cX3_thinkOrFollow 24 = .ok (.iload_n 2, 1) := by decide +kernel
theorem dX3_thinkOrFollow_25 : decode cX3_thinkOrFollow 25 = .ok (.invokevirtual 81, 3) := by decide +kernel
theorem dX3_thinkOrFollow_28 : decode cX3_thinkOrFollow 28 = .ok (.aload_n 0, 1) := by decide +kernel
theorem dX3_thinkOrFollow_29 : decode cX3_thinkOrFollow 29 = .ok (.iload_n 1, 1) := by decide +kernel
theorem dX3_thinkOrFollow_30 : decode cX3_thinkOrFollow 30 = .ok (.iload_n 2, 1) := by decide +kernel
theorem dX3_thinkOrFollow_31 : decode cX3_thinkOrFollow 31 = .ok (.invokevirtual 70, 3) := by decide +kernel
theorem dX3_thinkOrFollow_34 : decode cX3_thinkOrFollow 34 = .ok (.return_, 1) := by decide +kernel
theorem dX3_thinkOrFollow_35 : decode cX3_thinkOrFollow 35 = .ok (.aload_n 0, 1) := by decide +kernel
theorem dX3_thinkOrFollow_36 : decode cX3_thinkOrFollow 36 = .ok (.getfield 11, 3) := by decide +kernel
theorem dX3_thinkOrFollow_39 : decode cX3_thinkOrFollow 39 = .ok (.iload_n 1, 1) := by decide +kernel
theorem dX3_thinkOrFollow_40 : decode cX3_thinkOrFollow 40 = .ok (.aaload, 1) := by decide +kernel
theorem dX3_thinkOrFollow_41 : decode cX3_thinkOrFollow 41 = .ok (.astore_n 3, 1) := by decide +kernel
theorem dX3_thinkOrFollow_42 : decode cX3_thinkOrFollow 42 = .ok (.aload_n 3, 1) := by decide +kernel
theorem dX3_thinkOrFollow_43 : decode cX3_thinkOrFollow 43 = .ok (.ifnonnull 4, 3) := by decide +kernel
theorem dX3_thinkOrFollow_46 : decode cX3_thinkOrFollow 46 = .ok (.return_, 1) := by decide +kernel
theorem dX3_thinkOrFollow_47 : decode cX3_thinkOrFollow 47 = .ok (.aload_n 3, 1) := by decide +kernel
theorem dX3_thinkOrFollow_48 : decode cX3_thinkOrFollow 48 = .ok (.aload_n 0, 1) := by decide +kernel
theorem dX3_thinkOrFollow_49 : decode cX3_thinkOrFollow 49 = .ok (.getfield 17, 3) := by decide +kernel
theorem dX3_thinkOrFollow_52 : decode cX3_thinkOrFollow 52 = .ok (.iload_n 1, 1) := by decide +kernel
theorem dX3_thinkOrFollow_53 : decode cX3_thinkOrFollow 53 = .ok (.iaload, 1) := by decide +kernel
theorem dX3_thinkOrFollow_54 : decode cX3_thinkOrFollow 54 = .ok (.aload_n 0, 1) := by decide +kernel
theorem dX3_thinkOrFollow_55 : decode cX3_thinkOrFollow 55 = .ok (.getfield 24, 3) := by decide +kernel
theorem dX3_thinkOrFollow_58 : decode cX3_thinkOrFollow 58 = .ok (.iload_n 1, 1) := by decide +kernel
theorem dX3_thinkOrFollow_59 : decode cX3_thinkOrFollow 59 = .ok (.iaload, 1) := by decide +kernel
theorem dX3_thinkOrFollow_60 : decode cX3_thinkOrFollow 60 = .ok (.invokevirtual 84, 3) := by decide +kernel
theorem dX3_thinkOrFollow_63 : decode cX3_thinkOrFollow 63 = .ok (.istore 4, 2) := by decide +kernel
theorem dX3_thinkOrFollow_65 : decode cX3_thinkOrFollow 65 = .ok (.aload_n 3, 1) := by decide +kernel
theorem dX3_thinkOrFollow_66 : decode cX3_thinkOrFollow 66 = .ok (.aload_n 0, 1) := by decide +kernel
theorem dX3_thinkOrFollow_67 : decode cX3_thinkOrFollow 67 = .ok (.getfield 17, 3) := by decide +kernel
theorem dX3_thinkOrFollow_70 : decode cX3_thinkOrFollow 70 = .ok (.iload_n 1, 1) := by decide +kernel
theorem dX3_thinkOrFollow_71 : decode cX3_thinkOrFollow 71 = .ok (.iaload, 1) := by decide +kernel
theorem dX3_thinkOrFollow_72 : decode cX3_thinkOrFollow 72 = .ok (.aload_n 0, 1) := by decide +kernel
theorem dX3_thinkOrFollow_73 : decode cX3_thinkOrFollow 73 = .ok (.getfield 24, 3) := by decide +kernel
theorem dX3_thinkOrFollow_76 : decode cX3_thinkOrFollow 76 = .ok (.iload_n 1, 1) := by decide +kernel
theorem dX3_thinkOrFollow_77 : decode cX3_thinkOrFollow 77 = .ok (.iaload, 1) := by decide +kernel
theorem dX3_thinkOrFollow_78 : decode cX3_thinkOrFollow 78 = .ok (.invokevirtual 88, 3) := by decide +kernel
theorem dX3_thinkOrFollow_81 : decode cX3_thinkOrFollow 81 = .ok (.istore 5, 2) := by decide +kernel
theorem dX3_thinkOrFollow_83 : decode cX3_thinkOrFollow 83 = .ok (.aload_n 0, 1) := by decide +kernel
theorem dX3_thinkOrFollow_84 : decode cX3_thinkOrFollow 84 = .ok (.sipush 25173, 3) := by decide +kernel
theorem dX3_thinkOrFollow_87 : decode cX3_thinkOrFollow 87 = .ok (.aload_n 0, 1) := by decide +kernel
theorem dX3_thinkOrFollow_88 : decode cX3_thinkOrFollow 88 = .ok (.getfield 30, 3) := by decide +kernel
theorem dX3_thinkOrFollow_91 : decode cX3_thinkOrFollow 91 = .ok (.imul, 1) := by decide +kernel
theorem dX3_thinkOrFollow_92 : decode cX3_thinkOrFollow 92 = .ok (.sipush 13849, 3) := by decide +kernel
theorem dX3_thinkOrFollow_95 : decode cX3_thinkOrFollow 95 = .ok (.iadd, 1) := by decide +kernel
theorem dX3_thinkOrFollow_96 : decode cX3_thinkOrFollow 96 = .ok (.ldc 91, 2) := by decide +kernel
theorem dX3_thinkOrFollow_98 : decode cX3_thinkOrFollow 98 = .ok (.irem, 1) := by decide +kernel
theorem dX3_thinkOrFollow_99 : decode cX3_thinkOrFollow 99 = .ok (.putfield 30, 3) := by decide +kernel
theorem dX3_thinkOrFollow_102 : decode cX3_thinkOrFollow 102 = .ok (.aload_n 0, 1) := by decide +kernel
theorem dX3_thinkOrFollow_103 : decode cX3_thinkOrFollow 103 = .ok (.getfield 30, 3) := by decide +kernel
theorem dX3_thinkOrFollow_106 : decode cX3_thinkOrFollow 106 = .ok (.bipush 8, 2) := by decide +kernel
theorem dX3_thinkOrFollow_108 : decode cX3_thinkOrFollow 108 = .ok (.irem, 1) := by decide +kernel
theorem dX3_thinkOrFollow_109 : decode cX3_thinkOrFollow 109 = .ok (.istore 6, 2) := by decide +kernel
theorem dX3_thinkOrFollow_111 : decode cX3_thinkOrFollow 111 = .ok (.iload 6, 2) := by decide +kernel
theorem dX3_thinkOrFollow_113 : decode cX3_thinkOrFollow 113 = .ok (.iload 4, 2) := by decide +kernel
theorem dX3_thinkOrFollow_115 : decode cX3_thinkOrFollow 115 = .ok (.if_icmp .ge 12, 3) := by decide +kernel
theorem dX3_thinkOrFollow_118 : decode cX3_thinkOrFollow 118 = .ok (.aload_n 0, 1) := by decide +kernel
theorem dX3_thinkOrFollow_119 : decode cX3_thinkOrFollow 119 = .ok (.iload_n 1, 1) := by decide +kernel
theorem dX3_thinkOrFollow_120 : decode cX3_thinkOrFollow 120 = .ok (.iload_n 2, 1) := by decide +kernel
theorem dX3_thinkOrFollow_121 : decode cX3_thinkOrFollow 121 = .ok (.invokevirtual 81, 3) := by decide +kernel
theorem dX3_thinkOrFollow_124 : decode cX3_thinkOrFollow 124 = .ok (.goto 54, 3) := by decide +kernel
theorem dX3_thinkOrFollow_127 : decode cX3_thinkOrFollow 127 = .ok (.iload 6, 2) := by decide +kernel
theorem dX3_thinkOrFollow_129 : decode cX3_thinkOrFollow 129 = .ok (.iload 4, 2) := by decide +kernel
theorem dX3_thinkOrFollow_131 : decode cX3_thinkOrFollow 131 = .ok (.iload 5, 2) := by decide +kernel
theorem dX3_thinkOrFollow_133 : decode cX3_thinkOrFollow 133 = .ok (.iadd, 1) := by decide +kernel
theorem dX3_thinkOrFollow_134 : decode cX3_thinkOrFollow 134 = .ok (.if_icmp .ge 26, 3) := by decide +kernel
theorem dX3_thinkOrFollow_137 : decode cX3_thinkOrFollow 137 = .ok (.aload_n 0, 1) := by decide +kernel
theorem dX3_thinkOrFollow_138 : decode cX3_thinkOrFollow 138 = .ok (.getfield 21, 3) := by decide +kernel
theorem dX3_thinkOrFollow_141 : decode cX3_thinkOrFollow 141 = .ok (.iload_n 1, 1) := by decide +kernel
theorem dX3_thinkOrFollow_142 : decode cX3_thinkOrFollow 142 = .ok (.iconst 2, 1) := by decide +kernel
theorem dX3_thinkOrFollow_143 : decode cX3_thinkOrFollow 143 = .ok (.iastore, 1) := by decide +kernel
theorem dX3_thinkOrFollow_144 : decode cX3_thinkOrFollow 144 = .ok (.aload_n 0, 1) := by decide +kernel
theorem dX3_thinkOrFollow_145 : decode cX3_thinkOrFollow 145 = .ok (.getfield 24, 3) := by decide +kernel
theorem dX3_thinkOrFollow_148 : decode cX3_thinkOrFollow 148 = .ok (.iload_n 1, 1) := by decide +kernel
theorem dX3_thinkOrFollow_149 : decode cX3_thinkOrFollow 149 = .ok (.aload_n 0, 1) := by decide +kernel
theorem dX3_thinkOrFollow_150 : decode cX3_thinkOrFollow 150 = .ok (.getfield 34, 3) := by decide +kernel
theorem dX3_thinkOrFollow_153 : decode cX3_thinkOrFollow 153 = .ok (.getfield 92, 3) := by decide +kernel
theorem dX3_thinkOrFollow_156 : decode cX3_thinkOrFollow 156 = .ok (.iastore, 1) := by decide +kernel
theorem dX3_thinkOrFollow_157 : decode cX3_thinkOrFollow 157 = .ok (.goto 21, 3) := by decide +kernel
theorem dX3_thinkOrFollow_160 : decode cX3_thinkOrFollow 160 = .ok (.aload_n 0, 1) := by decide +kernel
theorem dX3_thinkOrFollow_161 : decode cX3_thinkOrFollow 161 = .ok (.getfield 24, 3) := by decide +kernel
theorem dX3_thinkOrFollow_164 : decode cX3_thinkOrFollow 164 = .ok (.iload_n 1, 1) := by decide +kernel
theorem dX3_thinkOrFollow_165 : decode cX3_thinkOrFollow 165 = .ok (.iconst 5, 1) := by decide +kernel
theorem dX3_thinkOrFollow_166 : decode cX3_thinkOrFollow 166 = .ok (.aload_n 0, 1) := by decide +kernel
theorem dX3_thinkOrFollow_167 : decode cX3_thinkOrFollow 167 = .ok (.getfield 24, 3) := by decide +kernel
theorem dX3_thinkOrFollow_170 : decode cX3_thinkOrFollow 170 = .ok (.iload_n 1, 1) := by decide +kernel
theorem dX3_thinkOrFollow_171 : decode cX3_thinkOrFollow 171 = .ok (.iaload, 1) := by decide +kernel
theorem dX3_thinkOrFollow_172 : decode cX3_thinkOrFollow 172 = .ok (.iconst 1, 1) := by decide +kernel
theorem dX3_thinkOrFollow_173 : decode cX3_thinkOrFollow 173 = .ok (.iadd, 1) := by decide +kernel
theorem dX3_thinkOrFollow_174 : decode cX3_thinkOrFollow 174 = .ok (.invokestatic 95, 3) := by decide +kernel
theorem dX3_thinkOrFollow_177 : decode cX3_thinkOrFollow 177 = .ok (.iastore, 1) := by decide +kernel
theorem dX3_thinkOrFollow_178 : decode cX3_thinkOrFollow 178 = .ok (.return_, 1) := by decide +kernel
theorem dX3_begin_0 : decode cX3_begin 0 = .ok (.aload_n 0, 1) := by decide +kernel
theorem dX3_begin_1 : decode cX3_begin 1 = .ok (.getfield 38, 3) := by decide +kernel
theorem dX3_begin_4 : decode cX3_begin 4 = .ok (.iload_n 1, 1) := by decide +kernel
theorem dX3_begin_5 : decode cX3_begin 5 = .ok (.aload_n 0, 1) := by decide +kernel
theorem dX3_begin_6 : decode cX3_begin 6 = .ok (.getfield 17, 3) := by decide +kernel
theorem dX3_begin_9 : decode cX3_begin 9 = .ok (.iload_n 1, 1) := by decide +kernel
theorem dX3_begin_10 : decode cX3_begin 10 = .ok (.iaload, 1) := by decide +kernel
theorem dX3_begin_11 : decode cX3_begin 11 = .ok (.iload_n 2, 1) := by decide +kernel
theorem dX3_begin_12 : decode cX3_begin 12 = .ok (.invokevirtual 100, 3) := by decide +kernel
theorem dX3_begin_15 : decode cX3_begin 15 = .ok (.aload_n 0, 1) := by decide +kernel
theorem dX3_begin_16 : decode cX3_begin 16 = .ok (.getfield 21, 3) := by decide +kernel
theorem dX3_begin_19 : decode cX3_begin 19 = .ok (.iload_n 1, 1) := by decide +kernel
theorem dX3_begin_20 : decode cX3_begin 20 = .ok (.iconst 1, 1) := by decide +kernel
theorem dX3_begin_21 : decode cX3_begin 21 = .ok (.iastore, 1) := by decide +kernel
theorem dX3_begin_22 : decode cX3_begin 22 = .ok (.aload_n 0, 1) := by decide +kernel
theorem dX3_begin_23 : decode cX3_begin 23 = .ok (.getfield 24, 3) := by decide +kernel
theorem dX3_begin_26 : decode cX3_begin 26 = .ok (.iload_n 1, 1) := by decide +kernel
theorem dX3_begin_27 : decode cX3_begin 27 = .ok (.aload_n 0, 1) := by decide +kernel
theorem dX3_begin_28 : decode cX3_begin 28 = .ok (.getfield 34, 3) := by decide +kernel
theorem dX3_begin_31 : decode cX3_begin 31 = .ok (.iload_n 1, 1) := by decide +kernel
theorem dX3_begin_32 : decode cX3_begin 32 = .ok (.aload_n 0, 1) := by decide +kernel
theorem dX3_begin_33 : decode cX3_begin 33 = .ok (.getfield 17, 3) := by decide +kernel
theorem dX3_begin_36 : decode cX3_begin 36 = .ok (.iload_n 1, 1) := by decide +kernel
theorem dX3_begin_37 : decode cX3_begin 37 = .ok (.iaload, 1) := by decide +kernel
theorem dX3_begin_38 : decode cX3_begin 38 = .ok (.invokevirtual 104, 3) := by decide +kernel
theorem dX3_begin_41 : decode cX3_begin 41 = .ok (.iastore, 1) := by decide +kernel
theorem dX3_begin_42 : decode cX3_begin 42 = .ok (.return_, 1) := by decide +kernel
theorem dX3_step_0 : decode cX3_step 0 = .ok (.aload_n 0, 1) := by decide +kernel
theorem dX3_step_1 : decode cX3_step 1 = .ok (.getfield 24, 3) := by decide +kernel
theorem dX3_step_4 : decode cX3_step 4 = .ok (.iload_n 1, 1) := by decide +kernel
theorem dX3_step_5 : decode cX3_step 5 = .ok (.dup2, 1) := by decide +kernel
theorem dX3_step_6 : decode cX3_step 6 = .ok (.iaload, 1) := by decide +kernel
theorem dX3_step_7 : decode cX3_step 7 = .ok (.iconst 1, 1) := by decide +kernel
theorem dX3_step_8 : decode cX3_step 8 = .ok (.isub, 1) := by decide +kernel
theorem dX3_step_9 : decode cX3_step 9 = .ok (.iastore, 1) := by decide +kernel
theorem dX3_step_10 : decode cX3_step 10 = .ok (.aload_n 0, 1) := by decide +kernel
theorem dX3_step_11 : decode cX3_step 11 = .ok (.getfield 24, 3) := by decide +kernel
theorem dX3_step_14 : decode cX3_step 14 = .ok (.iload_n 1, 1) := by decide +kernel
theorem dX3_step_15 : decode cX3_step 15 = .ok (.iaload, 1) := by decide +kernel
theorem dX3_step_16 : decode cX3_step 16 = .ok (.ifCond .le 4, 3) := by decide +kernel
theorem dX3_step_19 : decode cX3_step 19 = .ok (.return_, 1) := by decide +kernel
theorem dX3_step_20 : decode cX3_step 20 = .ok (.aload_n 0, 1) := by decide +kernel
theorem dX3_step_21 : decode cX3_step 21 = .ok (.getfield 17, 3) := by decide +kernel
theorem dX3_step_24 : decode cX3_step 24 = .ok (.iload_n 1, 1) := by decide +kernel
theorem dX3_step_25 : decode cX3_step 25 = .ok (.dup2, 1) := by decide +kernel
theorem dX3_step_26 : decode cX3_step 26 = .ok (.iaload, 1) := by decide +kernel
theorem dX3_step_27 : decode cX3_step 27 = .ok (.iconst 1, 1) := by decide +kernel
theorem dX3_step_28 : decode cX3_step 28 = .ok (.iadd, 1) := by decide +kernel
theorem dX3_step_29 : decode cX3_step 29 = .ok (.iastore, 1) := by decide +kernel
theorem dX3_step_30 : decode cX3_step 30 = .ok (.aload_n 0, 1) := by decide +kernel
theorem dX3_step_31 : decode cX3_step 31 = .ok (.getfield 24, 3) := by decide +kernel
theorem dX3_step_34 : decode cX3_step 34 = .ok (.iload_n 1, 1) := by decide +kernel
theorem dX3_step_35 : decode cX3_step 35 = .ok (.iconst 0, 1) := by decide +kernel
theorem dX3_step_36 : decode cX3_step 36 = .ok (.iastore, 1) := by decide +kernel
theorem dX3_step_37 : decode cX3_step 37 = .ok (.aload_n 0, 1) := by decide +kernel
theorem dX3_step_38 : decode cX3_step 38 = .ok (.getfield 21, 3) := by decide +kernel
theorem dX3_step_41 : decode cX3_step 41 = .ok (.iload_n 1, 1) := by decide +kernel
theorem dX3_step_42 : decode cX3_step 42 = .ok (.iconst 0, 1) := by decide +kernel
theorem dX3_step_43 : decode cX3_step 43 = .ok (.iastore, 1) := by decide +kernel
theorem dX3_step_44 : decode cX3_step 44 = .ok (.aload_n 0, 1) := by decide +kernel
theorem dX3_step_45 : decode cX3_step 45 = .ok (.getfield 17, 3) := by decide +kernel
theorem dX3_step_48 : decode cX3_step 48 = .ok (.iload_n 1, 1) := by decide +kernel
theorem dX3_step_49 : decode cX3_step 49 = .ok (.iaload, 1) := by decide +kernel
theorem dX3_step_50 : decode cX3_step 50 = .ok (.aload_n 0, 1) := by decide +kernel
theorem dX3_step_51 : decode cX3_step 51 = .ok (.getfield 34, 3) := by decide +kernel
theorem dX3_step_54 : decode cX3_step 54 = .ok (.getfield 107, 3) := by decide +kernel
theorem dX3_step_57 : decode cX3_step 57 = .ok (.if_icmp .lt 27, 3) := by decide +kernel
theorem dX3_step_60 : decode cX3_step 60 = .ok (.aload_n 0, 1) := by decide +kernel
theorem dX3_step_61 : decode cX3_step 61 = .ok (.getfield 21, 3) := by decide +kernel
theorem dX3_step_64 : decode cX3_step 64 = .ok (.iload_n 1, 1) := by decide +kernel
theorem dX3_step_65 : decode cX3_step 65 = .ok (.iconst 3, 1) := by decide +kernel
theorem dX3_step_66 : decode cX3_step 66 = .ok (.iastore, 1) := by decide +kernel
theorem dX3_step_67 : decode cX3_step 67 = .ok (.aload_n 0, 1) := by decide +kernel
theorem dX3_step_68 : decode cX3_step 68 = .ok (.getfield 27, 3) := by decide +kernel
theorem dX3_step_71 : decode cX3_step 71 = .ok (.iload_n 1, 1) := by decide +kernel
theorem dX3_step_72 : decode cX3_step 72 = .ok (.iload_n 2, 1) := by decide +kernel
theorem dX3_step_73 : decode cX3_step 73 = .ok (.iastore, 1) := by decide +kernel
theorem dX3_step_74 : decode cX3_step 74 = .ok (.aload_n 0, 1) := by decide +kernel
theorem dX3_step_75 : decode cX3_step 75 = .ok (.dup, 1) := by decide +kernel
theorem dX3_step_76 : decode cX3_step 76 = .ok (.getfield 47, 3) := by decide +kernel
theorem dX3_step_79 : decode cX3_step 79 = .ok (.iconst 1, 1) := by decide +kernel
theorem dX3_step_80 : decode cX3_step 80 = .ok (.iadd, 1) := by decide +kernel
theorem dX3_step_81 : decode cX3_step 81 = .ok (.putfield 47, 3) := by decide +kernel
theorem dX3_step_84 : decode cX3_step 84 = .ok (.return_, 1) := by decide +kernel
theorem dX3_anotherWent_0 : decode cX3_anotherWent 0 = .ok (.iconst 0, 1) := by decide +kernel
theorem dX3_anotherWent_1 : decode cX3_anotherWent 1 = .ok (.istore_n 3, 1) := by decide +kernel
theorem dX3_anotherWent_2 : decode cX3_anotherWent 2 = .ok (.iload_n 3, 1) := by decide +kernel
theorem dX3_anotherWent_3 : decode cX3_anotherWent 3 = .ok (.aload_n 0, 1) := by decide +kernel
theorem dX3_anotherWent_4 : decode cX3_anotherWent 4 = .ok (.getfield 38, 3) := by decide +kernel
theorem dX3_anotherWent_7 : decode cX3_anotherWent 7 = .ok (.getfield 110, 3) := by decide +kernel
theorem dX3_anotherWent_10 : decode cX3_anotherWent 10 = .ok (.if_icmp .ge 67, 3) := by decide +kernel
theorem dX3_anotherWent_13 : decode cX3_anotherWent 13 = .ok (.aload_n 0, 1) := by decide +kernel
theorem dX3_anotherWent_14 : decode cX3_anotherWent 14 = .ok (.getfield 38, 3) := by decide +kernel
theorem dX3_anotherWent_17 : decode cX3_anotherWent 17 = .ok (.iload_n 3, 1) := by decide +kernel
theorem dX3_anotherWent_18 : decode cX3_anotherWent 18 = .ok (.iconst 0, 1) := by decide +kernel
theorem dX3_anotherWent_19 : decode cX3_anotherWent 19 = .ok (.invokevirtual 113, 3) := by decide +kernel
theorem dX3_anotherWent_22 : decode cX3_anotherWent 22 = .ok (.iload_n 1, 1) := by decide +kernel
theorem dX3_anotherWent_23 : decode cX3_anotherWent 23 = .ok (.if_icmp .eq 25, 3) := by decide +kernel
theorem dX3_anotherWent_26 : decode cX3_anotherWent 26 = .ok (.aload_n 0, 1) := by decide +kernel
theorem dX3_anotherWent_27 : decode cX3_anotherWent 27 = .ok (.getfield 38, 3) := by decide +kernel
theorem dX3_anotherWent_30 : decode cX3_anotherWent 30 = .ok (.iload_n 3, 1) := by decide +kernel
theorem dX3_anotherWent_31 : decode cX3_anotherWent 31 = .ok (.iconst 1, 1) := by decide +kernel
theorem dX3_anotherWent_32 : decode cX3_anotherWent 32 = .ok (.invokevirtual 113, 3) := by decide +kernel
theorem dX3_anotherWent_35 : decode cX3_anotherWent 35 = .ok (.aload_n 0, 1) := by decide +kernel
theorem dX3_anotherWent_36 : decode cX3_anotherWent 36 = .ok (.getfield 17, 3) := by decide +kernel
theorem dX3_anotherWent_39 : decode cX3_anotherWent 39 = .ok (.iload_n 1, 1) := by decide +kernel
theorem dX3_anotherWent_40 : decode cX3_anotherWent 40 = .ok (.iaload, 1) := by decide +kernel
theorem dX3_anotherWent_41 : decode cX3_anotherWent 41 = .ok (.if_icmp .ne 7, 3) := by decide +kernel
theorem dX3_anotherWent_44 : decode cX3_anotherWent 44 = .ok (.iconst 1, 1) := by decide +kernel
theorem dX3_anotherWent_45 : decode cX3_anotherWent 45 = .ok (.goto 4, 3) := by decide +kernel
theorem dX3_anotherWent_48 : decode cX3_anotherWent 48 = .ok (.iconst 0, 1) := by decide +kernel
theorem dX3_anotherWent_49 : decode cX3_anotherWent 49 = .ok (.istore 4, 2) := by decide +kernel
theorem dX3_anotherWent_51 : decode cX3_anotherWent 51 = .ok (.iload 4, 2) := by decide +kernel
theorem dX3_anotherWent_53 : decode cX3_anotherWent 53 = .ok (.ifCond .eq 18, 3) := by decide +kernel
theorem dX3_anotherWent_56 : decode cX3_anotherWent 56 = .ok (.aload_n 0, 1) := by decide +kernel
theorem dX3_anotherWent_57 : decode cX3_anotherWent 57 = .ok (.getfield 38, 3) := by decide +kernel
theorem dX3_anotherWent_60 : decode cX3_anotherWent 60 = .ok (.iload_n 3, 1) := by decide +kernel
theorem dX3_anotherWent_61 : decode cX3_anotherWent 61 = .ok (.iconst 2, 1) := by decide +kernel
theorem dX3_anotherWent_62 : decode cX3_anotherWent 62 = .ok (.invokevirtual 113, 3) := by decide +kernel
theorem dX3_anotherWent_65 : decode cX3_anotherWent 65 = .ok (.iload_n 2, 1) := by decide +kernel
theorem dX3_anotherWent_66 : decode cX3_anotherWent 66 = .ok (.if_icmp .ne 5, 3) := by decide +kernel
theorem dX3_anotherWent_69 : decode cX3_anotherWent 69 = .ok (.iconst 1, 1) := by decide +kernel
theorem dX3_anotherWent_70 : decode cX3_anotherWent 70 = .ok (.ireturn, 1) := by decide +kernel
theorem dX3_anotherWent_71 : decode cX3_anotherWent 71 = .ok (.iinc 3 1, 3) := by decide +kernel
theorem dX3_anotherWent_74 : decode cX3_anotherWent 74 = .ok (.goto (-72), 3) := by decide +kernel
theorem dX3_anotherWent_77 : decode cX3_anotherWent 77 = .ok (.iconst 0, 1) := by decide +kernel
theorem dX3_anotherWent_78 : decode cX3_anotherWent 78 = .ok (.ireturn, 1) := by decide +kernel
theorem dX4_init_0 : decode cX4_init 0 = .ok (.aload_n 0, 1) := by decide +kernel
theorem dX4_init_1 : decode cX4_init 1 = .ok (.invokespecial 3, 3) := by decide +kernel
theorem dX4_init_4 : decode cX4_init 4 = .ok (.aload_n 0, 1) := by decide +kernel
theorem dX4_init_5 : decode cX4_init 5 = .ok (.getstatic 9, 3) := by decide +kernel
theorem dX4_init_8 : decode cX4_init 8 = .ok (.arraylength, 1) := by decide +kernel
theorem dX4_init_9 : decode cX4_init 9 = .ok (.newarray .int, 2) := by decide +kernel
theorem dX4_init_11 : decode cX4_init 11 = .ok (.putfield 15, 3) := by decide +kernel
theorem dX4_init_14 : decode cX4_init 14 = .ok (.aload_n 0, 1) := by decide +kernel
theorem dX4_init_15 : decode cX4_init 15 = .ok (.sipush 200, 3) := by decide +kernel
theorem dX4_init_18 : decode cX4_init 18 = .ok (.newarray .int, 2) := by decide +kernel
theorem dX4_init_20 : decode cX4_init 20 = .ok (.putfield 19, 3) := by decide +kernel
theorem dX4_init_23 : decode cX4_init 23 = .ok (.aload_n 0, 1) := by decide +kernel
theorem dX4_init_24 : decode cX4_init 24 = .ok (.sipush 200, 3) := by decide +kernel
theorem dX4_init_27 : decode cX4_init 27 = .ok (.newarray .int, 2) := by decide +kernel
theorem dX4_init_29 : decode cX4_init 29 = .ok (.putfield 22, 3) := by decide +kernel
theorem dX4_init_32 : decode cX4_init 32 = .ok (.aload_n 0, 1) := by decide +kernel
theorem dX4_init_33 : decode cX4_init 33 = .ok (.aload_n 0, 1) := by decide +kernel
theorem dX4_init_34 : decode cX4_init 34 = .ok (.getfield 19, 3) := by decide +kernel
theorem dX4_init_37 : decode cX4_init 37 = .ok (.putfield 25, 3) := by decide +kernel
theorem dX4_init_40 : decode cX4_init 40 = .ok (.return_, 1) := by decide +kernel
theorem dX4_replace_0 : decode cX4_replace 0 = .ok (.iconst 0, 1) := by decide +kernel
theorem dX4_replace_1 : decode cX4_replace 1 = .ok (.iload_n 2, 1) := by decide +kernel
theorem dX4_replace_2 : decode cX4_replace 2 = .ok (.aload_n 0, 1) := by decide +kernel
theorem dX4_replace_3 : decode cX4_replace 3 = .ok (.getfield 22, 3) := by decide +kernel
theorem dX4_replace_6 : decode cX4_replace 6 = .ok (.arraylength, 1) := by decide +kernel
theorem dX4_replace_7 : decode cX4_replace 7 = .ok (.invokestatic 28, 3) := by decide +kernel
theorem dX4_replace_10 : decode cX4_replace 10 = .ok (.invokestatic 34, 3) := by decide +kernel
theorem dX4_replace_13 : decode cX4_replace 13 = .ok (.istore_n 3, 1) := by decide +kernel
theorem dX4_replace_14 : decode cX4_replace 14 = .ok (.iconst 0, 1) := by decide +kernel
theorem dX4_replace_15 : decode cX4_replace 15 = .ok (.istore 4, 2) := by decide +kernel
theorem dX4_replace_17 : decode cX4_replace 17 = .ok (.iload 4, 2) := by decide +kernel
theorem dX4_replace_19 : decode cX4_replace 19 = .ok (.iload_n 3, 1) := by decide +kernel
theorem dX4_replace_20 : decode cX4_replace 20 = .ok (.if_icmp .ge 22, 3) := by decide +kernel
theorem dX4_replace_23 : decode cX4_replace 23 = .ok (.aload_n 0, 1) := by decide +kernel
theorem dX4_replace_24 : decode cX4_replace 24 = .ok (.getfield 22, 3) := by decide +kernel
theorem dX4_replace_27 : decode cX4_replace 27 = .ok (.iload 4, 2) := by decide +kernel
theorem dX4_replace_29 : decode cX4_replace 29 = .ok (.aload_n 1, 1) := by decide +kernel
theorem dX4_replace_30 : decode cX4_replace 30 = .ok (.iload 4, 2) := by decide +kernel
theorem dX4_replace_32 : decode cX4_replace 32 = .ok (.invokevirtual 37, 3) := by decide +kernel
theorem dX4_replace_35 : decode cX4_replace 35 = .ok (.iastore, 1) := by decide +kernel
theorem dX4_replace_36 : decode cX4_replace 36 = .ok (.iinc 4 1, 3) := by decide +kernel
theorem dX4_replace_39 : decode cX4_replace 39 = .ok (.goto (-22), 3) := by decide +kernel
theorem dX4_replace_42 : decode cX4_replace 42 = .ok (.aload_n 0, 1) := by decide +kernel
theorem dX4_replace_43 : decode cX4_replace 43 = .ok (.aload_n 0, 1) := by decide +kernel
theorem dX4_replace_44 : decode cX4_replace 44 = .ok (.getfield 22, 3) := by decide +kernel
theorem dX4_replace_47 : decode cX4_replace 47 = .ok (.iload_n 3, 1) := by decide +kernel
theorem dX4_replace_48 : decode cX4_replace 48 = .ok (.invokevirtual 43, 3) := by decide +kernel
theorem dX4_replace_51 : decode cX4_replace 51 = .ok (.aload_n 0, 1) := by decide +kernel
theorem dX4_replace_52 : decode cX4_replace 52 = .ok (.invokevirtual 47, 3) := by decide +kernel
theorem dX4_replace_55 : decode cX4_replace 55 = .ok (.istore 4, 2) := by decide +kernel
theorem dX4_replace_57 : decode cX4_replace 57 = .ok (.aload_n 0, 1) := by decide +kernel
theorem dX4_replace_58 : decode cX4_replace 58 = .ok (.getfield 51, 3) := by decide +kernel
theorem dX4_replace_61 : decode cX4_replace 61 = .ok (.ifCond .eq 17, 3) := by decide +kernel
theorem dX4_replace_64 : decode cX4_replace 64 = .ok (.sipush (-1000), 3) := by decide +kernel
theorem dX4_replace_67 : decode cX4_replace 67 = .ok (.aload_n 0, 1) := by decide +kernel
theorem dX4_replace_68 : decode cX4_replace 68 = .ok (.getfield 51, 3) := by decide +kernel
theorem dX4_replace_71 : decode cX4_replace 71 = .ok (.imul, 1) := by decide +kernel
theorem dX4_replace_72 : decode cX4_replace 72 = .ok (.aload_n 0, 1) := by decide +kernel
theorem dX4_replace_73 : decode cX4_replace 73 = .ok (.getfield 55, 3) := by decide +kernel
theorem dX4_replace_76 : decode cX4_replace 76 = .ok (.isub, 1) := by decide +kernel
theorem dX4_replace_77 : decode cX4_replace 77 = .ok (.ireturn, 1) := by decide +kernel
theorem dX4_replace_78 : decode cX4_replace 78 = .ok (.aload_n 0, 1) := by decide +kernel
theorem dX4_replace_79 : decode cX4_replace 79 = .ok (.getfield 19, 3) := by decide +kernel
theorem dX4_replace_82 : decode cX4_replace 82 = .ok (.astore 5, 2) := by decide +kernel
theorem dX4_replace_84 : decode cX4_replace 84 = .ok (.aload_n 0, 1) := by decide +kernel
theorem dX4_replace_85 : decode cX4_replace 85 = .ok (.aload_n 0, 1) := by decide +kernel
theorem dX4_replace_86 : decode cX4_replace 86 = .ok (.getfield 22, 3) := by decide +kernel
theorem dX4_replace_89 : decode cX4_replace 89 = .ok (.putfield 19, 3) := by decide +kernel
theorem dX4_replace_92 : decode cX4_replace 92 = .ok (.aload_n 0, 1) := by decide +kernel
theorem dX4_replace_93 : decode cX4_replace 93 = .ok (.aload 5, 2) := by decide +kernel
theorem dX4_replace_95 : decode cX4_replace 95 = .ok (.putfield 22, 3) := by decide +kernel
theorem dX4_replace_98 : decode cX4_replace 98 = .ok (.aload_n 0, 1) := by decide +kernel
theorem dX4_replace_99 : decode cX4_replace 99 = .ok (.iload_n 3, 1) := by decide +kernel
theorem dX4_replace_100 : decode cX4_replace 100 = .ok (.putfield 58, 3) := by decide +kernel
theorem dX4_replace_103 : decode cX4_replace 103 = .ok (.aload_n 0, 1) := by decide +kernel
theorem dX4_replace_104 : decode cX4_replace 104 = .ok (.iload 4, 2) := by decide +kernel
theorem dX4_replace_106 : decode cX4_replace 106 = .ok (.putfield 61, 3) := by decide +kernel
theorem dX4_replace_109 : decode cX4_replace 109 = .ok (.iload 4, 2) := by decide +kernel
theorem dX4_replace_111 : decode cX4_replace 111 = .ok (.ireturn, 1) := by decide +kernel
theorem dX4_tellBand_0 : decode cX4_tellBand 0 = .ok (.aload_n 0, 1) := by decide +kernel
theorem dX4_tellBand_1 : decode cX4_tellBand 1 = .ok (.getfield 15, 3) := by decide +kernel
theorem dX4_tellBand_4 : decode cX4_tellBand 4 = .ok (.iconst 0, 1) := by decide +kernel
theorem dX4_tellBand_5 : decode cX4_tellBand 5 = .ok (.iload_n 1, 1) := by decide +kernel
theorem dX4_tellBand_6 : decode cX4_tellBand 6 = .ok (.iastore, 1) := by decide +kernel
theorem dX4_tellBand_7 : decode cX4_tellBand 7 = .ok (.aload_n 0, 1) := by decide +kernel
theorem dX4_tellBand_8 : decode cX4_tellBand 8 = .ok (.getfield 15, 3) := by decide +kernel
theorem dX4_tellBand_11 : decode cX4_tellBand 11 = .ok (.iconst 1, 1) := by decide +kernel
theorem dX4_tellBand_12 : decode cX4_tellBand 12 = .ok (.iload_n 2, 1) := by decide +kernel
theorem dX4_tellBand_13 : decode cX4_tellBand 13 = .ok (.iastore, 1) := by decide +kernel
theorem dX4_tellBand_14 : decode cX4_tellBand 14 = .ok (.aload_n 0, 1) := by decide +kernel
theorem dX4_tellBand_15 : decode cX4_tellBand 15 = .ok (.getfield 15, 3) := by decide +kernel
theorem dX4_tellBand_18 : decode cX4_tellBand 18 = .ok (.iconst 2, 1) := by decide +kernel
theorem dX4_tellBand_19 : decode cX4_tellBand 19 = .ok (.iload_n 3, 1) := by decide +kernel
theorem dX4_tellBand_20 : decode cX4_tellBand 20 = .ok (.iastore, 1) := by decide +kernel
theorem dX4_tellBand_21 : decode cX4_tellBand 21 = .ok (.return_, 1) := by decide +kernel
theorem dX4_tellRiddle_0 : decode cX4_tellRiddle 0 = .ok (.aload_n 0, 1) := by decide +kernel
theorem dX4_tellRiddle_1 : decode cX4_tellRiddle 1 = .ok (.getfield 15, 3) := by decide +kernel
theorem dX4_tellRiddle_4 : decode cX4_tellRiddle 4 = .ok (.iconst 3, 1) := by decide +kernel
theorem dX4_tellRiddle_5 : decode cX4_tellRiddle 5 = .ok (.iload_n 1, 1) := by decide +kernel
theorem dX4_tellRiddle_6 : decode cX4_tellRiddle 6 = .ok (.iastore, 1) := by decide +kernel
theorem dX4_tellRiddle_7 : decode cX4_tellRiddle 7 = .ok (.aload_n 0, 1) := by decide +kernel
theorem dX4_tellRiddle_8 : decode cX4_tellRiddle 8 = .ok (.getfield 15, 3) := by decide +kernel
theorem dX4_tellRiddle_11 : decode cX4_tellRiddle 11 = .ok (.iconst 4, 1) := by decide +kernel
theorem dX4_tellRiddle_12 : decode cX4_tellRiddle 12 = .ok (.iload_n 2, 1) := by decide +kernel
theorem dX4_tellRiddle_13 : decode cX4_tellRiddle 13 = .ok (.iastore, 1) := by decide +kernel
theorem dX4_tellRiddle_14 : decode cX4_tellRiddle 14 = .ok (.aload_n 0, 1) := by decide +kernel
theorem dX4_tellRiddle_15 : decode cX4_tellRiddle 15 = .ok (.getfield 15, 3) := by decide +kernel
theorem dX4_tellRiddle_18 : decode cX4_tellRiddle 18 = .ok (.iconst 5, 1) := by decide +kernel
theorem dX4_tellRiddle_19 : decode cX4_tellRiddle 19 = .ok (.iload_n 3, 1) := by decide +kernel
theorem dX4_tellRiddle_20 : decode cX4_tellRiddle 20 = .ok (.iastore, 1) := by decide +kernel
theorem dX4_tellRiddle_21 : decode cX4_tellRiddle 21 = .ok (.return_, 1) := by decide +kernel
theorem dX4_tellHill_0 : decode cX4_tellHill 0 = .ok (.aload_n 0, 1) := by decide +kernel
theorem dX4_tellHill_1 : decode cX4_tellHill 1 = .ok (.getfield 15, 3) := by decide +kernel
theorem dX4_tellHill_4 : decode cX4_tellHill 4 = .ok (.bipush 6, 2) := by decide +kernel
theorem dX4_tellHill_6 : decode cX4_tellHill 6 = .ok (.iload_n 1, 1) := by decide +kernel
theorem dX4_tellHill_7 : decode cX4_tellHill 7 = .ok (.iastore, 1) := by decide +kernel
theorem dX4_tellHill_8 : decode cX4_tellHill 8 = .ok (.aload_n 0, 1) := by decide +kernel
theorem dX4_tellHill_9 : decode cX4_tellHill 9 = .ok (.getfield 15, 3) := by decide +kernel
theorem dX4_tellHill_12 : decode cX4_tellHill 12 = .ok (.bipush 7, 2) := by decide +kernel
theorem dX4_tellHill_14 : decode cX4_tellHill 14 = .ok (.iload_n 2, 1) := by decide +kernel
theorem dX4_tellHill_15 : decode cX4_tellHill 15 = .ok (.iastore, 1) := by decide +kernel
theorem dX4_tellHill_16 : decode cX4_tellHill 16 = .ok (.return_, 1) := by decide +kernel
theorem dX4_eighths_0 : decode cX4_eighths 0 = .ok (.aload_n 0, 1) := by decide +kernel
theorem dX4_eighths_1 : decode cX4_eighths 1 = .ok (.aload_n 0, 1) := by decide +kernel
theorem dX4_eighths_2 : decode cX4_eighths 2 = .ok (.getfield 19, 3) := by decide +kernel
theorem dX4_eighths_5 : decode cX4_eighths 5 = .ok (.aload_n 0, 1) := by decide +kernel
theorem dX4_eighths_6 : decode cX4_eighths 6 = .ok (.getfield 58, 3) := by decide +kernel
theorem dX4_eighths_9 : decode cX4_eighths 9 = .ok (.invokevirtual 43, 3) := by decide +kernel
theorem dX4_eighths_12 : decode cX4_eighths 12 = .ok (.iconst 0, 1) := by decide +kernel
theorem dX4_eighths_13 : decode cX4_eighths 13 = .ok (.istore_n 2, 1) := by decide +kernel
theorem dX4_eighths_14 : decode cX4_eighths 14 = .ok (.iload_n 2, 1) := by decide +kernel
theorem dX4_eighths_15 : decode cX4_eighths 15 = .ok (.aload_n 0, 1) := by decide +kernel
theorem dX4_eighths_16 : decode cX4_eighths 16 = .ok (.getfield 61, 3) := by decide +kernel
theorem dX4_eighths_19 : decode cX4_eighths 19 = .ok (.if_icmp .ge 133, 3) := by decide +kernel
theorem dX4_eighths_22 : decode cX4_eighths 22 = .ok (.aload_n 0, 1) := by decide +kernel
theorem dX4_eighths_23 : decode cX4_eighths 23 = .ok (.getfield 64, 3) := by decide +kernel
theorem dX4_eighths_26 : decode cX4_eighths 26 = .ok (.iload_n 1, 1) := by decide +kernel
theorem dX4_eighths_27 : decode cX4_eighths 27 = .ok (.if_icmp .ne 7, 3) := by decide +kernel
theorem dX4_eighths_30 : decode cX4_eighths 30 = .ok (.iconst 1, 1) := by decide +kernel
theorem dX4_eighths_31 : decode cX4_eighths 31 = .ok (.goto 4, 3) := by decide +kernel
theorem dX4_eighths_34 : decode cX4_eighths 34 = .ok (.iconst 0, 1) := by decide +kernel
theorem dX4_eighths_35 : decode cX4_eighths 35 = .ok (.istore_n 3, 1) := by decide +kernel
theorem dX4_eighths_36 : decode cX4_eighths 36 = .ok (.aload_n 0, 1) := by decide +kernel
theorem dX4_eighths_37 : decode cX4_eighths 37 = .ok (.iconst 1, 1) := by decide +kernel
theorem dX4_eighths_38 : decode cX4_eighths 38 = .ok (.invokevirtual 67, 3) := by decide +kernel
theorem dX4_eighths_41 : decode cX4_eighths 41 = .ok (.iload_n 3, 1) := by decide +kernel
theorem dX4_eighths_42 : decode cX4_eighths 42 = .ok (.ifCond .eq 60, 3) := by decide +kernel
theorem dX4_eighths_45 : decode cX4_eighths 45 = .ok (.aload_n 0, 1) := by decide +kernel
theorem dX4_eighths_46 : decode cX4_eighths 46 = .ok (.iconst 0, 1) := by decide +kernel
theorem dX4_eighths_47 : decode cX4_eighths 47 = .ok (.putfield 71, 3) := by decide +kernel
theorem dX4_eighths_50 : decode cX4_eighths 50 = .ok (.aload_n 0, 1) := by decide +kernel
theorem dX4_eighths_51 : decode cX4_eighths 51 = .ok (.iconst 0, 1) := by decide +kernel
theorem dX4_eighths_52 : decode cX4_eighths 52 = .ok (.iconst 1, 1) := by decide +kernel
theorem dX4_eighths_53 : decode cX4_eighths 53 = .ok (.invokevirtual 75, 3) := by decide +kernel
theorem dX4_eighths_56 : decode cX4_eighths 56 = .ok (.istore 4, 2) := by decide +kernel
theorem dX4_eighths_58 : decode cX4_eighths 58 = .ok (.aload_n 0, 1) := by decide +kernel
theorem dX4_eighths_59 : decode cX4_eighths 59 = .ok (.getfield 71, 3) := by decide +kernel
theorem dX4_eighths_62 : decode cX4_eighths 62 = .ok (.ifCond .eq 7, 3) := by decide +kernel
theorem dX4_eighths_65 : decode cX4_eighths 65 = .ok (.iconst 0, 1) := by decide +kernel
theorem dX4_eighths_66 : decode cX4_eighths 66 = .ok (.goto 5, 3) := by decide +kernel
theorem dX4_eighths_69 : decode cX4_eighths 69 = .ok (.iload 4, 2) := by decide +kernel
theorem dX4_eighths_71 : decode cX4_eighths 71 = .ok (.istore 4, 2) := by decide +kernel
theorem dX4_eighths_73 : decode cX4_eighths 73 = .ok (.aload_n 0, 1) := by decide +kernel
theorem dX4_eighths_74 : decode cX4_eighths 74 = .ok (.iconst 0, 1) := by decide +kernel
theorem dX4_eighths_75 : decode cX4_eighths 75 = .ok (.putfield 71, 3) := by decide +kernel
theorem dX4_eighths_78 : decode cX4_eighths 78 = .ok (.aload_n 0, 1) := by decide +kernel
theorem dX4_eighths_79 : decode cX4_eighths 79 = .ok (.iconst 1, 1) := by decide +kernel
theorem dX4_eighths_80 : decode cX4_eighths 80 = .ok (.invokevirtual 67, 3) := by decide +kernel
theorem dX4_eighths_83 : decode cX4_eighths 83 = .ok (.aload_n 0, 1) := by decide +kernel
theorem dX4_eighths_84 : decode cX4_eighths 84 = .ok (.iconst 1, 1) := by decide +kernel
theorem dX4_eighths_85 : decode cX4_eighths 85 = .ok (.iconst 1, 1) := by decide +kernel
theorem dX4_eighths_86 : decode cX4_eighths 86 = .ok (.invokevirtual 79, 3) := by decide +kernel
theorem dX4_eighths_89 : decode cX4_eighths 89 = .ok (.ifCond .eq 13, 3) := by decide +kernel
theorem dX4_eighths_92 : decode cX4_eighths 92 = .ok (.aload_n 0, 1) := by decide +kernel
theorem dX4_eighths_93 : decode cX4_eighths 93 = .ok (.getfield 71, 3) := by decide +kernel
theorem dX4_eighths_96 : decode cX4_eighths 96 = .ok (.ifCond .ne 6, 3) := by decide +kernel
theorem dX4_eighths_99 : decode cX4_eighths 99 = .ok (.iload 4, 2) := by decide +kernel
theorem dX4_eighths_101 : decode cX4_eighths 101 = .ok (.ireturn, 1) := by decide +kernel
theorem dX4_eighths_102 : decode cX4_eighths 102 = .ok (.iconst 0, 1) := by decide +kernel
theorem dX4_eighths_103 : decode cX4_eighths 103 = .ok (.istore 4, 2) := by decide +kernel
theorem dX4_eighths_105 : decode cX4_eighths 105 = .ok (.iload 4, 2) := by decide +kernel
theorem dX4_eighths_107 : decode cX4_eighths 107 = .ok (.sipush 200, 3) := by decide +kernel
theorem dX4_eighths_110 : decode cX4_eighths 110 = .ok (.if_icmp .ge 31, 3) := by decide +kernel
theorem dX4_eighths_113 : decode cX4_eighths 113 = .ok (.aload_n 0, 1) := by decide +kernel
theorem dX4_eighths_114 : decode cX4_eighths 114 = .ok (.getfield 64, 3) := by decide +kernel
theorem dX4_eighths_117 : decode cX4_eighths 117 = .ok (.bipush 59, 2) := by decide +kernel
theorem dX4_eighths_119 : decode cX4_eighths 119 = .ok (.if_icmp .eq 22, 3) := by decide +kernel
theorem dX4_eighths_122 : decode cX4_eighths 122 = .ok (.aload_n 0, 1) := by decide +kernel
theorem dX4_eighths_123 : decode cX4_eighths 123 = .ok (.getfield 64, 3) := by decide +kernel
theorem dX4_eighths_126 : decode cX4_eighths 126 = .ok (.iconst (-1), 1) := by decide +kernel
theorem dX4_eighths_127 : decode cX4_eighths 127 = .ok (.if_icmp .eq 14, 3) := by decide +kernel
theorem dX4_eighths_130 : decode cX4_eighths 130 = .ok (.aload_n 0, 1) := by decide +kernel
theorem dX4_eighths_131 : decode cX4_eighths 131 = .ok (.iconst 1, 1) := by decide +kernel
theorem dX4_eighths_132 : decode cX4_eighths 132 = .ok (.invokevirtual 67, 3) := by decide +kernel
theorem dX4_eighths_135 : decode cX4_eighths 135 = .ok (.iinc 4 1, 3) := by decide +kernel
theorem dX4_eighths_138 : decode cX4_eighths 138 = .ok (.goto (-33), 3) := by decide +kernel
theorem dX4_eighths_141 : decode cX4_eighths 141 = .ok (.aload_n 0, 1) := by decide +kernel
theorem dX4_eighths_142 : decode cX4_eighths 142 = .ok (.iconst 1, 1) := by decide +kernel
theorem dX4_eighths_143 : decode cX4_eighths 143 = .ok (.invokevirtual 67, 3) := by decide +kernel
theorem dX4_eighths_146 : decode cX4_eighths 146 = .ok (.iinc 2 1, 3) := by decide +kernel
theorem dX4_eighths_149 : decode cX4_eighths 149 = .ok (.goto (-135), 3) := by decide +kernel
theorem dX4_eighths_152 : decode cX4_eighths 152 = .ok (.iconst 0, 1) := by decide +kernel
theorem dX4_eighths_153 : decode cX4_eighths 153 = .ok (.ireturn, 1) := by decide +kernel
theorem dX4_start_0 : decode cX4_start 0 = .ok (.aload_n 0, 1) := by decide +kernel
theorem dX4_start_1 : decode cX4_start 1 = .ok (.aload_n 1, 1) := by decide +kernel
theorem dX4_start_2 : decode cX4_start 2 = .ok (.putfield 25, 3) := by decide +kernel
theorem dX4_start_5 : decode cX4_start 5 = .ok (.aload_n 0, 1) := by decide +kernel
theorem dX4_start_6 : decode cX4_start 6 = .ok (.iload_n 2, 1) := by decide +kernel
theorem dX4_start_7 : decode cX4_start 7 = .ok (.aload_n 1, 1) := by decide +kernel
theorem dX4_start_8 : decode cX4_start 8 = .ok (.arraylength, 1) := by decide +kernel
theorem dX4_start_9 : decode cX4_start 9 = .ok (.invokestatic 28, 3) := by decide +kernel
theorem dX4_start_12 : decode cX4_start 12 = .ok (.putfield 83, 3) := by decide +kernel
theorem dX4_start_15 : decode cX4_start 15 = .ok (.aload_n 0, 1) := by decide +kernel
theorem dX4_start_16 : decode cX4_start 16 = .ok (.iconst 0, 1) := by decide +kernel
theorem dX4_start_17 : decode cX4_start 17 = .ok (.putfield 55, 3) := by decide +kernel
theorem dX4_start_20 : decode cX4_start 20 = .ok (.aload_n 0, 1) := by decide +kernel
theorem dX4_start_21 : decode cX4_start 21 = .ok (.aload_n 0, 1) := by decide +kernel
theorem dX4_start_22 : decode cX4_start 22 = .ok (.getfield 83, 3) := by decide +kernel
theorem dX4_start_25 : decode cX4_start 25 = .ok (.ifCond .le 9, 3) := by decide +kernel
theorem dX4_start_28 : decode cX4_start 28 = .ok (.aload_n 1, 1) := by decide +kernel
theorem dX4_start_29 : decode cX4_start 29 = .ok (.iconst 0, 1) := by decide +kernel
theorem dX4_start_30 : decode cX4_start 30 = .ok (.iaload, 1) := by decide +kernel
theorem dX4_start_31 : decode cX4_start 31 = .ok (.goto 4, 3) := by decide +kernel
theorem dX4_start_34 : decode cX4_start 34 = .ok (.iconst (-1), 1) := by decide +kernel
theorem dX4_start_35 : decode cX4_start 35 = .ok (.putfield 64, 3) := by decide +kernel
theorem dX4_start_38 : decode cX4_start 38 = .ok (.aload_n 0, 1) := by decide +kernel
theorem dX4_start_39 : decode cX4_start 39 = .ok (.iconst 0, 1) := by decide +kernel
theorem dX4_start_40 : decode cX4_start 40 = .ok (.putfield 51, 3) := by decide +kernel
theorem dX4_start_43 : decode cX4_start 43 = .ok (.aload_n 0, 1) := by decide +kernel
theorem dX4_start_44 : decode cX4_start 44 = .ok (.iconst 0, 1) := by decide +kernel
theorem dX4_start_45 : decode cX4_start 45 = .ok (.putfield 71, 3) := by decide +kernel
theorem dX4_start_48 : decode cX4_start 48 = .ok (.return_, 1) := by decide +kernel
theorem dX4_pass_0 : decode cX4_pass 0 = .ok (.iload_n 1, 1) := by decide +kernel
theorem dX4_pass_1 : decode cX4_pass 1 = .ok (.ifCond .ne 20, 3) := by decide +kernel
theorem dX4_pass_4 : decode cX4_pass 4 = .ok (.aload_n 0, 1) := by decide +kernel
theorem dX4_pass_5 : decode cX4_pass 5 = .ok (.getfield 51, 3) := by decide +kernel
theorem dX4_pass_8 : decode cX4_pass 8 = .ok (.ifCond .ne 13, 3) := by decide +kernel
theorem dX4_pass_11 : decode cX4_pass 11 = .ok (.aload_n 0, 1) := by decide +kernel
theorem dX4_pass_12 : decode cX4_pass 12 = .ok (.iconst 1, 1) := by decide +kernel
theorem dX4_pass_13 : decode cX4_pass 13 = .ok (.putfield 51, 3) := by decide +kernel
theorem dX4_pass_16 : decode cX4_pass 16 = .ok (.aload_n 0, 1) := by decide +kernel
theorem dX4_pass_17 : decode cX4_pass 17 = .ok (.iconst (-1), 1) := by decide +kernel
theorem dX4_pass_18 : decode cX4_pass 18 = .ok (.putfield 64, 3) := by decide +kernel
theorem dX4_pass_21 : decode cX4_pass 21 = .ok (.aload_n 0, 1) := by decide +kernel
theorem dX4_pass_22 : decode cX4_pass 22 = .ok (.getfield 51, 3) := by decide +kernel
theorem dX4_pass_25 : decode cX4_pass 25 = .ok (.ifCond .ne 60, 3) := by decide +kernel
theorem dX4_pass_28 : decode cX4_pass 28 = .ok (.aload_n 0, 1) := by decide +kernel
theorem dX4_pass_29 : decode cX4_pass 29 = .ok (.dup, 1) := by decide +kernel
theorem dX4_pass_30 : decode cX4_pass 30 = .ok (.getfield 55, 3) := by decide +kernel
theorem dX4_pass_33 : decode cX4_pass 33 = .ok (.iconst 1, 1) := by decide +kernel
theorem dX4_pass_34 : decode cX4_pass 34 = .ok (.iadd, 1) := by decide +kernel
theorem dX4_pass_35 : decode cX4_pass 35 = .ok (.putfield 55, 3) := by decide +kernel
theorem dX4_pass_38 : decode cX4_pass 38 = .ok (.aload_n 0, 1) := by decide +kernel
theorem dX4_pass_39 : decode cX4_pass 39 = .ok (.aload_n 0, 1) := by decide +kernel
theorem dX4_pass_40 : decode cX4_pass 40 = .ok (.getfield 55, 3) := by decide +kernel
theorem dX4_pass_43 : decode cX4_pass 43 = .ok (.ifCond .lt 38, 3) := by decide +kernel
theorem dX4_pass_46 : decode cX4_pass 46 = .ok (.aload_n 0, 1) := by decide +kernel
theorem dX4_pass_47 : decode cX4_pass 47 = .ok (.getfield 55, 3) := by decide +kernel
theorem dX4_pass_50 : decode cX4_pass 50 = .ok (.aload_n 0, 1) := by decide +kernel
theorem dX4_pass_51 : decode cX4_pass 51 = .ok (.getfield 83, 3) := by decide +kernel
theorem dX4_pass_54 : decode cX4_pass 54 = .ok (.if_icmp .ge 27, 3) := by decide +kernel
theorem dX4_pass_57 : decode cX4_pass 57 = .ok (.aload_n 0, 1) := by decide +kernel
theorem dX4_pass_58 : decode cX4_pass 58 = .ok (.getfield 55, 3) := by decide +kernel
theorem dX4_pass_61 : decode cX4_pass 61 = .ok (.aload_n 0, 1) := by decide +kernel
theorem dX4_pass_62 : decode cX4_pass 62 = .ok (.getfield 25, 3) := by decide +kernel
theorem dX4_pass_65 : decode cX4_pass 65 = .ok (.arraylength, 1) := by decide +kernel
theorem dX4_pass_66 : decode cX4_pass 66 = .ok (.if_icmp .ge 15, 3) := by decide +kernel
theorem dX4_pass_69 : decode cX4_pass 69 = .ok (.aload_n 0, 1) := by decide +kernel
theorem dX4_pass_70 : decode cX4_pass 70 = .ok (.getfield 25, 3) := by decide +kernel
theorem dX4_pass_73 : decode cX4_pass 73 = .ok (.aload_n 0, 1) := by decide +kernel
theorem dX4_pass_74 : decode cX4_pass 74 = .ok (.getfield 55, 3) := by decide +kernel
theorem dX4_pass_77 : decode cX4_pass 77 = .ok (.iaload, 1) := by decide +kernel
theorem dX4_pass_78 : decode cX4_pass 78 = .ok (.goto 4, 3) := by decide +kernel
theorem dX4_pass_81 : decode cX4_pass 81 = .ok (.iconst (-1), 1) := by decide +kernel
theorem dX4_pass_82 : decode cX4_pass 82 = .ok (.putfield 64, 3) := by decide +kernel
theorem dX4_pass_85 : decode cX4_pass 85 = .ok (.return_, 1) := by decide +kernel
theorem dX4_blame_0 : decode cX4_blame 0 = .ok (.aload_n 0, 1) := by decide +kernel
theorem dX4_blame_1 : decode cX4_blame 1 = .ok (.getfield 51, 3) := by decide +kernel
theorem dX4_blame_4 : decode cX4_blame 4 = .ok (.ifCond .ne 13, 3) := by decide +kernel
theorem dX4_blame_7 : decode cX4_blame 7 = .ok (.aload_n 0, 1) := by decide +kernel
theorem dX4_blame_8 : decode cX4_blame 8 = .ok (.iload_n 1, 1) := by decide +kernel
theorem dX4_blame_9 : decode cX4_blame 9 = .ok (.putfield 51, 3) := by decide +kernel
theorem dX4_blame_12 : decode cX4_blame 12 = .ok (.aload_n 0, 1) := by decide +kernel
theorem dX4_blame_13 : decode cX4_blame 13 = .ok (.iconst (-1), 1) := by decide +kernel
theorem dX4_blame_14 : decode cX4_blame 14 = .ok (.putfield 64, 3) := by decide +kernel
theorem dX4_blame_17 : decode cX4_blame 17 = .ok (.return_, 1) := by decide +kernel
theorem dX4_readAll_0 : decode cX4_readAll 0 = .ok (.iconst 0, 1) := by decide +kernel
theorem dX4_readAll_1 : decode cX4_readAll 1 = .ok (.istore_n 1, 1) := by decide +kernel
theorem dX4_readAll_2 : decode cX4_readAll 2 = .ok (.iconst 1, 1) := by decide +kernel
theorem dX4_readAll_3 : decode cX4_readAll 3 = .ok (.istore_n 2, 1) := by decide +kernel
theorem dX4_readAll_4 : decode cX4_readAll 4 = .ok (.iload_n 2, 1) := by decide +kernel
theorem dX4_readAll_5 : decode cX4_readAll 5 = .ok (.ifCond .eq 44, 3) := by decide +kernel
theorem dX4_readAll_8 : decode cX4_readAll 8 = .ok (.iload_n 1, 1) := by decide +kernel
theorem dX4_readAll_9 : decode cX4_readAll 9 = .ok (.bipush 14, 2) := by decide +kernel
theorem dX4_readAll_11 : decode cX4_readAll 11 = .ok (.if_icmp .gt 38, 3) := by decide +kernel
theorem dX4_readAll_14 : decode cX4_readAll 14 = .ok (.aload_n 0, 1) := by decide +kernel
theorem dX4_readAll_15 : decode cX4_readAll 15 = .ok (.iload_n 1, 1) := by decide +kernel
theorem dX4_readAll_16 : decode cX4_readAll 16 = .ok (.invokevirtual 86, 3) := by decide +kernel
theorem dX4_readAll_19 : decode cX4_readAll 19 = .ok (.iinc 1 1, 3) := by decide +kernel
theorem dX4_readAll_22 : decode cX4_readAll 22 = .ok (.aload_n 0, 1) := by decide +kernel
theorem dX4_readAll_23 : decode cX4_readAll 23 = .ok (.getfield 64, 3) := by decide +kernel
theorem dX4_readAll_26 : decode cX4_readAll 26 = .ok (.bipush 59, 2) := by decide +kernel
theorem dX4_readAll_28 : decode cX4_readAll 28 = .ok (.if_icmp .ne 7, 3) := by decide +kernel
theorem dX4_readAll_31 : decode cX4_readAll 31 = .ok (.iconst 1, 1) := by decide +kernel
theorem dX4_readAll_32 : decode cX4_readAll 32 = .ok (.goto 4, 3) := by decide +kernel
theorem dX4_readAll_35 : decode cX4_readAll 35 = .ok (.iconst 0, 1) := by decide +kernel
theorem dX4_readAll_36 : decode cX4_readAll 36 = .ok (.istore_n 2, 1) := by decide +kernel
theorem dX4_readAll_37 : decode cX4_readAll 37 = .ok (.iload_n 2, 1) := by decide +kernel
theorem dX4_readAll_38 : decode cX4_readAll 38 = .ok (.ifCond .eq (-34), 3) := by decide +kernel
theorem dX4_readAll_41 : decode cX4_readAll 41 = .ok (.aload_n 0, 1) := by decide +kernel
theorem dX4_readAll_42 : decode cX4_readAll 42 = .ok (.iconst 1, 1) := by decide +kernel
theorem dX4_readAll_43 : decode cX4_readAll 43 = .ok (.invokevirtual 67, 3) := by decide +kernel
theorem dX4_readAll_46 : decode cX4_readAll 46 = .ok (.goto (-42), 3) := by decide +kernel
theorem dX4_readAll_49 : decode cX4_readAll 49 = .ok (.aload_n 0, 1) := by decide +kernel
theorem dX4_readAll_50 : decode cX4_readAll 50 = .ok (.getfield 55, 3) := by decide +kernel
theorem dX4_readAll_53 : decode cX4_readAll 53 = .ok (.aload_n 0, 1) := by decide +kernel
theorem dX4_readAll_54 : decode cX4_readAll 54 = .ok (.getfield 83, 3) := by decide +kernel
theorem dX4_readAll_57 : decode cX4_readAll 57 = .ok (.if_icmp .ge 8, 3) := by decide +kernel
theorem dX4_readAll_60 : decode cX4_readAll 60 = .ok (.aload_n 0, 1) := by decide +kernel
theorem dX4_readAll_61 : decode cX4_readAll 61 = .ok (.iconst 1, 1) := by decide +kernel
theorem dX4_readAll_62 : decode cX4_readAll 62 = .ok (.invokevirtual 90, 3) := by decide +kernel
theorem dX4_readAll_65 : decode cX4_readAll 65 = .ok (.iload_n 1, 1) := by decide +kernel
theorem dX4_readAll_66 : decode cX4_readAll 66 = .ok (.ireturn, 1) := by decide +kernel
theorem dX4_readClause_0 : decode cX4_readClause 0 = .ok (.aload_n 0, 1) := by decide +kernel
theorem dX4_readClause_1 : decode cX4_readClause 1 = .ok (.getfield 64, 3) := by decide +kernel
theorem dX4_readClause_4 : decode cX4_readClause 4 = .ok (.bipush 115, 2) := by decide +kernel
theorem dX4_readClause_6 : decode cX4_readClause 6 = .ok (.if_icmp .eq 12, 3) := by decide +kernel
theorem dX4_readClause_9 : decode cX4_readClause 9 = .ok (.aload_n 0, 1) := by decide +kernel
theorem dX4_readClause_10 : decode cX4_readClause 10 = .ok (.getfield 64, 3) := by decide +kernel
theorem dX4_readClause_13 : decode cX4_readClause 13 = .ok (.bipush 101, 2) := by decide +kernel
theorem dX4_readClause_15 : decode cX4_readClause 15 = .ok (.if_icmp .ne 7, 3) := by decide +kernel
theorem dX4_readClause_18 : decode cX4_readClause 18 = .ok (.iconst 1, 1) := by decide +kernel
theorem dX4_readClause_19 : decode cX4_readClause 19 = .ok (.goto 4, 3) := by decide +kernel
theorem dX4_readClause_22 : decode cX4_readClause 22 = .ok (.iconst 0, 1) := by decide +kernel
theorem dX4_readClause_23 : decode cX4_readClause 23 = .ok (.istore_n 2, 1) := by decide +kernel
theorem dX4_readClause_24 : decode cX4_readClause 24 = .ok (.iload_n 2, 1) := by decide +kernel
theorem dX4_readClause_25 : decode cX4_readClause 25 = .ok (.ifCond .eq 14, 3) := by decide +kernel
theorem dX4_readClause_28 : decode cX4_readClause 28 = .ok (.iload_n 1, 1) := by decide +kernel
theorem dX4_readClause_29 : decode cX4_readClause 29 = .ok (.bipush 14, 2) := by decide +kernel
theorem dX4_readClause_31 : decode cX4_readClause 31 = .ok (.if_icmp .lt 8, 3) := by decide +kernel
theorem dX4_readClause_34 : decode cX4_readClause 34 = .ok (.aload_n 0, 1) := by decide +kernel
theorem dX4_readClause_35 : decode cX4_readClause 35 = .ok (.iconst 4, 1) := by decide +kernel
theorem dX4_readClause_36 : decode cX4_readClause 36 = .ok (.invokevirtual 90, 3) := by decide +kernel
theorem dX4_readClause_39 : decode cX4_readClause 39 = .ok (.aload_n 0, 1) := by decide +kernel
theorem dX4_readClause_40 : decode cX4_readClause 40 = .ok (.iload_n 2, 1) := by decide +kernel
theorem dX4_readClause_41 : decode cX4_readClause 41 = .ok (.invokevirtual 67, 3) := by decide +kernel
theorem dX4_readClause_44 : decode cX4_readClause 44 = .ok (.aload_n 0, 1) := by decide +kernel
theorem dX4_readClause_45 : decode cX4_readClause 45 = .ok (.iconst 0, 1) := by decide +kernel
theorem dX4_readClause_46 : decode cX4_readClause 46 = .ok (.iconst 0, 1) := by decide +kernel
theorem dX4_readClause_47 : decode cX4_readClause 47 = .ok (.invokevirtual 75, 3) := by decide +kernel
theorem dX4_readClause_50 : decode cX4_readClause 50 = .ok (.pop, 1) := by decide +kernel
theorem dX4_readClause_51 : decode cX4_readClause 51 = .ok (.aload_n 0, 1) := by decide +kernel
theorem dX4_readClause_52 : decode cX4_readClause 52 = .ok (.aload_n 0, 1) := by decide +kernel
theorem dX4_readClause_53 : decode cX4_readClause 53 = .ok (.getfield 64, 3) := by decide +kernel
theorem dX4_readClause_56 : decode cX4_readClause 56 = .ok (.bipush 40, 2) := by decide +kernel
theorem dX4_readClause_58 : decode cX4_readClause 58 = .ok (.if_icmp .ne 7, 3) := by decide +kernel
theorem dX4_readClause_61 : decode cX4_readClause 61 = .ok (.iconst 1, 1) := by decide +kernel
theorem dX4_readClause_62 : decode cX4_readClause 62 = .ok (.goto 4, 3) := by decide +kernel
theorem dX4_readClause_65 : decode cX4_readClause 65 = .ok (.iconst 0, 1) := by decide +kernel
theorem dX4_readClause_66 : decode cX4_readClause 66 = .ok (.invokevirtual 67, 3) := by decide +kernel
theorem dX4_readClause_69 : decode cX4_readClause 69 = .ok (.aload_n 0, 1) := by decide +kernel
theorem dX4_readClause_70 : decode cX4_readClause 70 = .ok (.iconst 1, 1) := by decide +kernel
theorem dX4_readClause_71 : decode cX4_readClause 71 = .ok (.iconst 0, 1) := by decide +kernel
theorem dX4_readClause_72 : decode cX4_readClause 72 = .ok (.invokevirtual 79, 3) := by decide +kernel
theorem dX4_readClause_75 : decode cX4_readClause 75 = .ok (.pop, 1) := by decide +kernel
theorem dX4_readClause_76 : decode cX4_readClause 76 = .ok (.aload_n 0, 1) := by decide +kernel
theorem dX4_readClause_77 : decode cX4_readClause 77 = .ok (.aload_n 0, 1) := by decide +kernel
theorem dX4_readClause_78 : decode cX4_readClause 78 = .ok (.getfield 64, 3) := by decide +kernel
theorem dX4_readClause_81 : decode cX4_readClause 81 = .ok (.bipush 41, 2) := by decide +kernel
theorem dX4_readClause_83 : decode cX4_readClause 83 = .ok (.if_icmp .ne 7, 3) := by decide +kernel
theorem dX4_readClause_86 : decode cX4_readClause 86 = .ok (.iconst 1, 1) := by decide +kernel
theorem dX4_readClause_87 : decode cX4_readClause 87 = .ok (.goto 4, 3) := by decide +kernel
theorem dX4_readClause_90 : decode cX4_readClause 90 = .ok (.iconst 0, 1) := by decide +kernel
theorem dX4_readClause_91 : decode cX4_readClause 91 = .ok (.invokevirtual 67, 3) := by decide +kernel
theorem dX4_readClause_94 : decode cX4_readClause 94 = .ok (.return_, 1) := by decide +kernel
theorem dX4_any_0 : decode cX4_any 0 = .ok (.aload_n 0, 1) := by decide +kernel
theorem dX4_any_1 : decode cX4_any 1 = .ok (.iload_n 1, 1) := by decide +kernel
theorem dX4_any_2 : decode cX4_any 2 = .ok (.iload_n 2, 1) := by decide +kernel
theorem dX4_any_3 : decode cX4_any 3 = .ok (.invokevirtual 93, 3) := by decide +kernel
theorem dX4_any_6 : decode cX4_any 6 = .ok (.istore_n 3, 1) := by decide +kernel
theorem dX4_any_7 : decode cX4_any 7 = .ok (.iconst 0, 1) := by decide +kernel
theorem dX4_any_8 : decode cX4_any 8 = .ok (.istore 4, 2) := by decide +kernel
theorem dX4_any_10 : decode cX4_any 10 = .ok (.iload 4, 2) := by decide +kernel
theorem dX4_any_12 : decode cX4_any 12 = .ok (.sipush 200, 3) := by decide +kernel
theorem dX4_any_15 : decode cX4_any 15 = .ok (.if_icmp .ge 58, 3) := by decide +kernel
theorem dX4_any_18 : decode cX4_any 18 = .ok (.aload_n 0, 1) := by decide +kernel
theorem dX4_any_19 : decode cX4_any 19 = .ok (.getfield 64, 3) := by decide +kernel
theorem dX4_any_22 : decode cX4_any 22 = .ok (.bipush 124, 2) := by decide +kernel
theorem dX4_any_24 : decode cX4_any 24 = .ok (.if_icmp .ne 49, 3) := by decide +kernel
theorem dX4_any_27 : decode cX4_any 27 = .ok (.aload_n 0, 1) := by decide +kernel
theorem dX4_any_28 : decode cX4_any 28 = .ok (.iconst 1, 1) := by decide +kernel
theorem dX4_any_29 : decode cX4_any 29 = .ok (.invokevirtual 67, 3) := by decide +kernel
theorem dX4_any_32 : decode cX4_any 32 = .ok (.aload_n 0, 1) := by decide +kernel
theorem dX4_any_33 : decode cX4_any 33 = .ok (.iload_n 1, 1) := by decide +kernel
theorem dX4_any_34 : decode cX4_any 34 = .ok (.iload_n 2, 1) := by decide +kernel
theorem dX4_any_35 : decode cX4_any 35 = .ok (.ifCond .eq 11, 3) := by decide +kernel
theorem dX4_any_38 : decode cX4_any 38 = .ok (.iload_n 3, 1) := by decide +kernel
theorem dX4_any_39 : decode cX4_any 39 = .ok (.ifCond .ne 7, 3) := by decide +kernel
theorem dX4_any_42 : decode cX4_any 42 = .ok (.iconst 1, 1) := by decide +kernel
theorem dX4_any_43 : decode cX4_any 43 = .ok (.goto 4, 3) := by decide +kernel
theorem dX4_any_46 : decode cX4_any 46 = .ok (.iconst 0, 1) := by decide +kernel
theorem dX4_any_47 : decode cX4_any 47 = .ok (.invokevirtual 93, 3) := by decide +kernel
theorem dX4_any_50 : decode cX4_any 50 = .ok (.istore 5, 2) := by decide +kernel
theorem dX4_any_52 : decode cX4_any 52 = .ok (.iload_n 3, 1) := by decide +kernel
theorem dX4_any_53 : decode cX4_any 53 = .ok (.ifCond .ne 8, 3) := by decide +kernel
theorem dX4_any_56 : decode cX4_any 56 = .ok (.iload 5, 2) := by decide +kernel
theorem dX4_any_58 : decode cX4_any 58 = .ok (.ifCond .eq 7, 3) := by decide +kernel
theorem dX4_any_61 : decode cX4_any 61 = .ok (.iconst 1, 1) := by decide +kernel
theorem dX4_any_62 : decode cX4_any 62 = .ok (.goto 4, 3) := by decide +kernel
theorem dX4_any_65 : decode cX4_any 65 = .ok (.iconst 0, 1) := by decide +kernel
theorem dX4_any_66 : decode cX4_any 66 = .ok (.istore_n 3, 1) := by decide +kernel
theorem dX4_any_67 : decode cX4_any 67 = .ok (.iinc 4 1, 3) := by decide +kernel
theorem dX4_any_70 : decode cX4_any 70 = .ok (.goto (-60), 3) := by decide +kernel
theorem dX4_any_73 : decode cX4_any 73 = .ok (.iload_n 3, 1) := by decide +kernel
theorem dX4_any_74 : decode cX4_any 74 = .ok (.ireturn, 1) := by decide +kernel
theorem dX4_all_0 : decode cX4_all 0 = .ok (.aload_n 0, 1) := by decide +kernel
theorem dX4_all_1 : decode cX4_all 1 = .ok (.iload_n 1, 1) := by decide +kernel
theorem dX4_all_2 : decode cX4_all 2 = .ok (.iload_n 2, 1) := by decide +kernel
theorem dX4_all_3 : decode cX4_all 3 = .ok (.invokevirtual 96, 3) := by decide +kernel
theorem dX4_all_6 : decode cX4_all 6 = .ok (.istore_n 3, 1) := by decide +kernel
theorem dX4_all_7 : decode cX4_all 7 = .ok (.iconst 0, 1) := by decide +kernel
theorem dX4_all_8 : decode cX4_all 8 = .ok (.istore 4, 2) := by decide +kernel
theorem dX4_all_10 : decode cX4_all 10 = .ok (.iload 4, 2) := by decide +kernel
theorem dX4_all_12 : decode cX4_all 12 = .ok (.sipush 200, 3) := by decide +kernel
theorem dX4_all_15 : decode cX4_all 15 = .ok (.if_icmp .ge 58, 3) := by decide +kernel
theorem dX4_all_18 : decode cX4_all 18 = .ok (.aload_n 0, 1) := by decide +kernel
theorem dX4_all_19 : decode cX4_all 19 = .ok (.getfield 64, 3) := by decide +kernel
theorem dX4_all_22 : decode cX4_all 22 = .ok (.bipush 38, 2) := by decide +kernel
theorem dX4_all_24 : decode cX4_all 24 = .ok (.if_icmp .ne 49, 3) := by decide +kernel
theorem dX4_all_27 : decode cX4_all 27 = .ok (.aload_n 0, 1) := by decide +kernel
theorem dX4_all_28 : decode cX4_all 28 = .ok (.iconst 1, 1) := by decide +kernel
theorem dX4_all_29 : decode cX4_all 29 = .ok (.invokevirtual 67, 3) := by decide +kernel
theorem dX4_all_32 : decode cX4_all 32 = .ok (.aload_n 0, 1) := by decide +kernel
theorem dX4_all_33 : decode cX4_all 33 = .ok (.iload_n 1, 1) := by decide +kernel
theorem dX4_all_34 : decode cX4_all 34 = .ok (.iload_n 2, 1) := by decide +kernel
theorem dX4_all_35 : decode cX4_all 35 = .ok (.ifCond .eq 11, 3) := by decide +kernel
theorem dX4_all_38 : decode cX4_all 38 = .ok (.iload_n 3, 1) := by decide +kernel
theorem dX4_all_39 : decode cX4_all 39 = .ok (.ifCond .eq 7, 3) := by decide +kernel
theorem dX4_all_42 : decode cX4_all 42 = .ok (.iconst 1, 1) := by decide +kernel
theorem dX4_all_43 : decode cX4_all 43 = .ok (.goto 4, 3) := by decide +kernel
theorem dX4_all_46 : decode cX4_all 46 = .ok (.iconst 0, 1) := by decide +kernel
theorem dX4_all_47 : decode cX4_all 47 = .ok (.invokevirtual 96, 3) := by decide +kernel
theorem dX4_all_50 : decode cX4_all 50 = .ok (.istore 5, 2) := by decide +kernel
theorem dX4_all_52 : decode cX4_all 52 = .ok (.iload_n 3, 1) := by decide +kernel
theorem dX4_all_53 : decode cX4_all 53 = .ok (.ifCond .eq 12, 3) := by decide +kernel
theorem dX4_all_56 : decode cX4_all 56 = .ok (.iload 5, 2) := by decide +kernel
theorem dX4_all_58 : decode cX4_all 58 = .ok (.ifCond .eq 7, 3) := by decide +kernel
theorem dX4_all_61 : decode cX4_all 61 = .ok (.iconst 1, 1) := by decide +kernel
theorem dX4_all_62 : decode cX4_all 62 = .ok (.goto 4, 3) := by decide +kernel
theorem dX4_all_65 : decode cX4_all 65 = .ok (.iconst 0, 1) := by decide +kernel
theorem dX4_all_66 : decode cX4_all 66 = .ok (.istore_n 3, 1) := by decide +kernel
theorem dX4_all_67 : decode cX4_all 67 = .ok (.iinc 4 1, 3) := by decide +kernel
theorem dX4_all_70 : decode cX4_all 70 = .ok (.goto (-60), 3) := by decide +kernel
theorem dX4_all_73 : decode cX4_all 73 = .ok (.iload_n 3, 1) := by decide +kernel
theorem dX4_all_74 : decode cX4_all 74 = .ok (.ireturn, 1) := by decide +kernel
theorem dX4_piece_0 : decode cX4_piece 0 = .ok (.aload_n 0, 1) := by decide +kernel
theorem dX4_piece_1 : decode cX4_piece 1 = .ok (.getfield 64, 3) := by decide +kernel
theorem dX4_piece_4 : decode cX4_piece 4 = .ok (.bipush 33, 2) := by decide +kernel
theorem dX4_piece_6 : decode cX4_piece 6 = .ok (.if_icmp .eq 12, 3) := by decide +kernel
theorem dX4_piece_9 : decode cX4_piece 9 = .ok (.aload_n 0, 1) := by decide +kernel
theorem dX4_piece_10 : decode cX4_piece 10 = .ok (.getfield 64, 3) := by decide +kernel
theorem dX4_piece_13 : decode cX4_piece 13 = .ok (.bipush 40, 2) := by decide +kernel
theorem dX4_piece_15 : decode cX4_piece 15 = .ok (.if_icmp .ne 16, 3) := by decide +kernel
theorem dX4_piece_18 : decode cX4_piece 18 = .ok (.iload_n 1, 1) := by decide +kernel
theorem dX4_piece_19 : decode cX4_piece 19 = .ok (.bipush 6, 2) := by decide +kernel
theorem dX4_piece_21 : decode cX4_piece 21 = .ok (.if_icmp .lt 10, 3) := by decide +kernel
theorem dX4_piece_24 : decode cX4_piece 24 = .ok (.aload_n 0, 1) := by decide +kernel
theorem dX4_piece_25 : decode cX4_piece 25 = .ok (.iconst 5, 1) := by decide +kernel
theorem dX4_piece_26 : decode cX4_piece 26 = .ok (.invokevirtual 90, 3) := by decide +kernel
theorem dX4_piece_29 : decode cX4_piece 29 = .ok (.iconst 0, 1) := by decide +kernel
theorem dX4_piece_30 : decode cX4_piece 30 = .ok (.ireturn, 1) := by decide +kernel
theorem dX4_piece_31 : decode cX4_piece 31 = .ok (.aload_n 0, 1) := by decide +kernel
theorem dX4_piece_32 : decode cX4_piece 32 = .ok (.getfield 64, 3) := by decide +kernel
theorem dX4_piece_35 : decode cX4_piece 35 = .ok (.bipush 33, 2) := by decide +kernel
theorem dX4_piece_37 : decode cX4_piece 37 = .ok (.if_icmp .ne 25, 3) := by decide +kernel
theorem dX4_piece_40 : decode cX4_piece 40 = .ok (.aload_n 0, 1) := by decide +kernel
theorem dX4_piece_41 : decode cX4_piece 41 = .ok (.iconst 1, 1) := by decide +kernel
theorem dX4_piece_42 : decode cX4_piece 42 = .ok (.invokevirtual 67, 3) := by decide +kernel
theorem dX4_piece_45 : decode cX4_piece 45 = .ok (.aload_n 0, 1) := by decide +kernel
theorem dX4_piece_46 : decode cX4_piece 46 = .ok (.iload_n 1, 1) := by decide +kernel
theorem dX4_piece_47 : decode cX4_piece 47 = .ok (.iconst 1, 1) := by decide +kernel
theorem dX4_piece_48 : decode cX4_piece 48 = .ok (.iadd, 1) := by decide +kernel
theorem dX4_piece_49 : decode cX4_piece 49 = .ok (.iload_n 2, 1) := by decide +kernel
theorem dX4_piece_50 : decode cX4_piece 50 = .ok (.invokevirtual 96, 3) := by decide +kernel
theorem dX4_piece_53 : decode cX4_piece 53 = .ok (.ifCond .ne 7, 3) := by decide +kernel
theorem dX4_piece_56 : decode cX4_piece 56 = .ok (.iconst 1, 1) := by decide +kernel
theorem dX4_piece_57 : decode cX4_piece 57 = .ok (.goto 4, 3) := by decide +kernel
theorem dX4_piece_60 : decode cX4_piece 60 = .ok (.iconst 0, 1) := by decide +kernel
theorem dX4_piece_61 : decode cX4_piece 61 = .ok (.ireturn, 1) := by decide +kernel
theorem dX4_piece_62 : decode cX4_piece 62 = .ok (.aload_n 0, 1) := by decide +kernel
theorem dX4_piece_63 : decode cX4_piece 63 = .ok (.getfield 64, 3) := by decide +kernel
theorem dX4_piece_66 : decode cX4_piece 66 = .ok (.bipush 40, 2) := by decide +kernel
theorem dX4_piece_68 : decode cX4_piece 68 = .ok (.if_icmp .ne 37, 3) := by decide +kernel
theorem dX4_piece_71 : decode cX4_piece 71 = .ok (.aload_n 0, 1) := by decide +kernel
theorem dX4_piece_72 : decode cX4_piece 72 = .ok (.iconst 1, 1) := by decide +kernel
theorem dX4_piece_73 : decode cX4_piece 73 = .ok (.invokevirtual 67, 3) := by decide +kernel
theorem dX4_piece_76 : decode cX4_piece 76 = .ok (.aload_n 0, 1) := by decide +kernel
theorem dX4_piece_77 : decode cX4_piece 77 = .ok (.iload_n 1, 1) := by decide +kernel
theorem dX4_piece_78 : decode cX4_piece 78 = .ok (.iconst 1, 1) := by decide +kernel
theorem dX4_piece_79 : decode cX4_piece 79 = .ok (.iadd, 1) := by decide +kernel
theorem dX4_piece_80 : decode cX4_piece 80 = .ok (.iload_n 2, 1) := by decide +kernel
theorem dX4_piece_81 : decode cX4_piece 81 = .ok (.invokevirtual 79, 3) := by decide +kernel
theorem dX4_piece_84 : decode cX4_piece 84 = .ok (.istore_n 3, 1) := by decide +kernel
theorem dX4_piece_85 : decode cX4_piece 85 = .ok (.aload_n 0, 1) := by decide +kernel
theorem dX4_piece_86 : decode cX4_piece 86 = .ok (.aload_n 0, 1) := by decide +kernel
theorem dX4_piece_87 : decode cX4_piece 87 = .ok (.getfield 64, 3) := by decide +kernel
theorem dX4_piece_90 : decode cX4_piece 90 = .ok (.bipush 41, 2) := by decide +kernel
theorem dX4_piece_92 : decode cX4_piece 92 = .ok (.if_icmp .ne 7, 3) := by decide +kernel
theorem dX4_piece_95 : decode cX4_piece 95 = .ok (.iconst 1, 1) := by decide +kernel
theorem dX4_piece_96 : decode cX4_piece 96 = .ok (.goto 4, 3) := by decide +kernel
theorem dX4_piece_99 : decode cX4_piece 99 = .ok (.iconst 0, 1) := by decide +kernel
theorem dX4_piece_100 : decode cX4_piece 100 = .ok (.invokevirtual 67, 3) := by decide +kernel
theorem dX4_piece_103 : decode cX4_piece 103 = .ok (.iload_n 3, 1) := by decide +kernel
theorem dX4_piece_104 : decode cX4_piece 104 = .ok (.ireturn, 1) := by decide +kernel
theorem dX4_piece_105 : decode cX4_piece 105 = .ok (.aload_n 0, 1) := by decide +kernel
theorem dX4_piece_106 : decode cX4_piece 106 = .ok (.iload_n 1, 1) := by decide +kernel
theorem dX4_piece_107 : decode cX4_piece 107 = .ok (.iload_n 2, 1) := by decide +kernel
theorem dX4_piece_108 : decode cX4_piece 108 = .ok (.invokevirtual 75, 3) := by decide +kernel
theorem dX4_piece_111 : decode cX4_piece 111 = .ok (.istore_n 3, 1) := by decide +kernel
theorem dX4_piece_112 : decode cX4_piece 112 = .ok (.aload_n 0, 1) := by decide +kernel
theorem dX4_piece_113 : decode cX4_piece 113 = .ok (.getfield 64, 3) := by decide +kernel
theorem dX4_piece_116 : decode cX4_piece 116 = .ok (.istore 4, 2) := by decide +kernel
theorem dX4_piece_118 : decode cX4_piece 118 = .ok (.aload_n 0, 1) := by decide +kernel
theorem dX4_piece_119 : decode cX4_piece 119 = .ok (.iload 4, 2) := by decide +kernel
theorem dX4_piece_121 : decode cX4_piece 121 = .ok (.bipush 60, 2) := by decide +kernel
theorem dX4_piece_123 : decode cX4_piece 123 = .ok (.if_icmp .eq 17, 3) := by decide +kernel
theorem dX4_piece_126 : decode cX4_piece 126 = .ok (.iload 4, 2) := by decide +kernel
theorem dX4_piece_128 : decode cX4_piece 128 = .ok (.bipush 62, 2) := by decide +kernel
theorem dX4_piece_130 : decode cX4_piece 130 = .ok (.if_icmp .eq 10, 3) := by decide +kernel
theorem dX4_piece_133 : decode cX4_piece 133 = .ok (.iload 4, 2) := by decide +kernel
theorem dX4_piece_135 : decode cX4_piece 135 = .ok (.bipush 61, 2) := by decide +kernel
theorem dX4_piece_137 : decode cX4_piece 137 = .ok (.if_icmp .ne 7, 3) := by decide +kernel
theorem dX4_piece_140 : decode cX4_piece 140 = .ok (.iconst 1, 1) := by decide +kernel
theorem dX4_piece_141 : decode cX4_piece 141 = .ok (.goto 4, 3) := by decide +kernel
theorem dX4_piece_144 : decode cX4_piece 144 = .ok (.iconst 0, 1) := by decide +kernel
theorem dX4_piece_145 : decode cX4_piece 145 = .ok (.invokevirtual 67, 3) := by decide +kernel
theorem dX4_piece_148 : decode cX4_piece 148 = .ok (.aload_n 0, 1) := by decide +kernel
theorem dX4_piece_149 : decode cX4_piece 149 = .ok (.iload_n 1, 1) := by decide +kernel
theorem dX4_piece_150 : decode cX4_piece 150 = .ok (.iload_n 2, 1) := by decide +kernel
theorem dX4_piece_151 : decode cX4_piece 151 = .ok (.invokevirtual 75, 3) := by decide +kernel
theorem dX4_piece_154 : decode cX4_piece 154 = .ok (.istore 5, 2) := by decide +kernel
theorem dX4_piece_156 : decode cX4_piece 156 = .ok (.iload 4, 2) := by decide +kernel
theorem dX4_piece_158 : decode cX4_piece 158 = .ok (.bipush 60, 2) := by decide +kernel
theorem dX4_piece_160 : decode cX4_piece 160 = .ok (.if_icmp .ne 17, 3) := by decide +kernel
theorem dX4_piece_163 : decode cX4_piece 163 = .ok (.iload_n 3, 1) := by decide +kernel
theorem dX4_piece_164 : decode cX4_piece 164 = .ok (.iload 5, 2) := by decide +kernel
theorem dX4_piece_166 : decode cX4_piece 166 = .ok (.if_icmp .ge 7, 3) := by decide +kernel
theorem dX4_piece_169 : decode cX4_piece 169 = .ok (.iconst 1, 1) := by decide +kernel
theorem dX4_piece_170 : decode cX4_piece 170 = .ok (.goto 39, 3) := by decide +kernel
theorem dX4_piece_173 : decode cX4_piece 173 = .ok (.iconst 0, 1) := by decide +kernel
theorem dX4_piece_174 : decode cX4_piece 174 = .ok (.goto 35, 3) := by decide +kernel
theorem dX4_piece_177 : decode cX4_piece 177 = .ok (.iload 4, 2) := by decide +kernel
theorem dX4_piece_179 : decode cX4_piece 179 = .ok (.bipush 62, 2) := by decide +kernel
theorem dX4_piece_181 : decode cX4_piece 181 = .ok (.if_icmp .ne 17, 3) := by decide +kernel
theorem dX4_piece_184 : decode cX4_piece 184 = .ok (.iload_n 3, 1) := by decide +kernel
theorem dX4_piece_185 : decode cX4_piece 185 = .ok (.iload 5, 2) := by decide +kernel
theorem dX4_piece_187 : decode cX4_piece 187 = .ok (.if_icmp .le 7, 3) := by decide +kernel
theorem dX4_piece_190 : decode cX4_piece 190 = .ok (.iconst 1, 1) := by decide +kernel
theorem dX4_piece_191 : decode cX4_piece 191 = .ok (.goto 18, 3) := by decide +kernel
theorem dX4_piece_194 : decode cX4_piece 194 = .ok (.iconst 0, 1) := by decide +kernel
theorem dX4_piece_195 : decode cX4_piece 195 = .ok (.goto 14, 3) := by decide +kernel
theorem dX4_piece_198 : decode cX4_piece 198 = .ok (.iload_n 3, 1) := by decide +kernel
theorem dX4_piece_199 : decode cX4_piece 199 = .ok (.iload 5, 2) := by decide +kernel
theorem dX4_piece_201 : decode cX4_piece 201 = .ok (.if_icmp .ne 7, 3) := by decide +kernel
theorem dX4_piece_204 : decode cX4_piece 204 = .ok (.iconst 1, 1) := by decide +kernel
theorem dX4_piece_205 : decode cX4_piece 205 = .ok (.goto 4, 3) := by decide +kernel
theorem dX4_piece_208 : decode cX4_piece 208 = .ok (.iconst 0, 1) := by decide +kernel
theorem dX4_piece_209 : decode cX4_piece 209 = .ok (.ireturn, 1) := by decide +kernel
theorem dX4_sum_0 : decode cX4_sum 0 = .ok (.aload_n 0, 1) := by decide +kernel
theorem dX4_sum_1 : decode cX4_sum 1 = .ok (.iload_n 1, 1) := by decide +kernel
theorem dX4_sum_2 : decode cX4_sum 2 = .ok (.iload_n 2, 1) := by decide +kernel
theorem dX4_sum_3 : decode cX4_sum 3 = .ok (.invokevirtual 99, 3) := by decide +kernel
theorem dX4_sum_6 : decode cX4_sum 6 = .ok (.istore_n 3, 1) := by decide +kernel
theorem dX4_sum_7 : decode cX4_sum 7 = .ok (.iconst 0, 1) := by decide +kernel
theorem dX4_sum_8 : decode cX4_sum 8 = .ok (.istore 4, 2) := by decide +kernel
theorem dX4_sum_10 : decode cX4_sum 10 = .ok (.iload 4, 2) := by decide +kernel
theorem dX4_sum_12 : decode cX4_sum 12 = .ok (.sipush 200, 3) := by decide +kernel
theorem dX4_sum_15 : decode cX4_sum 15 = .ok (.if_icmp .ge 73, 3) := by decide +kernel
theorem dX4_sum_18 : decode cX4_sum 18 = .ok (.aload_n 0, 1) := by decide +kernel
theorem dX4_sum_19 : decode cX4_sum 19 = .ok (.getfield 64, 3) := by decide +kernel
theorem dX4_sum_22 : decode cX4_sum 22 = .ok (.bipush 43, 2) := by decide +kernel
theorem dX4_sum_24 : decode cX4_sum 24 = .ok (.if_icmp .eq 12, 3) := by decide +kernel
theorem dX4_sum_27 : decode cX4_sum 27 = .ok (.aload_n 0, 1) := by decide +kernel
theorem dX4_sum_28 : decode cX4_sum 28 = .ok (.getfield 64, 3) := by decide +kernel
theorem dX4_sum_31 : decode cX4_sum 31 = .ok (.bipush 45, 2) := by decide +kernel
theorem dX4_sum_33 : decode cX4_sum 33 = .ok (.if_icmp .ne 55, 3) := by decide +kernel
theorem dX4_sum_36 : decode cX4_sum 36 = .ok (.aload_n 0, 1) := by decide +kernel
theorem dX4_sum_37 : decode cX4_sum 37 = .ok (.getfield 64, 3) := by decide +kernel
theorem dX4_sum_40 : decode cX4_sum 40 = .ok (.bipush 43, 2) := by decide +kernel
theorem dX4_sum_42 : decode cX4_sum 42 = .ok (.if_icmp .ne 7, 3) := by decide +kernel
theorem dX4_sum_45 : decode cX4_sum 45 = .ok (.iconst 1, 1) := by decide +kernel
theorem dX4_sum_46 : decode cX4_sum 46 = .ok (.goto 4, 3) := by decide +kernel
theorem dX4_sum_49 : decode cX4_sum 49 = .ok (.iconst 0, 1) := by decide +kernel
theorem dX4_sum_50 : decode cX4_sum 50 = .ok (.istore 5, 2) := by decide +kernel
theorem dX4_sum_52 : decode cX4_sum 52 = .ok (.aload_n 0, 1) := by decide +kernel
theorem dX4_sum_53 : decode cX4_sum 53 = .ok (.iconst 1, 1) := by decide +kernel
theorem dX4_sum_54 : decode cX4_sum 54 = .ok (.invokevirtual 67, 3) := by decide +kernel
theorem dX4_sum_57 : decode cX4_sum 57 = .ok (.aload_n 0, 1) := by decide +kernel
theorem dX4_sum_58 : decode cX4_sum 58 = .ok (.iload_n 1, 1) := by decide +kernel
theorem dX4_sum_59 : decode cX4_sum 59 = .ok (.iload_n 2, 1) := by decide +kernel
theorem dX4_sum_60 : decode cX4_sum 60 = .ok (.invokevirtual 99, 3) := by decide +kernel
theorem dX4_sum_63 : decode cX4_sum 63 = .ok (.istore 6, 2) := by decide +kernel
theorem dX4_sum_65 : decode cX4_sum 65 = .ok (.iload 5, 2) := by decide +kernel
theorem dX4_sum_67 : decode cX4_sum 67 = .ok (.ifCond .eq 10, 3) := by decide +kernel
theorem dX4_sum_70 : decode cX4_sum 70 = .ok (.iload_n 3, 1) := by decide +kernel
theorem dX4_sum_71 : decode cX4_sum 71 = .ok (.iload 6, 2) := by decide +kernel
theorem dX4_sum_73 : decode cX4_sum 73 = .ok (.iadd, 1) := by decide +kernel
theorem dX4_sum_74 : decode cX4_sum 74 = .ok (.goto 7, 3) := by decide +kernel
theorem dX4_sum_77 : decode cX4_sum 77 = .ok (.iload_n 3, 1) := by decide +kernel
theorem dX4_sum_78 : decode cX4_sum 78 = .ok (.iload 6, 2) := by decide +kernel
theorem dX4_sum_80 : decode cX4_sum 80 = .ok (.isub, 1) := by decide +kernel
theorem dX4_sum_81 : decode cX4_sum 81 = .ok (.istore_n 3, 1) := by decide +kernel
theorem dX4_sum_82 : decode cX4_sum 82 = .ok (.iinc 4 1, 3) := by decide +kernel
theorem dX4_sum_85 : decode cX4_sum 85 = .ok (.goto (-75), 3) := by decide +kernel
theorem dX4_sum_88 : decode cX4_sum 88 = .ok (.iload_n 3, 1) := by decide +kernel
theorem dX4_sum_89 : decode cX4_sum 89 = .ok (.ireturn, 1) := by decide +kernel
theorem dX4_product_0 : decode cX4_product 0 = .ok (.aload_n 0, 1) := by decide +kernel
theorem dX4_product_1 : decode cX4_product 1 = .ok (.iload_n 1, 1) := by decide +kernel
theorem dX4_product_2 : decode cX4_product 2 = .ok (.iload_n 2, 1) := by decide +kernel
theorem dX4_product_3 : decode cX4_product 3 = .ok (.invokevirtual 102, 3) := by decide +kernel
theorem dX4_product_6 : decode cX4_product 6 = .ok (.istore_n 3, 1) := by decide +kernel
theorem dX4_product_7 : decode cX4_product 7 = .ok (.iconst 0, 1) := by decide +kernel
theorem dX4_product_8 : decode cX4_product 8 = .ok (.istore 4, 2) := by decide +kernel
theorem dX4_product_10 : decode cX4_product 10 = .ok (.iload 4, 2) := by decide +kernel
theorem dX4_product_12 : decode cX4_product 12 = .ok (.sipush 200, 3) := by decide +kernel
theorem dX4_product_15 : decode cX4_product 15 = .ok (.if_icmp .ge 119, 3) := by decide +kernel
theorem dX4_product_18 : decode cX4_product 18 = .ok (.aload_n 0, 1) := by decide +kernel
theorem dX4_product_19 : decode cX4_product 19 = .ok (.getfield 64, 3) := by decide +kernel
theorem dX4_product_22 : decode cX4_product 22 = .ok (.bipush 42, 2) := by decide +kernel
theorem dX4_product_24 : decode cX4_product 24 = .ok (.if_icmp .eq 21, 3) := by decide +kernel
theorem dX4_product_27 : decode cX4_product 27 = .ok (.aload_n 0, 1) := by decide +kernel
theorem dX4_product_28 : decode cX4_product 28 = .ok (.getfield 64, 3) := by decide +kernel
theorem dX4_product_31 : decode cX4_product 31 = .ok (.bipush 47, 2) := by decide +kernel
theorem dX4_product_33 : decode cX4_product 33 = .ok (.if_icmp .eq 12, 3) := by decide +kernel
theorem dX4_product_36 : decode cX4_product 36 = .ok (.aload_n 0, 1) := by decide +kernel
theorem dX4_product_37 : decode cX4_product 37 = .ok (.getfield 64, 3) := by decide +kernel
theorem dX4_product_40 : decode cX4_product 40 = .ok (.bipush 37, 2) := by decide +kernel
theorem dX4_product_42 : decode cX4_product 42 = .ok (.if_icmp .ne 92, 3) := by decide +kernel
theorem dX4_product_45 : decode cX4_product 45 = .ok (.aload_n 0, 1) := by decide +kernel
theorem dX4_product_46 : decode cX4_product 46 = .ok (.getfield 64, 3) := by decide +kernel
theorem dX4_product_49 : decode cX4_product 49 = .ok (.istore 5, 2) := by decide +kernel
theorem dX4_product_51 : decode cX4_product 51 = .ok (.aload_n 0, 1) := by decide +kernel
theorem dX4_product_52 : decode cX4_product 52 = .ok (.iconst 1, 1) := by decide +kernel
theorem dX4_product_53 : decode cX4_product 53 = .ok (.invokevirtual 67, 3) := by decide +kernel
theorem dX4_product_56 : decode cX4_product 56 = .ok (.aload_n 0, 1) := by decide +kernel
theorem dX4_product_57 : decode cX4_product 57 = .ok (.iload_n 1, 1) := by decide +kernel
theorem dX4_product_58 : decode cX4_product 58 = .ok (.iload_n 2, 1) := by decide +kernel
theorem dX4_product_59 : decode cX4_product 59 = .ok (.invokevirtual 102, 3) := by decide +kernel
theorem dX4_product_62 : decode cX4_product 62 = .ok (.istore 6, 2) := by decide +kernel
theorem dX4_product_64 : decode cX4_product 64 = .ok (.iload 5, 2) := by decide +kernel
theorem dX4_product_66 : decode cX4_product 66 = .ok (.bipush 42, 2) := by decide +kernel
theorem dX4_product_68 : decode cX4_product 68 = .ok (.if_icmp .ne 11, 3) := by decide +kernel
theorem dX4_product_71 : decode cX4_product 71 = .ok (.iload_n 3, 1) := by decide +kernel
theorem dX4_product_72 : decode cX4_product 72 = .ok (.iload 6, 2) := by decide +kernel
theorem dX4_product_74 : decode cX4_product 74 = .ok (.imul, 1) := by decide +kernel
theorem dX4_product_75 : decode cX4_product 75 = .ok (.istore_n 3, 1) := by decide +kernel
theorem dX4_product_76 : decode cX4_product 76 = .ok (.goto 52, 3) := by decide +kernel
theorem dX4_product_79 : decode cX4_product 79 = .ok (.iload 6, 2) := by decide +kernel
theorem dX4_product_81 : decode cX4_product 81 = .ok (.ifCond .ne 28, 3) := by decide +kernel
theorem dX4_product_84 : decode cX4_product 84 = .ok (.aload_n 0, 1) := by decide +kernel
theorem dX4_product_85 : decode cX4_product 85 = .ok (.aload_n 0, 1) := by decide +kernel
theorem dX4_product_86 : decode cX4_product 86 = .ok (.getfield 71, 3) := by decide +kernel
theorem dX4_product_89 : decode cX4_product 89 = .ok (.ifCond .ne 7, 3) := by decide +kernel
theorem dX4_product_92 : decode cX4_product 92 = .ok (.iload_n 2, 1) := by decide +kernel
theorem dX4_product_93 : decode cX4_product 93 = .ok (.ifCond .eq 7, 3) := by decide +kernel
theorem dX4_product_96 : decode cX4_product 96 = .ok (.iconst 1, 1) := by decide +kernel
theorem dX4_product_97 : decode cX4_product 97 = .ok (.goto 4, 3) := by decide +kernel
theorem dX4_product_100 : decode cX4_product 100 = .ok (.iconst 0, 1) := by decide +kernel
theorem dX4_product_101 : decode cX4_product 101 = .ok (.putfield 71, 3) := by decide +kernel
theorem dX4_product_104 : decode cX4_product 104 = .ok (.iconst 0, 1) := by decide +kernel
theorem dX4_product_105 : decode cX4_product 105 = .ok (.istore_n 3, 1) := by decide +kernel
theorem dX4_product_106 : decode cX4_product 106 = .ok (.goto 22, 3) := by decide +kernel
theorem dX4_product_109 : decode cX4_product 109 = .ok (.iload 5, 2) := by decide +kernel
theorem dX4_product_111 : decode cX4_product 111 = .ok (.bipush 47, 2) := by decide +kernel
theorem dX4_product_113 : decode cX4_product 113 = .ok (.if_icmp .ne 10, 3) := by decide +kernel
theorem dX4_product_116 : decode cX4_product 116 = .ok (.iload_n 3, 1) := by decide +kernel
theorem dX4_product_117 : decode cX4_product 117 = .ok (.iload 6, 2) := by decide +kernel
theorem dX4_product_119 : decode cX4_product 119 = .ok (.idiv, 1) := by decide +kernel
theorem dX4_product_120 : decode cX4_product 120 = .ok (.goto 7, 3) := by decide +kernel
theorem dX4_product_123 : decode cX4_product 123 = .ok (.iload_n 3, 1) := by decide +kernel
theorem dX4_product_124 : decode cX4_product 124 = .ok (.iload 6, 2) := by decide +kernel
theorem dX4_product_126 : decode cX4_product 126 = .ok (.irem, 1) := by decide +kernel
theorem dX4_product_127 : decode cX4_product 127 = .ok (.istore_n 3, 1) := by decide +kernel
theorem dX4_product_128 : decode cX4_product 128 = .ok (.iinc 4 1, 3) := by decide +kernel
theorem dX4_product_131 : decode cX4_product 131 = .ok (.goto (-121), 3) := by decide +kernel
theorem dX4_product_134 : decode cX4_product 134 = .ok (.iload_n 3, 1) := by decide +kernel
theorem dX4_product_135 : decode cX4_product 135 = .ok (.ireturn, 1) := by decide +kernel
theorem dX4_factor_0 : decode cX4_factor 0 = .ok (.aload_n 0, 1) := by decide +kernel
theorem dX4_factor_1 : decode cX4_factor 1 = .ok (.getfield 64, 3) := by decide +kernel
theorem dX4_factor_4 : decode cX4_factor 4 = .ok (.bipush 48, 2) := by decide +kernel
theorem dX4_factor_6 : decode cX4_factor 6 = .ok (.if_icmp .lt 90, 3) := by decide +kernel
theorem dX4_factor_9 : decode cX4_factor 9 = .ok (.aload_n 0, 1) := by decide +kernel
theorem dX4_factor_10 : decode cX4_factor 10 = .ok (.getfield 64, 3) := by decide +kernel
theorem dX4_factor_13 : decode cX4_factor 13 = .ok (.bipush 57, 2) := by decide +kernel
theorem dX4_factor_15 : decode cX4_factor 15 = .ok (.if_icmp .gt 81, 3) := by decide +kernel
theorem dX4_factor_18 : decode cX4_factor 18 = .ok (.iconst 0, 1) := by decide +kernel
theorem dX4_factor_19 : decode cX4_factor 19 = .ok (.istore_n 3, 1) := by decide +kernel
theorem dX4_factor_20 : decode cX4_factor 20 = .ok (.iconst 0, 1) := by decide +kernel
theorem dX4_factor_21 : decode cX4_factor 21 = .ok (.istore 4, 2) := by decide +kernel
theorem dX4_factor_23 : decode cX4_factor 23 = .ok (.iload 4, 2) := by decide +kernel
theorem dX4_factor_25 : decode cX4_factor 25 = .ok (.iconst 5, 1) := by decide +kernel
theorem dX4_factor_26 : decode cX4_factor 26 = .ok (.if_icmp .ge 45, 3) := by decide +kernel
theorem dX4_factor_29 : decode cX4_factor 29 = .ok (.aload_n 0, 1) := by decide +kernel
theorem dX4_factor_30 : decode cX4_factor 30 = .ok (.getfield 64, 3) := by decide +kernel
theorem dX4_factor_33 : decode cX4_factor 33 = .ok (.bipush 48, 2) := by decide +kernel
theorem dX4_factor_35 : decode cX4_factor 35 = .ok (.if_icmp .lt 36, 3) := by decide +kernel
theorem dX4_factor_38 : decode cX4_factor 38 = .ok (.aload_n 0, 1) := by decide +kernel
theorem dX4_factor_39 : decode cX4_factor 39 = .ok (.getfield 64, 3) := by decide +kernel
theorem dX4_factor_42 : decode cX4_factor 42 = .ok (.bipush 57, 2) := by decide +kernel
theorem dX4_factor_44 : decode cX4_factor 44 = .ok (.if_icmp .gt 27, 3) := by decide +kernel
theorem dX4_factor_47 : decode cX4_factor 47 = .ok (.bipush 10, 2) := by decide +kernel
theorem dX4_factor_49 : decode cX4_factor 49 = .ok (.iload_n 3, 1) := by decide +kernel
theorem dX4_factor_50 : decode cX4_factor 50 = .ok (.imul, 1) := by decide +kernel
theorem dX4_factor_51 : decode cX4_factor 51 = .ok (.aload_n 0, 1) := by decide +kernel
theorem dX4_factor_52 : decode cX4_factor 52 = .ok (.getfield 64, 3) := by decide +kernel
theorem dX4_factor_55 : decode cX4_factor 55 = .ok (.iadd, 1) := by decide +kernel
theorem dX4_factor_56 : decode cX4_factor 56 = .ok (.bipush 48, 2) := by decide +kernel
theorem dX4_factor_58 : decode cX4_factor 58 = .ok (.isub, 1) := by decide +kernel
theorem dX4_factor_59 : decode cX4_factor 59 = .ok (.istore_n 3, 1) := by decide +kernel
theorem dX4_factor_60 : decode cX4_factor 60 = .ok (.aload_n 0, 1) := by decide +kernel
theorem dX4_factor_61 : decode cX4_factor 61 = .ok (.iconst 1, 1) := by decide +kernel
theorem dX4_factor_62 : decode cX4_factor 62 = .ok (.invokevirtual 67, 3) := by decide +kernel
theorem dX4_factor_65 : decode cX4_factor 65 = .ok (.iinc 4 1, 3) := by decide +kernel
theorem dX4_factor_68 : decode cX4_factor 68 = .ok (.goto (-45), 3) := by decide +kernel
theorem dX4_factor_71 : decode cX4_factor 71 = .ok (.aload_n 0, 1) := by decide +kernel
theorem dX4_factor_72 : decode cX4_factor 72 = .ok (.getfield 64, 3) := by decide +kernel
theorem dX4_factor_75 : decode cX4_factor 75 = .ok (.bipush 48, 2) := by decide +kernel
theorem dX4_factor_77 : decode cX4_factor 77 = .ok (.if_icmp .lt 17, 3) := by decide +kernel
theorem dX4_factor_80 : decode cX4_factor 80 = .ok (.aload_n 0, 1) := by decide +kernel
theorem dX4_factor_81 : decode cX4_factor 81 = .ok (.getfield 64, 3) := by decide +kernel
theorem dX4_factor_84 : decode cX4_factor 84 = .ok (.bipush 57, 2) := by decide +kernel
theorem dX4_factor_86 : decode cX4_factor 86 = .ok (.if_icmp .gt 8, 3) := by decide +kernel
theorem dX4_factor_89 : decode cX4_factor 89 = .ok (.aload_n 0, 1) := by decide +kernel
theorem dX4_factor_90 : decode cX4_factor 90 = .ok (.iconst 2, 1) := by decide +kernel
theorem dX4_factor_91 : decode cX4_factor 91 = .ok (.invokevirtual 90, 3) := by decide +kernel
theorem dX4_factor_94 : decode cX4_factor 94 = .ok (.iload_n 3, 1) := by decide +kernel
theorem dX4_factor_95 : decode cX4_factor 95 = .ok (.ireturn, 1) := by decide +kernel
theorem dX4_factor_96 : decode cX4_factor 96 = .ok (.aload_n 0, 1) := by decide +kernel
theorem dX4_factor_97 : decode cX4_factor 97 = .ok (.getfield 64, 3) := by decide +kernel
theorem dX4_factor_100 : decode cX4_factor 100 = .ok (.bipush 91, 2) := by decide +kernel
theorem dX4_factor_102 : decode cX4_factor 102 = .ok (.if_icmp .ne 16, 3) := by decide +kernel
theorem dX4_factor_105 : decode cX4_factor 105 = .ok (.iload_n 1, 1) := by decide +kernel
theorem dX4_factor_106 : decode cX4_factor 106 = .ok (.bipush 6, 2) := by decide +kernel
theorem dX4_factor_108 : decode cX4_factor 108 = .ok (.if_icmp .lt 10, 3) := by decide +kernel
theorem dX4_factor_111 : decode cX4_factor 111 = .ok (.aload_n 0, 1) := by decide +kernel
theorem dX4_factor_112 : decode cX4_factor 112 = .ok (.iconst 5, 1) := by decide +kernel
theorem dX4_factor_113 : decode cX4_factor 113 = .ok (.invokevirtual 90, 3) := by decide +kernel
theorem dX4_factor_116 : decode cX4_factor 116 = .ok (.iconst 0, 1) := by decide +kernel
theorem dX4_factor_117 : decode cX4_factor 117 = .ok (.ireturn, 1) := by decide +kernel
theorem dX4_factor_118 : decode cX4_factor 118 = .ok (.aload_n 0, 1) := by decide +kernel
theorem dX4_factor_119 : decode cX4_factor 119 = .ok (.getfield 64, 3) := by decide +kernel
theorem dX4_factor_122 : decode cX4_factor 122 = .ok (.bipush 91, 2) := by decide +kernel
theorem dX4_factor_124 : decode cX4_factor 124 = .ok (.if_icmp .ne 37, 3) := by decide +kernel
theorem dX4_factor_127 : decode cX4_factor 127 = .ok (.aload_n 0, 1) := by decide +kernel
theorem dX4_factor_128 : decode cX4_factor 128 = .ok (.iconst 1, 1) := by decide +kernel
theorem dX4_factor_129 : decode cX4_factor 129 = .ok (.invokevirtual 67, 3) := by decide +kernel
theorem dX4_factor_132 : decode cX4_factor 132 = .ok (.aload_n 0, 1) := by decide +kernel
theorem dX4_factor_133 : decode cX4_factor 133 = .ok (.iload_n 1, 1) := by decide +kernel
theorem dX4_factor_134 : decode cX4_factor 134 = .ok (.iconst 1, 1) := by decide +kernel
theorem dX4_factor_135 : decode cX4_factor 135 = .ok (.iadd, 1) := by decide +kernel
theorem dX4_factor_136 : decode cX4_factor 136 = .ok (.iload_n 2, 1) := by decide +kernel
theorem dX4_factor_137 : decode cX4_factor 137 = .ok (.invokevirtual 75, 3) := by decide +kernel
theorem dX4_factor_140 : decode cX4_factor 140 = .ok (.istore_n 3, 1) := by decide +kernel
theorem dX4_factor_141 : decode cX4_factor 141 = .ok (.aload_n 0, 1) := by decide +kernel
theorem dX4_factor_142 : decode cX4_factor 142 = .ok (.aload_n 0, 1) := by decide +kernel
theorem dX4_factor_143 : decode cX4_factor 143 = .ok (.getfield 64, 3) := by decide +kernel
theorem dX4_factor_146 : decode cX4_factor 146 = .ok (.bipush 93, 2) := by decide +kernel
theorem dX4_factor_148 : decode cX4_factor 148 = .ok (.if_icmp .ne 7, 3) := by decide +kernel
theorem dX4_factor_151 : decode cX4_factor 151 = .ok (.iconst 1, 1) := by decide +kernel
theorem dX4_factor_152 : decode cX4_factor 152 = .ok (.goto 4, 3) := by decide +kernel
theorem dX4_factor_155 : decode cX4_factor 155 = .ok (.iconst 0, 1) := by decide +kernel
theorem dX4_factor_156 : decode cX4_factor 156 = .ok (.invokevirtual 67, 3) := by decide +kernel
theorem dX4_factor_159 : decode cX4_factor 159 = .ok (.iload_n 3, 1) := by decide +kernel
theorem dX4_factor_160 : decode cX4_factor 160 = .ok (.ireturn, 1) := by decide +kernel
theorem dX4_factor_161 : decode cX4_factor 161 = .ok (.iconst (-1), 1) := by decide +kernel
theorem dX4_factor_162 : decode cX4_factor 162 = .ok (.istore_n 3, 1) := by decide +kernel
theorem dX4_factor_163 : decode cX4_factor 163 = .ok (.iconst 0, 1) := by decide +kernel
theorem dX4_factor_164 : decode cX4_factor 164 = .ok (.istore 4, 2) := by decide +kernel
theorem dX4_factor_166 : decode cX4_factor 166 = .ok (.iload 4, 2) := by decide +kernel
theorem dX4_factor_168 : decode cX4_factor 168 = .ok (.getstatic 9, 3) := by decide +kernel
theorem dX4_factor_171 : decode cX4_factor 171 = .ok (.arraylength, 1) := by decide +kernel
theorem dX4_factor_172 : decode cX4_factor 172 = .ok (.if_icmp .ge 29, 3) := by decide +kernel
theorem dX4_factor_175 : decode cX4_factor 175 = .ok (.getstatic 9, 3) := by decide +kernel
theorem dX4_factor_178 : decode cX4_factor 178 = .ok (.iload 4, 2) := by decide +kernel
theorem dX4_factor_180 : decode cX4_factor 180 = .ok (.caload, 1) := by decide +kernel
theorem dX4_factor_181 : decode cX4_factor 181 = .ok (.aload_n 0, 1) := by decide +kernel
theorem dX4_factor_182 : decode cX4_factor 182 = .ok (.getfield 64, 3) := by decide +kernel
theorem dX4_factor_185 : decode cX4_factor 185 = .ok (.if_icmp .ne 8, 3) := by decide +kernel
theorem dX4_factor_188 : decode cX4_factor 188 = .ok (.iload 4, 2) := by decide +kernel
theorem dX4_factor_190 : decode cX4_factor 190 = .ok (.goto 4, 3) := by decide +kernel
theorem dX4_factor_193 : decode cX4_factor 193 = .ok (.iload_n 3, 1) := by decide +kernel
theorem dX4_factor_194 : decode cX4_factor 194 = .ok (.istore_n 3, 1) := by decide +kernel
theorem dX4_factor_195 : decode cX4_factor 195 = .ok (.iinc 4 1, 3) := by decide +kernel
theorem dX4_factor_198 : decode cX4_factor 198 = .ok (.goto (-32), 3) := by decide +kernel
theorem dX4_factor_201 : decode cX4_factor 201 = .ok (.aload_n 0, 1) := by decide +kernel
theorem dX4_factor_202 : decode cX4_factor 202 = .ok (.iload_n 3, 1) := by decide +kernel
theorem dX4_factor_203 : decode cX4_factor 203 = .ok (.iconst (-1), 1) := by decide +kernel
theorem dX4_factor_204 : decode cX4_factor 204 = .ok (.if_icmp .eq 7, 3) := by decide +kernel
theorem dX4_factor_207 : decode cX4_factor 207 = .ok (.iconst 1, 1) := by decide +kernel
theorem dX4_factor_208 : decode cX4_factor 208 = .ok (.goto 4, 3) := by decide +kernel
theorem dX4_factor_211 : decode cX4_factor 211 = .ok (.iconst 0, 1) := by decide +kernel
theorem dX4_factor_212 : decode cX4_factor 212 = .ok (.invokevirtual 67, 3) := by decide +kernel
theorem dX4_factor_215 : decode cX4_factor 215 = .ok (.iload_n 3, 1) := by decide +kernel
theorem dX4_factor_216 : decode cX4_factor 216 = .ok (.ifCond .lt 21, 3) := by decide +kernel
theorem dX4_factor_219 : decode cX4_factor 219 = .ok (.iload_n 3, 1) := by decide +kernel
theorem dX4_factor_220 : decode cX4_factor 220 = .ok (.aload_n 0, 1) := by decide +kernel
theorem dX4_factor_221 : decode cX4_factor 221 = .ok (.getfield 15, 3) := by decide +kernel
theorem dX4_factor_224 : decode cX4_factor 224 = .ok (.arraylength, 1) := by decide +kernel
theorem dX4_factor_225 : decode cX4_factor 225 = .ok (.if_icmp .ge 12, 3) := by decide +kernel
theorem dX4_factor_228 : decode cX4_factor 228 = .ok (.aload_n 0, 1) := by decide +kernel
theorem dX4_factor_229 : decode cX4_factor 229 = .ok (.getfield 15, 3) := by decide +kernel
theorem dX4_factor_232 : decode cX4_factor 232 = .ok (.iload_n 3, 1) := by decide +kernel
theorem dX4_factor_233 : decode cX4_factor 233 = .ok (.iaload, 1) := by decide +kernel
theorem dX4_factor_234 : decode cX4_factor 234 = .ok (.goto 4, 3) := by decide +kernel
theorem dX4_factor_237 : decode cX4_factor 237 = .ok (.iconst 0, 1) := by decide +kernel
theorem dX4_factor_238 : decode cX4_factor 238 = .ok (.ireturn, 1) := by decide +kernel
theorem dX5_init_0 : decode cX5_init 0 = .ok (.aload_n 0, 1) := by decide +kernel
theorem dX5_init_1 : decode cX5_init 1 = .ok (.invokespecial 3, 3) := by decide +kernel
theorem dX5_init_4 : decode cX5_init 4 = .ok (.aload_n 0, 1) := by decide +kernel
theorem dX5_init_5 : decode cX5_init 5 = .ok (.bipush 120, 2) := by decide +kernel
theorem dX5_init_7 : decode cX5_init 7 = .ok (.newarray .int, 2) := by decide +kernel
theorem dX5_init_9 : decode cX5_init 9 = .ok (.putfield 9, 3) := by decide +kernel
theorem dX5_init_12 : decode cX5_init 12 = .ok (.return_, 1) := by decide +kernel
theorem dX5_fall_0 : decode cX5_fall 0 = .ok (.aload_n 0, 1) := by decide +kernel
theorem dX5_fall_1 : decode cX5_fall 1 = .ok (.iconst 0, 1) := by decide +kernel
theorem dX5_fall_2 : decode cX5_fall 2 = .ok (.putfield 15, 3) := by decide +kernel
theorem dX5_fall_5 : decode cX5_fall 5 = .ok (.return_, 1) := by decide +kernel
theorem dX5_has_0 : decode cX5_has 0 = .ok (.iload_n 1, 1) := by decide +kernel
theorem dX5_has_1 : decode cX5_has 1 = .ok (.ifCond .lt 21, 3) := by decide +kernel
theorem dX5_has_4 : decode cX5_has 4 = .ok (.iload_n 1, 1) := by decide +kernel
theorem dX5_has_5 : decode cX5_has 5 = .ok (.aload_n 0, 1) := by decide +kernel
theorem dX5_has_6 : decode cX5_has 6 = .ok (.getfield 15, 3) := by decide +kernel
theorem dX5_has_9 : decode cX5_has 9 = .ok (.if_icmp .ge 13, 3) := by decide +kernel
theorem dX5_has_12 : decode cX5_has 12 = .ok (.iload_n 1, 1) := by decide +kernel
theorem dX5_has_13 : decode cX5_has 13 = .ok (.bipush 40, 2) := by decide +kernel
theorem dX5_has_15 : decode cX5_has 15 = .ok (.if_icmp .ge 7, 3) := by decide +kernel
theorem dX5_has_18 : decode cX5_has 18 = .ok (.iconst 1, 1) := by decide +kernel
theorem dX5_has_19 : decode cX5_has 19 = .ok (.goto 4, 3) := by decide +kernel
theorem dX5_has_22 : decode cX5_has 22 = .ok (.iconst 0, 1) := by decide +kernel
theorem dX5_has_23 : decode cX5_has 23 = .ok (.ireturn, 1) := by decide +kernel
theorem dX5_entry_0 : decode cX5_entry 0 = .ok (.aload_n 0, 1) := by decide +kernel
theorem dX5_entry_1 : decode cX5_entry 1 = .ok (.iload_n 1, 1) := by decide +kernel
theorem dX5_entry_2 : decode cX5_entry 2 = .ok (.invokevirtual 19, 3) := by decide +kernel
theorem dX5_entry_5 : decode cX5_entry 5 = .ok (.ifCond .eq 25, 3) := by decide +kernel
theorem dX5_entry_8 : decode cX5_entry 8 = .ok (.iload_n 2, 1) := by decide +kernel
theorem dX5_entry_9 : decode cX5_entry 9 = .ok (.iconst 0, 1) := by decide +kernel
theorem dX5_entry_10 : decode cX5_entry 10 = .ok (.iconst 2, 1) := by decide +kernel
theorem dX5_entry_11 : decode cX5_entry 11 = .ok (.invokestatic 23, 3) := by decide +kernel
theorem dX5_entry_14 : decode cX5_entry 14 = .ok (.ifCond .eq 16, 3) := by decide +kernel
theorem dX5_entry_17 : decode cX5_entry 17 = .ok (.aload_n 0, 1) := by decide +kernel
theorem dX5_entry_18 : decode cX5_entry 18 = .ok (.getfield 9, 3) := by decide +kernel
theorem dX5_entry_21 : decode cX5_entry 21 = .ok (.iconst 3, 1) := by decide +kernel
theorem dX5_entry_22 : decode cX5_entry 22 = .ok (.iload_n 1, 1) := by decide +kernel
theorem dX5_entry_23 : decode cX5_entry 23 = .ok (.imul, 1) := by decide +kernel
theorem dX5_entry_24 : decode cX5_entry 24 = .ok (.iload_n 2, 1) := by decide +kernel
theorem dX5_entry_25 : decode cX5_entry 25 = .ok (.iadd, 1) := by decide +kernel
theorem dX5_entry_26 : decode cX5_entry 26 = .ok (.iaload, 1) := by decide +kernel
theorem dX5_entry_27 : decode cX5_entry 27 = .ok (.goto 4, 3) := by decide +kernel
theorem dX5_entry_30 : decode cX5_entry 30 = .ok (.iconst (-1), 1) := by decide +kernel
theorem dX5_entry_31 : decode cX5_entry 31 = .ok (.ireturn, 1) := by decide +kernel
theorem dX5_add_0 : decode cX5_add 0 = .ok (.aload_n 0, 1) := by decide +kernel
theorem dX5_add_1 : decode cX5_add 1 = .ok (.getfield 15, 3) := by decide +kernel
theorem dX5_add_4 : decode cX5_add 4 = .ok (.ifCond .lt 12, 3) := by decide +kernel
theorem dX5_add_7 : decode cX5_add 7 = .ok (.aload_n 0, 1) := by decide +kernel
theorem dX5_add_8 : decode cX5_add 8 = .ok (.getfield 15, 3) := by decide +kernel
theorem dX5_add_11 : decode cX5_add 11 = .ok (.bipush 40, 2) := by decide +kernel
theorem dX5_add_13 : decode cX5_add 13 = .ok (.if_icmp .lt 4, 3) := by decide +kernel
theorem dX5_add_16 : decode cX5_add 16 = .ok (.return_, 1) := by decide +kernel
theorem dX5_add_17 : decode cX5_add 17 = .ok (.aload_n 0, 1) := by decide +kernel
theorem dX5_add_18 : decode cX5_add 18 = .ok (.getfield 9, 3) := by decide +kernel
theorem dX5_add_21 : decode cX5_add 21 = .ok (.iconst 3, 1) := by decide +kernel
theorem dX5_add_22 : decode cX5_add 22 = .ok (.aload_n 0, 1) := by decide +kernel
theorem dX5_add_23 : decode cX5_add 23 = .ok (.getfield 15, 3) := by decide +kernel
theorem dX5_add_26 : decode cX5_add 26 = .ok (.imul, 1) := by decide +kernel
theorem dX5_add_27 : decode cX5_add 27 = .ok (.iload_n 1, 1) := by decide +kernel
theorem dX5_add_28 : decode cX5_add 28 = .ok (.iastore, 1) := by decide +kernel
theorem dX5_add_29 : decode cX5_add 29 = .ok (.aload_n 0, 1) := by decide +kernel
theorem dX5_add_30 : decode cX5_add 30 = .ok (.getfield 9, 3) := by decide +kernel
theorem dX5_add_33 : decode cX5_add 33 = .ok (.iconst 3, 1) := by decide +kernel
theorem dX5_add_34 : decode cX5_add 34 = .ok (.aload_n 0, 1) := by decide +kernel
theorem dX5_add_35 : decode cX5_add 35 = .ok (.getfield 15, 3) := by decide +kernel
theorem dX5_add_38 : decode cX5_add 38 = .ok (.imul, 1) := by decide +kernel
theorem dX5_add_39 : decode cX5_add 39 = .ok (.iconst 1, 1) := by decide +kernel
theorem dX5_add_40 : decode cX5_add 40 = .ok (.iadd, 1) := by decide +kernel
theorem dX5_add_41 : decode cX5_add 41 = .ok (.iload_n 2, 1) := by decide +kernel
theorem dX5_add_42 : decode cX5_add 42 = .ok (.iastore, 1) := by decide +kernel
theorem dX5_add_43 : decode cX5_add 43 = .ok (.aload_n 0, 1) := by decide +kernel
theorem dX5_add_44 : decode cX5_add 44 = .ok (.getfield 9, 3) := by decide +kernel
theorem dX5_add_47 : decode cX5_add 47 = .ok (.iconst 3, 1) := by decide +kernel
theorem dX5_add_48 : decode cX5_add 48 = .ok (.aload_n 0, 1) := by decide +kernel
theorem dX5_add_49 : decode cX5_add 49 = .ok (.getfield 15, 3) := by decide +kernel
theorem dX5_add_52 : decode cX5_add 52 = .ok (.imul, 1) := by decide +kernel
theorem dX5_add_53 : decode cX5_add 53 = .ok (.iconst 2, 1) := by decide +kernel
theorem dX5_add_54 : decode cX5_add 54 = .ok (.iadd, 1) := by decide +kernel
theorem dX5_add_55 : decode cX5_add 55 = .ok (.iload_n 3, 1) := by decide +kernel
theorem dX5_add_56 : decode cX5_add 56 = .ok (.iastore, 1) := by decide +kernel
theorem dX5_add_57 : decode cX5_add 57 = .ok (.aload_n 0, 1) := by decide +kernel
theorem dX5_add_58 : decode cX5_add 58 = .ok (.dup, 1) := by decide +kernel
theorem dX5_add_59 : decode cX5_add 59 = .ok (.getfield 15, 3) := by decide +kernel
theorem dX5_add_62 : decode cX5_add 62 = .ok (.iconst 1, 1) := by decide +kernel
theorem dX5_add_63 : decode cX5_add 63 = .ok (.iadd, 1) := by decide +kernel
theorem dX5_add_64 : decode cX5_add 64 = .ok (.putfield 15, 3) := by decide +kernel
theorem dX5_add_67 : decode cX5_add 67 = .ok (.return_, 1) := by decide +kernel
theorem dX5_lastTick_0 : decode cX5_lastTick 0 = .ok (.aload_n 0, 1) := by decide +kernel
theorem dX5_lastTick_1 : decode cX5_lastTick 1 = .ok (.getfield 15, 3) := by decide +kernel
theorem dX5_lastTick_4 : decode cX5_lastTick 4 = .ok (.ifCond .ne 7, 3) := by decide +kernel
theorem dX5_lastTick_7 : decode cX5_lastTick 7 = .ok (.iconst 0, 1) := by decide +kernel
theorem dX5_lastTick_8 : decode cX5_lastTick 8 = .ok (.goto 14, 3) := by decide +kernel
theorem dX5_lastTick_11 : decode cX5_lastTick 11 = .ok (.aload_n 0, 1) := by decide +kernel
theorem dX5_lastTick_12 : decode cX5_lastTick 12 = .ok (.aload_n 0, 1) := by decide +kernel
theorem dX5_lastTick_13 : decode cX5_lastTick 13 = .ok (.getfield 15, 3) := by decide +kernel
theorem dX5_lastTick_16 : decode cX5_lastTick 16 = .ok (.iconst 1, 1) := by decide +kernel
theorem dX5_lastTick_17 : decode cX5_lastTick 17 = .ok (.isub, 1) := by decide +kernel
theorem dX5_lastTick_18 : decode cX5_lastTick 18 = .ok (.iconst 2, 1) := by decide +kernel
theorem dX5_lastTick_19 : decode cX5_lastTick 19 = .ok (.invokevirtual 27, 3) := by decide +kernel
theorem dX5_lastTick_22 : decode cX5_lastTick 22 = .ok (.ireturn, 1) := by decide +kernel
theorem dX5_tells_0 : decode cX5_tells 0 = .ok (.iconst 0, 1) := by decide +kernel
theorem dX5_tells_1 : decode cX5_tells 1 = .ok (.istore_n 3, 1) := by decide +kernel
theorem dX5_tells_2 : decode cX5_tells 2 = .ok (.iload_n 3, 1) := by decide +kernel
theorem dX5_tells_3 : decode cX5_tells 3 = .ok (.aload_n 0, 1) := by decide +kernel
theorem dX5_tells_4 : decode cX5_tells 4 = .ok (.getfield 15, 3) := by decide +kernel
theorem dX5_tells_7 : decode cX5_tells 7 = .ok (.if_icmp .ge 31, 3) := by decide +kernel
theorem dX5_tells_10 : decode cX5_tells 10 = .ok (.aload_n 0, 1) := by decide +kernel
theorem dX5_tells_11 : decode cX5_tells 11 = .ok (.iload_n 3, 1) := by decide +kernel
theorem dX5_tells_12 : decode cX5_tells 12 = .ok (.iconst 0, 1) := by decide +kernel
theorem dX5_tells_13 : decode cX5_tells 13 = .ok (.invokevirtual 27, 3) := by decide +kernel
theorem dX5_tells_16 : decode cX5_tells 16 = .ok (.iload_n 1, 1) := by decide +kernel
theorem dX5_tells_17 : decode cX5_tells 17 = .ok (.if_icmp .ne 15, 3) := by decide +kernel
theorem dX5_tells_20 : decode cX5_tells 20 = .ok (.aload_n 0, 1) := by decide +kernel
theorem dX5_tells_21 : decode cX5_tells 21 = .ok (.iload_n 3, 1) := by decide +kernel
theorem dX5_tells_22 : decode cX5_tells 22 = .ok (.iconst 1, 1) := by decide +kernel
theorem dX5_tells_23 : decode cX5_tells 23 = .ok (.invokevirtual 27, 3) := by decide +kernel
theorem dX5_tells_26 : decode cX5_tells 26 = .ok (.iload_n 2, 1) := by decide +kernel
theorem dX5_tells_27 : decode cX5_tells 27 = .ok (.if_icmp .ne 5, 3) := by decide +kernel
theorem dX5_tells_30 : decode cX5_tells 30 = .ok (.iconst 1, 1) := by decide +kernel
theorem dX5_tells_31 : decode cX5_tells 31 = .ok (.ireturn, 1) := by decide +kernel
theorem dX5_tells_32 : decode cX5_tells 32 = .ok (.iinc 3 1, 3) := by decide +kernel
theorem dX5_tells_35 : decode cX5_tells 35 = .ok (.goto (-33), 3) := by decide +kernel
theorem dX5_tells_38 : decode cX5_tells 38 = .ok (.iconst 0, 1) := by decide +kernel
theorem dX5_tells_39 : decode cX5_tells 39 = .ok (.ireturn, 1) := by decide +kernel
theorem dX5_goingBefore_0 : decode cX5_goingBefore 0 = .ok (.iconst (-1), 1) := by decide +kernel
theorem dX5_goingBefore_1 : decode cX5_goingBefore 1 = .ok (.istore_n 2, 1) := by decide +kernel
theorem dX5_goingBefore_2 : decode cX5_goingBefore 2 = .ok (.iconst 0, 1) := by decide +kernel
theorem dX5_goingBefore_3 : decode cX5_goingBefore 3 = .ok (.istore_n 3, 1) := by decide +kernel
theorem dX5_goingBefore_4 : decode cX5_goingBefore 4 = .ok (.iload_n 3, 1) := by decide +kernel
theorem dX5_goingBefore_5 : decode cX5_goingBefore 5 = .ok (.iload_n 1, 1) := by decide +kernel
theorem dX5_goingBefore_6 : decode cX5_goingBefore 6 = .ok (.if_icmp .ge 38, 3) := by decide +kernel
theorem dX5_goingBefore_9 : decode cX5_goingBefore 9 = .ok (.iload_n 3, 1) := by decide +kernel
theorem dX5_goingBefore_10 : decode cX5_goingBefore 10 = .ok (.aload_n 0, 1) := by decide +kernel
theorem dX5_goingBefore_11 : decode cX5_goingBefore 11 = .ok (.getfield 15, 3) := by decide +kernel
theorem dX5_goingBefore_14 : decode cX5_goingBefore 14 = .ok (.if_icmp .ge 30, 3) := by decide +kernel
theorem dX5_goingBefore_17 : decode cX5_goingBefore 17 = .ok (.aload_n 0, 1) := by decide +kernel
theorem dX5_goingBefore_18 : decode cX5_goingBefore 18 = .ok (.iload_n 3, 1) := by decide +kernel
theorem dX5_goingBefore_19 : decode cX5_goingBefore 19 = .ok (.iconst 0, 1) := by decide +kernel
theorem dX5_goingBefore_20 : decode cX5_goingBefore 20 = .ok (.invokevirtual 27, 3) := by decide +kernel
theorem dX5_goingBefore_23 : decode cX5_goingBefore 23 = .ok (.aload_n 0, 1) := by decide +kernel
theorem dX5_goingBefore_24 : decode cX5_goingBefore 24 = .ok (.iload_n 1, 1) := by decide +kernel
theorem dX5_goingBefore_25 : decode cX5_goingBefore 25 = .ok (.iconst 0, 1) := by decide +kernel
theorem dX5_goingBefore_26 : decode cX5_goingBefore 26 = .ok (.invokevirtual 27, 3) := by decide +kernel
theorem dX5_goingBefore_29 : decode cX5_goingBefore 29 = .ok (.if_icmp .ne 7, 3) := by decide +kernel
theorem dX5_goingBefore_32 : decode cX5_goingBefore 32 = .ok (.iload_n 3, 1) := by decide +kernel
theorem dX5_goingBefore_33 : decode cX5_goingBefore 33 = .ok (.goto 4, 3) := by decide +kernel
theorem dX5_goingBefore_36 : decode cX5_goingBefore 36 = .ok (.iload_n 2, 1) := by decide +kernel
theorem dX5_goingBefore_37 : decode cX5_goingBefore 37 = .ok (.istore_n 2, 1) := by decide +kernel
theorem dX5_goingBefore_38 : decode cX5_goingBefore 38 = .ok (.iinc 3 1, 3) := by decide +kernel
theorem dX5_goingBefore_41 : decode cX5_goingBefore 41 = .ok (.goto (-37), 3) := by decide +kernel
theorem dX5_goingBefore_44 : decode cX5_goingBefore 44 = .ok (.iload_n 2, 1) := by decide +kernel
theorem dX5_goingBefore_45 : decode cX5_goingBefore 45 = .ok (.ireturn, 1) := by decide +kernel
theorem dX5_seesGoing_0 : decode cX5_seesGoing 0 = .ok (.iconst 0, 1) := by decide +kernel
theorem dX5_seesGoing_1 : decode cX5_seesGoing 1 = .ok (.istore_n 2, 1) := by decide +kernel
theorem dX5_seesGoing_2 : decode cX5_seesGoing 2 = .ok (.iload_n 2, 1) := by decide +kernel
theorem dX5_seesGoing_3 : decode cX5_seesGoing 3 = .ok (.iload_n 1, 1) := by decide +kernel
theorem dX5_seesGoing_4 : decode cX5_seesGoing 4 = .ok (.if_icmp .ge 76, 3) := by decide +kernel
theorem dX5_seesGoing_7 : decode cX5_seesGoing 7 = .ok (.iload_n 2, 1) := by decide +kernel
theorem dX5_seesGoing_8 : decode cX5_seesGoing 8 = .ok (.aload_n 0, 1) := by decide +kernel
theorem dX5_seesGoing_9 : decode cX5_seesGoing 9 = .ok (.getfield 15, 3) := by decide +kernel
theorem dX5_seesGoing_12 : decode cX5_seesGoing 12 = .ok (.if_icmp .ge 68, 3) := by decide +kernel
theorem dX5_seesGoing_15 : decode cX5_seesGoing 15 = .ok (.aload_n 0, 1) := by decide +kernel
theorem dX5_seesGoing_16 : decode cX5_seesGoing 16 = .ok (.iload_n 2, 1) := by decide +kernel
theorem dX5_seesGoing_17 : decode cX5_seesGoing 17 = .ok (.iconst 0, 1) := by decide +kernel
theorem dX5_seesGoing_18 : decode cX5_seesGoing 18 = .ok (.invokevirtual 27, 3) := by decide +kernel
theorem dX5_seesGoing_21 : decode cX5_seesGoing 21 = .ok (.aload_n 0, 1) := by decide +kernel
theorem dX5_seesGoing_22 : decode cX5_seesGoing 22 = .ok (.iload_n 1, 1) := by decide +kernel
theorem dX5_seesGoing_23 : decode cX5_seesGoing 23 = .ok (.iconst 0, 1) := by decide +kernel
theorem dX5_seesGoing_24 : decode cX5_seesGoing 24 = .ok (.invokevirtual 27, 3) := by decide +kernel
theorem dX5_seesGoing_27 : decode cX5_seesGoing 27 = .ok (.if_icmp .eq 22, 3) := by decide +kernel
theorem dX5_seesGoing_30 : decode cX5_seesGoing 30 = .ok (.aload_n 0, 1) := by decide +kernel
theorem dX5_seesGoing_31 : decode cX5_seesGoing 31 = .ok (.iload_n 2, 1) := by decide +kernel
theorem dX5_seesGoing_32 : decode cX5_seesGoing 32 = .ok (.iconst 1, 1) := by decide +kernel
theorem dX5_seesGoing_33 : decode cX5_seesGoing 33 = .ok (.invokevirtual 27, 3) := by decide +kernel
theorem dX5_seesGoing_36 : decode cX5_seesGoing 36 = .ok (.aload_n 0, 1) := by decide +kernel
theorem dX5_seesGoing_37 : decode cX5_seesGoing 37 = .ok (.iload_n 1, 1) := by decide +kernel
theorem dX5_seesGoing_38 : decode cX5_seesGoing 38 = .ok (.iconst 1, 1) := by decide +kernel
theorem dX5_seesGoing_39 : decode cX5_seesGoing 39 = .ok (.invokevirtual 27, 3) := by decide +kernel
theorem dX5_seesGoing_42 : decode cX5_seesGoing 42 = .ok (.if_icmp .ne 7, 3) := by decide +kernel
theorem dX5_seesGoing_45 : decode cX5_seesGoing 45 = .ok (.iconst 1, 1) := by decide +kernel
theorem dX5_seesGoing_46 : decode cX5_seesGoing 46 = .ok (.goto 4, 3) := by decide +kernel
theorem dX5_seesGoing_49 : decode cX5_seesGoing 49 = .ok (.iconst 0, 1) := by decide +kernel
theorem dX5_seesGoing_50 : decode cX5_seesGoing 50 = .ok (.istore_n 3, 1) := by decide +kernel
theorem dX5_seesGoing_51 : decode cX5_seesGoing 51 = .ok (.iload_n 3, 1) := by decide +kernel
theorem dX5_seesGoing_52 : decode cX5_seesGoing 52 = .ok (.ifCond .eq 22, 3) := by decide +kernel
theorem dX5_seesGoing_55 : decode cX5_seesGoing 55 = .ok (.aload_n 0, 1) := by decide +kernel
theorem dX5_seesGoing_56 : decode cX5_seesGoing 56 = .ok (.iload_n 2, 1) := by decide +kernel
theorem dX5_seesGoing_57 : decode cX5_seesGoing 57 = .ok (.iconst 2, 1) := by decide +kernel
theorem dX5_seesGoing_58 : decode cX5_seesGoing 58 = .ok (.invokevirtual 27, 3) := by decide +kernel
theorem dX5_seesGoing_61 : decode cX5_seesGoing 61 = .ok (.aload_n 0, 1) := by decide +kernel
theorem dX5_seesGoing_62 : decode cX5_seesGoing 62 = .ok (.iload_n 1, 1) := by decide +kernel
theorem dX5_seesGoing_63 : decode cX5_seesGoing 63 = .ok (.iconst 2, 1) := by decide +kernel
theorem dX5_seesGoing_64 : decode cX5_seesGoing 64 = .ok (.invokevirtual 27, 3) := by decide +kernel
theorem dX5_seesGoing_67 : decode cX5_seesGoing 67 = .ok (.iconst 2, 1) := by decide +kernel
theorem dX5_seesGoing_68 : decode cX5_seesGoing 68 = .ok (.isub, 1) := by decide +kernel
theorem dX5_seesGoing_69 : decode cX5_seesGoing 69 = .ok (.if_icmp .lt 5, 3) := by decide +kernel
theorem dX5_seesGoing_72 : decode cX5_seesGoing 72 = .ok (.iconst 1, 1) := by decide +kernel
theorem dX5_seesGoing_73 : decode cX5_seesGoing 73 = .ok (.ireturn, 1) := by decide +kernel
theorem dX5_seesGoing_74 : decode cX5_seesGoing 74 = .ok (.iinc 2 1, 3) := by decide +kernel
theorem dX5_seesGoing_77 : decode cX5_seesGoing 77 = .ok (.goto (-75), 3) := by decide +kernel
theorem dX5_seesGoing_80 : decode cX5_seesGoing 80 = .ok (.iconst 0, 1) := by decide +kernel
theorem dX5_seesGoing_81 : decode cX5_seesGoing 81 = .ok (.ireturn, 1) := by decide +kernel
theorem dX5_firstWrong_0 : decode cX5_firstWrong 0 = .ok (.iconst 0, 1) := by decide +kernel
theorem dX5_firstWrong_1 : decode cX5_firstWrong 1 = .ok (.istore_n 3, 1) := by decide +kernel
theorem dX5_firstWrong_2 : decode cX5_firstWrong 2 = .ok (.iload_n 3, 1) := by decide +kernel
theorem dX5_firstWrong_3 : decode cX5_firstWrong 3 = .ok (.iconst 3, 1) := by decide +kernel
theorem dX5_firstWrong_4 : decode cX5_firstWrong 4 = .ok (.iload_n 2, 1) := by decide +kernel
theorem dX5_firstWrong_5 : decode cX5_firstWrong 5 = .ok (.imul, 1) := by decide +kernel
theorem dX5_firstWrong_6 : decode cX5_firstWrong 6 = .ok (.if_icmp .ge 39, 3) := by decide +kernel
theorem dX5_firstWrong_9 : decode cX5_firstWrong 9 = .ok (.aload_n 0, 1) := by decide +kernel
theorem dX5_firstWrong_10 : decode cX5_firstWrong 10 = .ok (.iload_n 3, 1) := by decide +kernel
theorem dX5_firstWrong_11 : decode cX5_firstWrong 11 = .ok (.iconst 3, 1) := by decide +kernel
theorem dX5_firstWrong_12 : decode cX5_firstWrong 12 = .ok (.idiv, 1) := by decide +kernel
theorem dX5_firstWrong_13 : decode cX5_firstWrong 13 = .ok (.invokevirtual 19, 3) := by decide +kernel
theorem dX5_firstWrong_16 : decode cX5_firstWrong 16 = .ok (.ifCond .eq 21, 3) := by decide +kernel
theorem dX5_firstWrong_19 : decode cX5_firstWrong 19 = .ok (.aload_n 1, 1) := by decide +kernel
theorem dX5_firstWrong_20 : decode cX5_firstWrong 20 = .ok (.iload_n 3, 1) := by decide +kernel
theorem dX5_firstWrong_21 : decode cX5_firstWrong 21 = .ok (.invokevirtual 31, 3) := by decide +kernel
theorem dX5_firstWrong_24 : decode cX5_firstWrong 24 = .ok (.aload_n 0, 1) := by decide +kernel
theorem dX5_firstWrong_25 : decode cX5_firstWrong 25 = .ok (.iload_n 3, 1) := by decide +kernel
theorem dX5_firstWrong_26 : decode cX5_firstWrong 26 = .ok (.iconst 3, 1) := by decide +kernel
theorem dX5_firstWrong_27 : decode cX5_firstWrong 27 = .ok (.idiv, 1) := by decide +kernel
theorem dX5_firstWrong_28 : decode cX5_firstWrong 28 = .ok (.iload_n 3, 1) := by decide +kernel
theorem dX5_firstWrong_29 : decode cX5_firstWrong 29 = .ok (.iconst 3, 1) := by decide +kernel
theorem dX5_firstWrong_30 : decode cX5_firstWrong 30 = .ok (.irem, 1) := by decide +kernel
theorem dX5_firstWrong_31 : decode cX5_firstWrong 31 = .ok (.invokevirtual 27, 3) := by decide +kernel
theorem dX5_firstWrong_34 : decode cX5_firstWrong 34 = .ok (.if_icmp .eq 5, 3) := by decide +kernel
theorem dX5_firstWrong_37 : decode cX5_firstWrong 37 = .ok (.iload_n 3, 1) := by decide +kernel
theorem dX5_firstWrong_38 : decode cX5_firstWrong 38 = .ok (.ireturn, 1) := by decide +kernel
theorem dX5_firstWrong_39 : decode cX5_firstWrong 39 = .ok (.iinc 3 1, 3) := by decide +kernel
theorem dX5_firstWrong_42 : decode cX5_firstWrong 42 = .ok (.goto (-40), 3) := by decide +kernel
theorem dX5_firstWrong_45 : decode cX5_firstWrong 45 = .ok (.iload_n 2, 1) := by decide +kernel
theorem dX5_firstWrong_46 : decode cX5_firstWrong 46 = .ok (.aload_n 0, 1) := by decide +kernel
theorem dX5_firstWrong_47 : decode cX5_firstWrong 47 = .ok (.getfield 15, 3) := by decide +kernel
theorem dX5_firstWrong_50 : decode cX5_firstWrong 50 = .ok (.if_icmp .ge 9, 3) := by decide +kernel
theorem dX5_firstWrong_53 : decode cX5_firstWrong 53 = .ok (.iconst 3, 1) := by decide +kernel
theorem dX5_firstWrong_54 : decode cX5_firstWrong 54 = .ok (.iload_n 2, 1) := by decide +kernel
theorem dX5_firstWrong_55 : decode cX5_firstWrong 55 = .ok (.imul, 1) := by decide +kernel
theorem dX5_firstWrong_56 : decode cX5_firstWrong 56 = .ok (.goto 4, 3) := by decide +kernel
theorem dX5_firstWrong_59 : decode cX5_firstWrong 59 = .ok (.iconst (-1), 1) := by decide +kernel
theorem dX5_firstWrong_60 : decode cX5_firstWrong 60 = .ok (.ireturn, 1) := by decide +kernel
theorem dX6_init_0 : decode cX6_init 0 = .ok (.aload_n 0, 1) := by decide +kernel
theorem dX6_init_1 : decode cX6_init 1 = .ok (.invokespecial 3, 3) := by decide +kernel
theorem dX6_init_4 : decode cX6_init 4 = .ok (.aload_n 0, 1) := by decide +kernel
theorem dX6_init_5 : decode cX6_init 5 = .ok (.bipush 25, 2) := by decide +kernel
theorem dX6_init_7 : decode cX6_init 7 = .ok (.newarray .int, 2) := by decide +kernel
theorem dX6_init_9 : decode cX6_init 9 = .ok (.putfield 9, 3) := by decide +kernel
theorem dX6_init_12 : decode cX6_init 12 = .ok (.aload_n 0, 1) := by decide +kernel
theorem dX6_init_13 : decode cX6_init 13 = .ok (.bipush 25, 2) := by decide +kernel
theorem dX6_init_15 : decode cX6_init 15 = .ok (.newarray .int, 2) := by decide +kernel
theorem dX6_init_17 : decode cX6_init 17 = .ok (.putfield 15, 3) := by decide +kernel
theorem dX6_init_20 : decode cX6_init 20 = .ok (.aload_n 0, 1) := by decide +kernel
theorem dX6_init_21 : decode cX6_init 21 = .ok (.iconst 5, 1) := by decide +kernel
theorem dX6_init_22 : decode cX6_init 22 = .ok (.newarray .int, 2) := by decide +kernel
theorem dX6_init_24 : decode cX6_init 24 = .ok (.putfield 18, 3) := by decide +kernel
theorem dX6_init_27 : decode cX6_init 27 = .ok (.aload_n 0, 1) := by decide +kernel
theorem dX6_init_28 : decode cX6_init 28 = .ok (.iconst 5, 1) := by decide +kernel
theorem dX6_init_29 : decode cX6_init 29 = .ok (.newarray .int, 2) := by decide +kernel
theorem dX6_init_31 : decode cX6_init 31 = .ok (.putfield 21, 3) := by decide +kernel
theorem dX6_init_34 : decode cX6_init 34 = .ok (.return_, 1) := by decide +kernel
theorem dX6_fall_0 : decode cX6_fall 0 = .ok (.aload_n 0, 1) := by decide +kernel
theorem dX6_fall_1 : decode cX6_fall 1 = .ok (.iconst 0, 1) := by decide +kernel
theorem dX6_fall_2 : decode cX6_fall 2 = .ok (.putfield 24, 3) := by decide +kernel
theorem dX6_fall_5 : decode cX6_fall 5 = .ok (.return_, 1) := by decide +kernel
theorem dX6_add_0 : decode cX6_add 0 = .ok (.aload_n 0, 1) := by decide +kernel
theorem dX6_add_1 : decode cX6_add 1 = .ok (.iconst 0, 1) := by decide +kernel
theorem dX6_add_2 : decode cX6_add 2 = .ok (.iconst 5, 1) := by decide +kernel
theorem dX6_add_3 : decode cX6_add 3 = .ok (.iload_n 2, 1) := by decide +kernel
theorem dX6_add_4 : decode cX6_add 4 = .ok (.invokestatic 28, 3) := by decide +kernel
theorem dX6_add_7 : decode cX6_add 7 = .ok (.invokestatic 34, 3) := by decide +kernel
theorem dX6_add_10 : decode cX6_add 10 = .ok (.putfield 37, 3) := by decide +kernel
theorem dX6_add_13 : decode cX6_add 13 = .ok (.iconst 0, 1) := by decide +kernel
theorem dX6_add_14 : decode cX6_add 14 = .ok (.istore_n 3, 1) := by decide +kernel
theorem dX6_add_15 : decode cX6_add 15 = .ok (.iconst 0, 1) := by decide +kernel
theorem dX6_add_16 : decode cX6_add 16 = .ok (.istore 4, 2) := by decide +kernel
theorem dX6_add_18 : decode cX6_add 18 = .ok (.iload 4, 2) := by decide +kernel
theorem dX6_add_20 : decode cX6_add 20 = .ok (.aload_n 0, 1) := by decide +kernel
theorem dX6_add_21 : decode cX6_add 21 = .ok (.getfield 37, 3) := by decide +kernel
theorem dX6_add_24 : decode cX6_add 24 = .ok (.if_icmp .ge 52, 3) := by decide +kernel
theorem dX6_add_27 : decode cX6_add 27 = .ok (.aload_n 1, 1) := by decide +kernel
theorem dX6_add_28 : decode cX6_add 28 = .ok (.iload 4, 2) := by decide +kernel
theorem dX6_add_30 : decode cX6_add 30 = .ok (.invokevirtual 40, 3) := by decide +kernel
theorem dX6_add_33 : decode cX6_add 33 = .ok (.istore 5, 2) := by decide +kernel
theorem dX6_add_35 : decode cX6_add 35 = .ok (.iload 5, 2) := by decide +kernel
theorem dX6_add_37 : decode cX6_add 37 = .ok (.iconst 0, 1) := by decide +kernel
theorem dX6_add_38 : decode cX6_add 38 = .ok (.aload_n 0, 1) := by decide +kernel
theorem dX6_add_39 : decode cX6_add 39 = .ok (.getfield 37, 3) := by decide +kernel
theorem dX6_add_42 : decode cX6_add 42 = .ok (.iconst 1, 1) := by decide +kernel
theorem dX6_add_43 : decode cX6_add 43 = .ok (.isub, 1) := by decide +kernel
theorem dX6_add_44 : decode cX6_add 44 = .ok (.invokestatic 46, 3) := by decide +kernel
theorem dX6_add_47 : decode cX6_add 47 = .ok (.ifCond .eq 13, 3) := by decide +kernel
theorem dX6_add_50 : decode cX6_add 50 = .ok (.iload_n 3, 1) := by decide +kernel
theorem dX6_add_51 : decode cX6_add 51 = .ok (.iload 5, 2) := by decide +kernel
theorem dX6_add_53 : decode cX6_add 53 = .ok (.ishr, 1) := by decide +kernel
theorem dX6_add_54 : decode cX6_add 54 = .ok (.iconst 1, 1) := by decide +kernel
theorem dX6_add_55 : decode cX6_add 55 = .ok (.iand, 1) := by decide +kernel
theorem dX6_add_56 : decode cX6_add 56 = .ok (.iconst 1, 1) := by decide +kernel
theorem dX6_add_57 : decode cX6_add 57 = .ok (.if_icmp .ne 6, 3) := by decide +kernel
theorem dX6_add_60 : decode cX6_add 60 = .ok (.bipush (-2), 2) := by decide +kernel
theorem dX6_add_62 : decode cX6_add 62 = .ok (.ireturn, 1) := by decide +kernel
theorem dX6_add_63 : decode cX6_add 63 = .ok (.iload_n 3, 1) := by decide +kernel
theorem dX6_add_64 : decode cX6_add 64 = .ok (.iconst 1, 1) := by decide +kernel
theorem dX6_add_65 : decode cX6_add 65 = .ok (.iload 5, 2) := by decide +kernel
theorem dX6_add_67 : decode cX6_add 67 = .ok (.ishl, 1) := by decide +kernel
theorem dX6_add_68 : decode cX6_add 68 = .ok (.ior, 1) := by decide +kernel
theorem dX6_add_69 : decode cX6_add 69 = .ok (.istore_n 3, 1) := by decide +kernel
theorem dX6_add_70 : decode cX6_add 70 = .ok (.iinc 4 1, 3) := by decide +kernel
theorem dX6_add_73 : decode cX6_add 73 = .ok (.goto (-55), 3) := by decide +kernel
theorem dX6_add_76 : decode cX6_add 76 = .ok (.iconst 0, 1) := by decide +kernel
theorem dX6_add_77 : decode cX6_add 77 = .ok (.istore 4, 2) := by decide +kernel
theorem dX6_add_79 : decode cX6_add 79 = .ok (.iload 4, 2) := by decide +kernel
theorem dX6_add_81 : decode cX6_add 81 = .ok (.aload_n 0, 1) := by decide +kernel
theorem dX6_add_82 : decode cX6_add 82 = .ok (.getfield 37, 3) := by decide +kernel
theorem dX6_add_85 : decode cX6_add 85 = .ok (.if_icmp .ge 37, 3) := by decide +kernel
theorem dX6_add_88 : decode cX6_add 88 = .ok (.aload_n 0, 1) := by decide +kernel
theorem dX6_add_89 : decode cX6_add 89 = .ok (.getfield 24, 3) := by decide +kernel
theorem dX6_add_92 : decode cX6_add 92 = .ok (.iconst 5, 1) := by decide +kernel
theorem dX6_add_93 : decode cX6_add 93 = .ok (.if_icmp .ge 29, 3) := by decide +kernel
theorem dX6_add_96 : decode cX6_add 96 = .ok (.aload_n 0, 1) := by decide +kernel
theorem dX6_add_97 : decode cX6_add 97 = .ok (.getfield 9, 3) := by decide +kernel
theorem dX6_add_100 : decode cX6_add 100 = .ok (.aload_n 0, 1) := by decide +kernel
theorem dX6_add_101 : decode cX6_add 101 = .ok (.getfield 24, 3) := by decide +kernel
theorem dX6_add_104 : decode cX6_add 104 = .ok (.iconst 5, 1) := by decide +kernel
theorem dX6_add_105 : decode cX6_add 105 = .ok (.imul, 1) := by decide +kernel
theorem dX6_add_106 : decode cX6_add 106 = .ok (.iload 4, 2) := by decide +kernel
theorem dX6_add_108 : decode cX6_add 108 = .ok (.iadd, 1) := by decide +kernel
theorem dX6_add_109 : decode cX6_add 109 = .ok (.aload_n 1, 1) := by decide +kernel
theorem dX6_add_110 : decode cX6_add 110 = .ok (.iload 4, 2) := by decide +kernel
theorem dX6_add_112 : decode cX6_add 112 = .ok (.invokevirtual 40, 3) := by decide +kernel
theorem dX6_add_115 : decode cX6_add 115 = .ok (.iastore, 1) := by decide +kernel
theorem dX6_add_116 : decode cX6_add 116 = .ok (.iinc 4 1, 3) := by decide +kernel
theorem dX6_add_119 : decode cX6_add 119 = .ok (.goto (-40), 3) := by decide +kernel
theorem dX6_add_122 : decode cX6_add 122 = .ok (.aload_n 0, 1) := by decide +kernel
theorem dX6_add_123 : decode cX6_add 123 = .ok (.dup, 1) := by decide +kernel
theorem dX6_add_124 : decode cX6_add 124 = .ok (.getfield 24, 3) := by decide +kernel
theorem dX6_add_127 : decode cX6_add 127 = .ok (.iconst 1, 1) := by decide +kernel
theorem dX6_add_128 : decode cX6_add 128 = .ok (.iadd, 1) := by decide +kernel
theorem dX6_add_129 : decode cX6_add 129 = .ok (.putfield 24, 3) := by decide +kernel
theorem dX6_add_132 : decode cX6_add 132 = .ok (.aload_n 0, 1) := by decide +kernel
theorem dX6_add_133 : decode cX6_add 133 = .ok (.getfield 24, 3) := by decide +kernel
theorem dX6_add_136 : decode cX6_add 136 = .ok (.iconst 1, 1) := by decide +kernel
theorem dX6_add_137 : decode cX6_add 137 = .ok (.isub, 1) := by decide +kernel
theorem dX6_add_138 : decode cX6_add 138 = .ok (.ireturn, 1) := by decide +kernel
theorem dX6_rowOf_0 : decode cX6_rowOf 0 = .ok (.iload_n 1, 1) := by decide +kernel
theorem dX6_rowOf_1 : decode cX6_rowOf 1 = .ok (.ifCond .lt 17, 3) := by decide +kernel
theorem dX6_rowOf_4 : decode cX6_rowOf 4 = .ok (.iload_n 1, 1) := by decide +kernel
theorem dX6_rowOf_5 : decode cX6_rowOf 5 = .ok (.iconst 5, 1) := by decide +kernel
theorem dX6_rowOf_6 : decode cX6_rowOf 6 = .ok (.if_icmp .ge 12, 3) := by decide +kernel
theorem dX6_rowOf_9 : decode cX6_rowOf 9 = .ok (.aload_n 0, 1) := by decide +kernel
theorem dX6_rowOf_10 : decode cX6_rowOf 10 = .ok (.getfield 21, 3) := by decide +kernel
theorem dX6_rowOf_13 : decode cX6_rowOf 13 = .ok (.iload_n 1, 1) := by decide +kernel
theorem dX6_rowOf_14 : decode cX6_rowOf 14 = .ok (.iaload, 1) := by decide +kernel
theorem dX6_rowOf_15 : decode cX6_rowOf 15 = .ok (.goto 4, 3) := by decide +kernel
theorem dX6_rowOf_18 : decode cX6_rowOf 18 = .ok (.iconst (-1), 1) := by decide +kernel
theorem dX6_rowOf_19 : decode cX6_rowOf 19 = .ok (.ireturn, 1) := by decide +kernel
theorem dX6_giveTo_0 : decode cX6_giveTo 0 = .ok (.aload_n 0, 1) := by decide +kernel
theorem dX6_giveTo_1 : decode cX6_giveTo 1 = .ok (.invokevirtual 50, 3) := by decide +kernel
theorem dX6_giveTo_4 : decode cX6_giveTo 4 = .ok (.iconst 0, 1) := by decide +kernel
theorem dX6_giveTo_5 : decode cX6_giveTo 5 = .ok (.iconst 5, 1) := by decide +kernel
theorem dX6_giveTo_6 : decode cX6_giveTo 6 = .ok (.iload_n 1, 1) := by decide +kernel
theorem dX6_giveTo_7 : decode cX6_giveTo 7 = .ok (.invokestatic 28, 3) := by decide +kernel
theorem dX6_giveTo_10 : decode cX6_giveTo 10 = .ok (.invokestatic 34, 3) := by decide +kernel
theorem dX6_giveTo_13 : decode cX6_giveTo 13 = .ok (.istore_n 2, 1) := by decide +kernel
theorem dX6_giveTo_14 : decode cX6_giveTo 14 = .ok (.iconst 1, 1) := by decide +kernel
theorem dX6_giveTo_15 : decode cX6_giveTo 15 = .ok (.istore_n 3, 1) := by decide +kernel
theorem dX6_giveTo_16 : decode cX6_giveTo 16 = .ok (.iconst 0, 1) := by decide +kernel
theorem dX6_giveTo_17 : decode cX6_giveTo 17 = .ok (.istore 4, 2) := by decide +kernel
theorem dX6_giveTo_19 : decode cX6_giveTo 19 = .ok (.iload 4, 2) := by decide +kernel
theorem dX6_giveTo_21 : decode cX6_giveTo 21 = .ok (.iload_n 2, 1) := by decide +kernel
theorem dX6_giveTo_22 : decode cX6_giveTo 22 = .ok (.if_icmp .ge 24, 3) := by decide +kernel
theorem dX6_giveTo_25 : decode cX6_giveTo 25 = .ok (.aload_n 0, 1) := by decide +kernel
theorem dX6_giveTo_26 : decode cX6_giveTo 26 = .ok (.getfield 18, 3) := by decide +kernel
theorem dX6_giveTo_29 : decode cX6_giveTo 29 = .ok (.iload 4, 2) := by decide +kernel
theorem dX6_giveTo_31 : decode cX6_giveTo 31 = .ok (.iconst 0, 1) := by decide +kernel
theorem dX6_giveTo_32 : decode cX6_giveTo 32 = .ok (.iastore, 1) := by decide +kernel
theorem dX6_giveTo_33 : decode cX6_giveTo 33 = .ok (.iload_n 3, 1) := by decide +kernel
theorem dX6_giveTo_34 : decode cX6_giveTo 34 = .ok (.aload_n 0, 1) := by decide +kernel
theorem dX6_giveTo_35 : decode cX6_giveTo 35 = .ok (.getfield 24, 3) := by decide +kernel
theorem dX6_giveTo_38 : decode cX6_giveTo 38 = .ok (.imul, 1) := by decide +kernel
theorem dX6_giveTo_39 : decode cX6_giveTo 39 = .ok (.istore_n 3, 1) := by decide +kernel
theorem dX6_giveTo_40 : decode cX6_giveTo 40 = .ok (.iinc 4 1, 3) := by decide +kernel
theorem dX6_giveTo_43 : decode cX6_giveTo 43 = .ok (.goto (-24), 3) := by decide +kernel
theorem dX6_giveTo_46 : decode cX6_giveTo 46 = .ok (.aload_n 0, 1) := by decide +kernel
theorem dX6_giveTo_47 : decode cX6_giveTo 47 = .ok (.iconst (-1), 1) := by decide +kernel
theorem dX6_giveTo_48 : decode cX6_giveTo 48 = .ok (.putfield 53, 3) := by decide +kernel
theorem dX6_giveTo_51 : decode cX6_giveTo 51 = .ok (.iconst 0, 1) := by decide +kernel
theorem dX6_giveTo_52 : decode cX6_giveTo 52 = .ok (.istore 4, 2) := by decide +kernel
theorem dX6_giveTo_54 : decode cX6_giveTo 54 = .ok (.iload 4, 2) := by decide +kernel
theorem dX6_giveTo_56 : decode cX6_giveTo 56 = .ok (.iload_n 3, 1) := by decide +kernel
theorem dX6_giveTo_57 : decode cX6_giveTo 57 = .ok (.if_icmp .ge 49, 3) := by decide +kernel
theorem dX6_giveTo_60 : decode cX6_giveTo 60 = .ok (.aload_n 0, 1) := by decide +kernel
theorem dX6_giveTo_61 : decode cX6_giveTo 61 = .ok (.iload_n 2, 1) := by decide +kernel
theorem dX6_giveTo_62 : decode cX6_giveTo 62 = .ok (.invokevirtual 56, 3) := by decide +kernel
theorem dX6_giveTo_65 : decode cX6_giveTo 65 = .ok (.istore 5, 2) := by decide +kernel
theorem dX6_giveTo_67 : decode cX6_giveTo 67 = .ok (.aload_n 0, 1) := by decide +kernel
theorem dX6_giveTo_68 : decode cX6_giveTo 68 = .ok (.getfield 53, 3) := by decide +kernel
theorem dX6_giveTo_71 : decode cX6_giveTo 71 = .ok (.iconst (-1), 1) := by decide +kernel
theorem dX6_giveTo_72 : decode cX6_giveTo 72 = .ok (.if_icmp .eq 12, 3) := by decide +kernel
theorem dX6_giveTo_75 : decode cX6_giveTo 75 = .ok (.iload 5, 2) := by decide +kernel
theorem dX6_giveTo_77 : decode cX6_giveTo 77 = .ok (.aload_n 0, 1) := by decide +kernel
theorem dX6_giveTo_78 : decode cX6_giveTo 78 = .ok (.getfield 53, 3) := by decide +kernel
theorem dX6_giveTo_81 : decode cX6_giveTo 81 = .ok (.if_icmp .ge 14, 3) := by decide +kernel
theorem dX6_giveTo_84 : decode cX6_giveTo 84 = .ok (.aload_n 0, 1) := by decide +kernel
theorem dX6_giveTo_85 : decode cX6_giveTo 85 = .ok (.iload 5, 2) := by decide +kernel
theorem dX6_giveTo_87 : decode cX6_giveTo 87 = .ok (.putfield 53, 3) := by decide +kernel
theorem dX6_giveTo_90 : decode cX6_giveTo 90 = .ok (.aload_n 0, 1) := by decide +kernel
theorem dX6_giveTo_91 : decode cX6_giveTo 91 = .ok (.iload_n 2, 1) := by decide +kernel
theorem dX6_giveTo_92 : decode cX6_giveTo 92 = .ok (.invokevirtual 59, 3) := by decide +kernel
theorem dX6_giveTo_95 : decode cX6_giveTo 95 = .ok (.aload_n 0, 1) := by decide +kernel
theorem dX6_giveTo_96 : decode cX6_giveTo 96 = .ok (.iload_n 2, 1) := by decide +kernel
theorem dX6_giveTo_97 : decode cX6_giveTo 97 = .ok (.invokevirtual 63, 3) := by decide +kernel
theorem dX6_giveTo_100 : decode cX6_giveTo 100 = .ok (.iinc 4 1, 3) := by decide +kernel
theorem dX6_giveTo_103 : decode cX6_giveTo 103 = .ok (.goto (-49), 3) := by decide +kernel
theorem dX6_giveTo_106 : decode cX6_giveTo 106 = .ok (.return_, 1) := by decide +kernel
theorem dX6_keepRow_0 : decode cX6_keepRow 0 = .ok (.iconst 0, 1) := by decide +kernel
theorem dX6_keepRow_1 : decode cX6_keepRow 1 = .ok (.istore_n 2, 1) := by decide +kernel
theorem dX6_keepRow_2 : decode cX6_keepRow 2 = .ok (.iload_n 2, 1) := by decide +kernel
theorem dX6_keepRow_3 : decode cX6_keepRow 3 = .ok (.iload_n 1, 1) := by decide +kernel
theorem dX6_keepRow_4 : decode cX6_keepRow 4 = .ok (.if_icmp .ge 21, 3) := by decide +kernel
theorem dX6_keepRow_7 : decode cX6_keepRow 7 = .ok (.aload_n 0, 1) := by decide +kernel
theorem dX6_keepRow_8 : decode cX6_keepRow 8 = .ok (.getfield 21, 3) := by decide +kernel
theorem dX6_keepRow_11 : decode cX6_keepRow 11 = .ok (.iload_n 2, 1) := by decide +kernel
theorem dX6_keepRow_12 : decode cX6_keepRow 12 = .ok (.aload_n 0, 1) := by decide +kernel
theorem dX6_keepRow_13 : decode cX6_keepRow 13 = .ok (.getfield 18, 3) := by decide +kernel
theorem dX6_keepRow_16 : decode cX6_keepRow 16 = .ok (.iload_n 2, 1) := by decide +kernel
theorem dX6_keepRow_17 : decode cX6_keepRow 17 = .ok (.iaload, 1) := by decide +kernel
theorem dX6_keepRow_18 : decode cX6_keepRow 18 = .ok (.iastore, 1) := by decide +kernel
theorem dX6_keepRow_19 : decode cX6_keepRow 19 = .ok (.iinc 2 1, 3) := by decide +kernel
theorem dX6_keepRow_22 : decode cX6_keepRow 22 = .ok (.goto (-20), 3) := by decide +kernel
theorem dX6_keepRow_25 : decode cX6_keepRow 25 = .ok (.return_, 1) := by decide +kernel
theorem dX6_nextRow_0 : decode cX6_nextRow 0 = .ok (.iload_n 1, 1) := by decide +kernel
theorem dX6_nextRow_1 : decode cX6_nextRow 1 = .ok (.iconst 1, 1) := by decide +kernel
theorem dX6_nextRow_2 : decode cX6_nextRow 2 = .ok (.isub, 1) := by decide +kernel
theorem dX6_nextRow_3 : decode cX6_nextRow 3 = .ok (.istore_n 2, 1) := by decide +kernel
theorem dX6_nextRow_4 : decode cX6_nextRow 4 = .ok (.iload_n 2, 1) := by decide +kernel
theorem dX6_nextRow_5 : decode cX6_nextRow 5 = .ok (.ifCond .lt 40, 3) := by decide +kernel
theorem dX6_nextRow_8 : decode cX6_nextRow 8 = .ok (.aload_n 0, 1) := by decide +kernel
theorem dX6_nextRow_9 : decode cX6_nextRow 9 = .ok (.getfield 18, 3) := by decide +kernel
theorem dX6_nextRow_12 : decode cX6_nextRow 12 = .ok (.iload_n 2, 1) := by decide +kernel
theorem dX6_nextRow_13 : decode cX6_nextRow 13 = .ok (.dup2, 1) := by decide +kernel
theorem dX6_nextRow_14 : decode cX6_nextRow 14 = .ok (.iaload, 1) := by decide +kernel
theorem dX6_nextRow_15 : decode cX6_nextRow 15 = .ok (.iconst 1, 1) := by decide +kernel
theorem dX6_nextRow_16 : decode cX6_nextRow 16 = .ok (.iadd, 1) := by decide +kernel
theorem dX6_nextRow_17 : decode cX6_nextRow 17 = .ok (.iastore, 1) := by decide +kernel
theorem dX6_nextRow_18 : decode cX6_nextRow 18 = .ok (.aload_n 0, 1) := by decide +kernel
theorem dX6_nextRow_19 : decode cX6_nextRow 19 = .ok (.getfield 18, 3) := by decide +kernel
theorem dX6_nextRow_22 : decode cX6_nextRow 22 = .ok (.iload_n 2, 1) := by decide +kernel
theorem dX6_nextRow_23 : decode cX6_nextRow 23 = .ok (.iaload, 1) := by decide +kernel
theorem dX6_nextRow_24 : decode cX6_nextRow 24 = .ok (.aload_n 0, 1) := by decide +kernel
theorem dX6_nextRow_25 : decode cX6_nextRow 25 = .ok (.getfield 24, 3) := by decide +kernel
theorem dX6_nextRow_28 : decode cX6_nextRow 28 = .ok (.if_icmp .ge 4, 3) := by decide +kernel
theorem dX6_nextRow_31 : decode cX6_nextRow 31 = .ok (.return_, 1) := by decide +kernel
theorem dX6_nextRow_32 : decode cX6_nextRow 32 = .ok (.aload_n 0, 1) := by decide +kernel
theorem dX6_nextRow_33 : decode cX6_nextRow 33 = .ok (.getfield 18, 3) := by decide +kernel
theorem dX6_nextRow_36 : decode cX6_nextRow 36 = .ok (.iload_n 2, 1) := by decide +kernel
theorem dX6_nextRow_37 : decode cX6_nextRow 37 = .ok (.iconst 0, 1) := by decide +kernel
theorem dX6_nextRow_38 : decode cX6_nextRow 38 = .ok (.iastore, 1) := by decide +kernel
theorem dX6_nextRow_39 : decode cX6_nextRow 39 = .ok (.iinc 2 (-1), 3) := by decide +kernel
theorem dX6_nextRow_42 : decode cX6_nextRow 42 = .ok (.goto (-38), 3) := by decide +kernel
theorem dX6_nextRow_45 : decode cX6_nextRow 45 = .ok (.return_, 1) := by decide +kernel
theorem dX6_meetingsOfRow_0 : decode cX6_meetingsOfRow 0 = .ok (.iconst 0, 1) := by decide +kernel
theorem dX6_meetingsOfRow_1 : decode cX6_meetingsOfRow 1 = .ok (.istore_n 2, 1) := by decide +kernel
theorem dX6_meetingsOfRow_2 : decode cX6_meetingsOfRow 2 = .ok (.iconst 0, 1) := by decide +kernel
theorem dX6_meetingsOfRow_3 : decode cX6_meetingsOfRow 3 = .ok (.istore_n 3, 1) := by decide +kernel
theorem dX6_meetingsOfRow_4 : decode cX6_meetingsOfRow 4 = .ok (.iload_n 3, 1) := by decide +kernel
theorem dX6_meetingsOfRow_5 : decode cX6_meetingsOfRow 5 = .ok (.iload_n 1, 1) := by decide +kernel
theorem dX6_meetingsOfRow_6 : decode cX6_meetingsOfRow 6 = .ok (.if_icmp .ge 50, 3) := by decide +kernel
theorem dX6_meetingsOfRow_9 : decode cX6_meetingsOfRow 9 = .ok (.iload_n 3, 1) := by decide +kernel
theorem dX6_meetingsOfRow_10 : decode cX6_meetingsOfRow 10 = .ok (.iconst 1, 1) := by decide +kernel
theorem dX6_meetingsOfRow_11 : decode cX6_meetingsOfRow 11 = .ok (.iadd, 1) := by decide +kernel
theorem dX6_meetingsOfRow_12 : decode cX6_meetingsOfRow 12 = .ok (.istore 4, 2) := by decide +kernel
theorem dX6_meetingsOfRow_14 : decode cX6_meetingsOfRow 14 = .ok (.iload 4, 2) := by decide +kernel
theorem dX6_meetingsOfRow_16 : decode cX6_meetingsOfRow 16 = .ok (.iload_n 1, 1) := by decide +kernel
theorem dX6_meetingsOfRow_17 : decode cX6_meetingsOfRow 17 = .ok (.if_icmp .ge 33, 3) := by decide +kernel
theorem dX6_meetingsOfRow_20 : decode cX6_meetingsOfRow 20 = .ok (.iload_n 2, 1) := by decide +kernel
theorem dX6_meetingsOfRow_21 : decode cX6_meetingsOfRow 21 = .ok (.aload_n 0, 1) := by decide +kernel
theorem dX6_meetingsOfRow_22 : decode cX6_meetingsOfRow 22 = .ok (.getfield 15, 3) := by decide +kernel
theorem dX6_meetingsOfRow_25 : decode cX6_meetingsOfRow 25 = .ok (.aload_n 0, 1) := by decide +kernel
theorem dX6_meetingsOfRow_26 : decode cX6_meetingsOfRow 26 = .ok (.getfield 18, 3) := by decide +kernel
theorem dX6_meetingsOfRow_29 : decode cX6_meetingsOfRow 29 = .ok (.iload_n 3, 1) := by decide +kernel
theorem dX6_meetingsOfRow_30 : decode cX6_meetingsOfRow 30 = .ok (.iaload, 1) := by decide +kernel
theorem dX6_meetingsOfRow_31 : decode cX6_meetingsOfRow 31 = .ok (.iconst 5, 1) := by decide +kernel
theorem dX6_meetingsOfRow_32 : decode cX6_meetingsOfRow 32 = .ok (.imul, 1) := by decide +kernel
theorem dX6_meetingsOfRow_33 : decode cX6_meetingsOfRow 33 = .ok (.aload_n 0, 1) := by decide +kernel
theorem dX6_meetingsOfRow_34 : decode cX6_meetingsOfRow 34 = .ok (.getfield 18, 3) := by decide +kernel
theorem dX6_meetingsOfRow_37 : decode cX6_meetingsOfRow 37 = .ok (.iload 4, 2) := by decide +kernel
theorem dX6_meetingsOfRow_39 : decode cX6_meetingsOfRow 39 = .ok (.iaload, 1) := by decide +kernel
theorem dX6_meetingsOfRow_40 : decode cX6_meetingsOfRow 40 = .ok (.iadd, 1) := by decide +kernel
theorem dX6_meetingsOfRow_41 : decode cX6_meetingsOfRow 41 = .ok (.iaload, 1) := by decide +kernel
theorem dX6_meetingsOfRow_42 : decode cX6_meetingsOfRow 42 = .ok (.iadd, 1) := by decide +kernel
theorem dX6_meetingsOfRow_43 : decode cX6_meetingsOfRow 43 = .ok (.istore_n 2, 1) := by decide +kernel
theorem dX6_meetingsOfRow_44 : decode cX6_meetingsOfRow 44 = .ok (.iinc 4 1, 3) := by decide +kernel
theorem dX6_meetingsOfRow_47 : decode cX6_meetingsOfRow 47 = .ok (.goto (-33), 3) := by decide +kernel
theorem dX6_meetingsOfRow_50 : decode cX6_meetingsOfRow 50 = .ok (.iinc 3 1, 3) := by decide +kernel
theorem dX6_meetingsOfRow_53 : decode cX6_meetingsOfRow 53 = .ok (.goto (-49), 3) := by decide +kernel
theorem dX6_meetingsOfRow_56 : decode cX6_meetingsOfRow 56 = .ok (.iload_n 2, 1) := by decide +kernel
theorem dX6_meetingsOfRow_57 : decode cX6_meetingsOfRow 57 = .ok (.ireturn, 1) := by decide +kernel
theorem dX6_meetAll_0 : decode cX6_meetAll 0 = .ok (.iconst 0, 1) := by decide +kernel
theorem dX6_meetAll_1 : decode cX6_meetAll 1 = .ok (.istore_n 1, 1) := by decide +kernel
theorem dX6_meetAll_2 : decode cX6_meetAll 2 = .ok (.iload_n 1, 1) := by decide +kernel
theorem dX6_meetAll_3 : decode cX6_meetAll 3 = .ok (.aload_n 0, 1) := by decide +kernel
theorem dX6_meetAll_4 : decode cX6_meetAll 4 = .ok (.getfield 24, 3) := by decide +kernel
theorem dX6_meetAll_7 : decode cX6_meetAll 7 = .ok (.if_icmp .ge 99, 3) := by decide +kernel
theorem dX6_meetAll_10 : decode cX6_meetAll 10 = .ok (.iload_n 1, 1) := by decide +kernel
theorem dX6_meetAll_11 : decode cX6_meetAll 11 = .ok (.iconst 5, 1) := by decide +kernel
theorem dX6_meetAll_12 : decode cX6_meetAll 12 = .ok (.if_icmp .ge 94, 3) := by decide +kernel
theorem dX6_meetAll_15 : decode cX6_meetAll 15 = .ok (.iconst 0, 1) := by decide +kernel
theorem dX6_meetAll_16 : decode cX6_meetAll 16 = .ok (.istore_n 2, 1) := by decide +kernel
theorem dX6_meetAll_17 : decode cX6_meetAll 17 = .ok (.iload_n 2, 1) := by decide +kernel
theorem dX6_meetAll_18 : decode cX6_meetAll 18 = .ok (.aload_n 0, 1) := by decide +kernel
theorem dX6_meetAll_19 : decode cX6_meetAll 19 = .ok (.getfield 24, 3) := by decide +kernel
theorem dX6_meetAll_22 : decode cX6_meetAll 22 = .ok (.if_icmp .ge 78, 3) := by decide +kernel
theorem dX6_meetAll_25 : decode cX6_meetAll 25 = .ok (.iload_n 2, 1) := by decide +kernel
theorem dX6_meetAll_26 : decode cX6_meetAll 26 = .ok (.iconst 5, 1) := by decide +kernel
theorem dX6_meetAll_27 : decode cX6_meetAll 27 = .ok (.if_icmp .ge 73, 3) := by decide +kernel
theorem dX6_meetAll_30 : decode cX6_meetAll 30 = .ok (.iconst 0, 1) := by decide +kernel
theorem dX6_meetAll_31 : decode cX6_meetAll 31 = .ok (.istore_n 3, 1) := by decide +kernel
theorem dX6_meetAll_32 : decode cX6_meetAll 32 = .ok (.iconst 1, 1) := by decide +kernel
theorem dX6_meetAll_33 : decode cX6_meetAll 33 = .ok (.istore 4, 2) := by decide +kernel
theorem dX6_meetAll_35 : decode cX6_meetAll 35 = .ok (.iload 4, 2) := by decide +kernel
theorem dX6_meetAll_37 : decode cX6_meetAll 37 = .ok (.aload_n 0, 1) := by decide +kernel
theorem dX6_meetAll_38 : decode cX6_meetAll 38 = .ok (.getfield 37, 3) := by decide +kernel
theorem dX6_meetAll_41 : decode cX6_meetAll 41 = .ok (.if_icmp .ge 42, 3) := by decide +kernel
theorem dX6_meetAll_44 : decode cX6_meetAll 44 = .ok (.iload_n 3, 1) := by decide +kernel
theorem dX6_meetAll_45 : decode cX6_meetAll 45 = .ok (.aload_n 0, 1) := by decide +kernel
theorem dX6_meetAll_46 : decode cX6_meetAll 46 = .ok (.getfield 9, 3) := by decide +kernel
theorem dX6_meetAll_49 : decode cX6_meetAll 49 = .ok (.iload_n 1, 1) := by decide +kernel
theorem dX6_meetAll_50 : decode cX6_meetAll 50 = .ok (.iconst 5, 1) := by decide +kernel
theorem dX6_meetAll_51 : decode cX6_meetAll 51 = .ok (.imul, 1) := by decide +kernel
theorem dX6_meetAll_52 : decode cX6_meetAll 52 = .ok (.iload 4, 2) := by decide +kernel
theorem dX6_meetAll_54 : decode cX6_meetAll 54 = .ok (.iadd, 1) := by decide +kernel
theorem dX6_meetAll_55 : decode cX6_meetAll 55 = .ok (.iaload, 1) := by decide +kernel
theorem dX6_meetAll_56 : decode cX6_meetAll 56 = .ok (.aload_n 0, 1) := by decide +kernel
theorem dX6_meetAll_57 : decode cX6_meetAll 57 = .ok (.getfield 9, 3) := by decide +kernel
theorem dX6_meetAll_60 : decode cX6_meetAll 60 = .ok (.iload_n 2, 1) := by decide +kernel
theorem dX6_meetAll_61 : decode cX6_meetAll 61 = .ok (.iconst 5, 1) := by decide +kernel
theorem dX6_meetAll_62 : decode cX6_meetAll 62 = .ok (.imul, 1) := by decide +kernel
theorem dX6_meetAll_63 : decode cX6_meetAll 63 = .ok (.iload 4, 2) := by decide +kernel
theorem dX6_meetAll_65 : decode cX6_meetAll 65 = .ok (.iadd, 1) := by decide +kernel
theorem dX6_meetAll_66 : decode cX6_meetAll 66 = .ok (.iaload, 1) := by decide +kernel
theorem dX6_meetAll_67 : decode cX6_meetAll 67 = .ok (.if_icmp .ne 7, 3) := by decide +kernel
theorem dX6_meetAll_70 : decode cX6_meetAll 70 = .ok (.iconst 1, 1) := by decide +kernel
theorem dX6_meetAll_71 : decode cX6_meetAll 71 = .ok (.goto 4, 3) := by decide +kernel
theorem dX6_meetAll_74 : decode cX6_meetAll 74 = .ok (.iconst 0, 1) := by decide +kernel
theorem dX6_meetAll_75 : decode cX6_meetAll 75 = .ok (.iadd, 1) := by decide +kernel
theorem dX6_meetAll_76 : decode cX6_meetAll 76 = .ok (.istore_n 3, 1) := by decide +kernel
theorem dX6_meetAll_77 : decode cX6_meetAll 77 = .ok (.iinc 4 1, 3) := by decide +kernel
theorem dX6_meetAll_80 : decode cX6_meetAll 80 = .ok (.goto (-45), 3) := by decide +kernel
theorem dX6_meetAll_83 : decode cX6_meetAll 83 = .ok (.aload_n 0, 1) := by decide +kernel
theorem dX6_meetAll_84 : decode cX6_meetAll 84 = .ok (.getfield 15, 3) := by decide +kernel
theorem dX6_meetAll_87 : decode cX6_meetAll 87 = .ok (.iload_n 1, 1) := by decide +kernel
theorem dX6_meetAll_88 : decode cX6_meetAll 88 = .ok (.iconst 5, 1) := by decide +kernel
theorem dX6_meetAll_89 : decode cX6_meetAll 89 = .ok (.imul, 1) := by decide +kernel
theorem dX6_meetAll_90 : decode cX6_meetAll 90 = .ok (.iload_n 2, 1) := by decide +kernel
theorem dX6_meetAll_91 : decode cX6_meetAll 91 = .ok (.iadd, 1) := by decide +kernel
theorem dX6_meetAll_92 : decode cX6_meetAll 92 = .ok (.iload_n 3, 1) := by decide +kernel
theorem dX6_meetAll_93 : decode cX6_meetAll 93 = .ok (.iastore, 1) := by decide +kernel
theorem dX6_meetAll_94 : decode cX6_meetAll 94 = .ok (.iinc 2 1, 3) := by decide +kernel
theorem dX6_meetAll_97 : decode cX6_meetAll 97 = .ok (.goto (-80), 3) := by decide +kernel
theorem dX6_meetAll_100 : decode cX6_meetAll 100 = .ok (.iinc 1 1, 3) := by decide +kernel
theorem dX6_meetAll_103 : decode cX6_meetAll 103 = .ok (.goto (-101), 3) := by decide +kernel
theorem dX6_meetAll_106 : decode cX6_meetAll 106 = .ok (.return_, 1) := by decide +kernel
theorem dX7_init_0 : decode cX7_init 0 = .ok (.aload_n 0, 1) := by decide +kernel
theorem dX7_init_1 : decode cX7_init 1 = .ok (.invokespecial 3, 3) := by decide +kernel
theorem dX7_init_4 : decode cX7_init 4 = .ok (.aload_n 0, 1) := by decide +kernel
theorem dX7_init_5 : decode cX7_init 5 = .ok (.bipush 11, 2) := by decide +kernel
theorem dX7_init_7 : decode cX7_init 7 = .ok (.newarray .long, 2) := by decide +kernel
theorem dX7_init_9 : decode cX7_init 9 = .ok (.putfield 9, 3) := by decide +kernel
theorem dX7_init_12 : decode cX7_init 12 = .ok (.aload_n 0, 1) := by decide +kernel
theorem dX7_init_13 : decode cX7_init 13 = .ok (.iconst 5, 1) := by decide +kernel
theorem dX7_init_14 : decode cX7_init 14 = .ok (.bipush 11, 2) := by decide +kernel
theorem dX7_init_16 : decode cX7_init 16 = .ok (.multianewarray 15 2, 4) := by decide +kernel
theorem dX7_init_20 : decode cX7_init 20 = .ok (.putfield 17, 3) := by decide +kernel
theorem dX7_init_23 : decode cX7_init 23 = .ok (.aload_n 0, 1) := by decide +kernel
theorem dX7_init_24 : decode cX7_init 24 = .ok (.bipush 6, 2) := by decide +kernel
theorem dX7_init_26 : decode cX7_init 26 = .ok (.bipush 11, 2) := by decide +kernel
theorem dX7_init_28 : decode cX7_init 28 = .ok (.multianewarray 15 2, 4) := by decide +kernel
theorem dX7_init_32 : decode cX7_init 32 = .ok (.putfield 20, 3) := by decide +kernel
theorem dX7_init_35 : decode cX7_init 35 = .ok (.return_, 1) := by decide +kernel
theorem dX7_reckon_0 : decode cX7_reckon 0 = .ok (.aload_n 0, 1) := by decide +kernel
theorem dX7_reckon_1 : decode cX7_reckon 1 = .ok (.iload_n 2, 1) := by decide +kernel
theorem dX7_reckon_2 : decode cX7_reckon 2 = .ok (.putfield 23, 3) := by decide +kernel
theorem dX7_reckon_5 : decode cX7_reckon 5 = .ok (.aload_n 0, 1) := by decide +kernel
theorem dX7_reckon_6 : decode cX7_reckon 6 = .ok (.iconst 0, 1) := by decide +kernel
theorem dX7_reckon_7 : decode cX7_reckon 7 = .ok (.iconst 5, 1) := by decide +kernel
theorem dX7_reckon_8 : decode cX7_reckon 8 = .ok (.iload_n 3, 1) := by decide +kernel
theorem dX7_reckon_9 : decode cX7_reckon 9 = .ok (.invokestatic 27, 3) := by decide +kernel
theorem dX7_reckon_12 : decode cX7_reckon 12 = .ok (.invokestatic 33, 3) := by decide +kernel
theorem dX7_reckon_15 : decode cX7_reckon 15 = .ok (.putfield 36, 3) := by decide +kernel
theorem dX7_reckon_18 : decode cX7_reckon 18 = .ok (.aload_n 0, 1) := by decide +kernel
theorem dX7_reckon_19 : decode cX7_reckon 19 = .ok (.getfield 20, 3) := by decide +kernel
theorem dX7_reckon_22 : decode cX7_reckon 22 = .ok (.iconst 0, 1) := by decide +kernel
theorem dX7_reckon_23 : decode cX7_reckon 23 = .ok (.aaload, 1) := by decide +kernel
theorem dX7_reckon_24 : decode cX7_reckon 24 = .ok (.invokestatic 39, 3) := by decide +kernel
theorem dX7_reckon_27 : decode cX7_reckon 27 = .ok (.aload_n 0, 1) := by decide +kernel
theorem dX7_reckon_28 : decode cX7_reckon 28 = .ok (.getfield 20, 3) := by decide +kernel
theorem dX7_reckon_31 : decode cX7_reckon 31 = .ok (.iconst 0, 1) := by decide +kernel
theorem dX7_reckon_32 : decode cX7_reckon 32 = .ok (.aaload, 1) := by decide +kernel
theorem dX7_reckon_33 : decode cX7_reckon 33 = .ok (.iconst 0, 1) := by decide +kernel
theorem dX7_reckon_34 : decode cX7_reckon 34 = .ok (.lconst 1, 1) := by decide +kernel
theorem dX7_reckon_35 : decode cX7_reckon 35 = .ok (.lastore, 1) := by decide +kernel
theorem dX7_reckon_36 : decode cX7_reckon 36 = .ok (.iconst 0, 1) := by decide +kernel
theorem dX7_reckon_37 : decode cX7_reckon 37 = .ok (.istore 5, 2) := by decide +kernel
theorem dX7_reckon_39 : decode cX7_reckon 39 = .ok (.iload 5, 2) := by decide +kernel
theorem dX7_reckon_41 : decode cX7_reckon 41 = .ok (.aload_n 0, 1) := by decide +kernel
theorem dX7_reckon_42 : decode cX7_reckon 42 = .ok (.getfield 36, 3) := by decide +kernel
theorem dX7_reckon_45 : decode cX7_reckon 45 = .ok (.if_icmp .ge 30, 3) := by decide +kernel
theorem dX7_reckon_48 : decode cX7_reckon 48 = .ok (.aload_n 0, 1) := by decide +kernel
theorem dX7_reckon_49 : decode cX7_reckon 49 = .ok (.aload_n 1, 1) := by decide +kernel
theorem dX7_reckon_50 : decode cX7_reckon 50 = .ok (.iload 5, 2) := by decide +kernel
theorem dX7_reckon_52 : decode cX7_reckon 52 = .ok (.iload 4, 2) := by decide +kernel
theorem dX7_reckon_54 : decode cX7_reckon 54 = .ok (.invokevirtual 43, 3) := by decide +kernel
theorem dX7_reckon_57 : decode cX7_reckon 57 = .ok (.aload_n 0, 1) := by decide +kernel
theorem dX7_reckon_58 : decode cX7_reckon 58 = .ok (.iload 5, 2) := by decide +kernel
theorem dX7_reckon_60 : decode cX7_reckon 60 = .ok (.aload_n 1, 1) := by decide +kernel
theorem dX7_reckon_61 : decode cX7_reckon 61 = .ok (.iload 5, 2) := by decide +kernel
theorem dX7_reckon_63 : decode cX7_reckon 63 = .ok (.invokevirtual 47, 3) := by decide +kernel
theorem dX7_reckon_66 : decode cX7_reckon 66 = .ok (.invokevirtual 53, 3) := by decide +kernel
theorem dX7_reckon_69 : decode cX7_reckon 69 = .ok (.iinc 5 1, 3) := by decide +kernel
theorem dX7_reckon_72 : decode cX7_reckon 72 = .ok (.goto (-33), 3) := by decide +kernel
theorem dX7_reckon_75 : decode cX7_reckon 75 = .ok (.return_, 1) := by decide +kernel
theorem dX7_solvedIn_0 : decode cX7_solvedIn 0 = .ok (.iload_n 1, 1) := by decide +kernel
theorem dX7_solvedIn_1 : decode cX7_solvedIn 1 = .ok (.ifCond .lt 22, 3) := by decide +kernel
theorem dX7_solvedIn_4 : decode cX7_solvedIn 4 = .ok (.iload_n 1, 1) := by decide +kernel
theorem dX7_solvedIn_5 : decode cX7_solvedIn 5 = .ok (.iconst 5, 1) := by decide +kernel
theorem dX7_solvedIn_6 : decode cX7_solvedIn 6 = .ok (.if_icmp .ge 17, 3) := by decide +kernel
theorem dX7_solvedIn_9 : decode cX7_solvedIn 9 = .ok (.iload_n 2, 1) := by decide +kernel
theorem dX7_solvedIn_10 : decode cX7_solvedIn 10 = .ok (.ifCond .lt 13, 3) := by decide +kernel
theorem dX7_solvedIn_13 : decode cX7_solvedIn 13 = .ok (.iload_n 2, 1) := by decide +kernel
theorem dX7_solvedIn_14 : decode cX7_solvedIn 14 = .ok (.bipush 10, 2) := by decide +kernel
theorem dX7_solvedIn_16 : decode cX7_solvedIn 16 = .ok (.if_icmp .gt 7, 3) := by decide +kernel
theorem dX7_solvedIn_19 : decode cX7_solvedIn 19 = .ok (.iconst 1, 1) := by decide +kernel
theorem dX7_solvedIn_20 : decode cX7_solvedIn 20 = .ok (.goto 4, 3) := by decide +kernel
theorem dX7_solvedIn_23 : decode cX7_solvedIn 23 = .ok (.iconst 0, 1) := by decide +kernel
theorem dX7_solvedIn_24 : decode cX7_solvedIn 24 = .ok (.istore_n 3, 1) := by decide +kernel
theorem dX7_solvedIn_25 : decode cX7_solvedIn 25 = .ok (.iload_n 3, 1) := by decide +kernel
theorem dX7_solvedIn_26 : decode cX7_solvedIn 26 = .ok (.ifCond .eq 14, 3) := by decide +kernel
theorem dX7_solvedIn_29 : decode cX7_solvedIn 29 = .ok (.aload_n 0, 1) := by decide +kernel
theorem dX7_solvedIn_30 : decode cX7_solvedIn 30 = .ok (.getfield 17, 3) := by decide +kernel
theorem dX7_solvedIn_33 : decode cX7_solvedIn 33 = .ok (.iload_n 1, 1) := by decide +kernel
theorem dX7_solvedIn_34 : decode cX7_solvedIn 34 = .ok (.aaload, 1) := by decide +kernel
theorem dX7_solvedIn_35 : decode cX7_solvedIn 35 = .ok (.iload_n 2, 1) := by decide +kernel
theorem dX7_solvedIn_36 : decode cX7_solvedIn 36 = .ok (.laload, 1) := by decide +kernel
theorem dX7_solvedIn_37 : decode cX7_solvedIn 37 = .ok (.goto 4, 3) := by decide +kernel
theorem dX7_solvedIn_40 : decode cX7_solvedIn 40 = .ok (.lconst 0, 1) := by decide +kernel
theorem dX7_solvedIn_41 : decode cX7_solvedIn 41 = .ok (.lreturn, 1) := by decide +kernel
theorem dX7_comeAt_0 : decode cX7_comeAt 0 = .ok (.iload_n 1, 1) := by decide +kernel
theorem dX7_comeAt_1 : decode cX7_comeAt 1 = .ok (.ifCond .lt 22, 3) := by decide +kernel
theorem dX7_comeAt_4 : decode cX7_comeAt 4 = .ok (.iload_n 1, 1) := by decide +kernel
theorem dX7_comeAt_5 : decode cX7_comeAt 5 = .ok (.iconst 5, 1) := by decide +kernel
theorem dX7_comeAt_6 : decode cX7_comeAt 6 = .ok (.if_icmp .gt 17, 3) := by decide +kernel
theorem dX7_comeAt_9 : decode cX7_comeAt 9 = .ok (.iload_n 2, 1) := by decide +kernel
theorem dX7_comeAt_10 : decode cX7_comeAt 10 = .ok (.ifCond .lt 13, 3) := by decide +kernel
theorem dX7_comeAt_13 : decode cX7_comeAt 13 = .ok (.iload_n 2, 1) := by decide +kernel
theorem dX7_comeAt_14 : decode cX7_comeAt 14 = .ok (.bipush 10, 2) := by decide +kernel
theorem dX7_comeAt_16 : decode cX7_comeAt 16 = .ok (.if_icmp .gt 7, 3) := by decide +kernel
theorem dX7_comeAt_19 : decode cX7_comeAt 19 = .ok (.iconst 1, 1) := by decide +kernel
theorem dX7_comeAt_20 : decode cX7_comeAt 20 = .ok (.goto 4, 3) := by decide +kernel
theorem dX7_comeAt_23 : decode cX7_comeAt 23 = .ok (.iconst 0, 1) := by decide +kernel
theorem dX7_comeAt_24 : decode cX7_comeAt 24 = .ok (.istore_n 3, 1) := by decide +kernel
theorem dX7_comeAt_25 : decode cX7_comeAt 25 = .ok (.iload_n 3, 1) := by decide +kernel
theorem dX7_comeAt_26 : decode cX7_comeAt 26 = .ok (.ifCond .eq 14, 3) := by decide +kernel
theorem dX7_comeAt_29 : decode cX7_comeAt 29 = .ok (.aload_n 0, 1) := by decide +kernel
theorem dX7_comeAt_30 : decode cX7_comeAt 30 = .ok (.getfield 20, 3) := by decide +kernel
theorem dX7_comeAt_33 : decode cX7_comeAt 33 = .ok (.iload_n 1, 1) := by decide +kernel
theorem dX7_comeAt_34 : decode cX7_comeAt 34 = .ok (.aaload, 1) := by decide +kernel
theorem dX7_comeAt_35 : decode cX7_comeAt 35 = .ok (.iload_n 2, 1) := by decide +kernel
theorem dX7_comeAt_36 : decode cX7_comeAt 36 = .ok (.laload, 1) := by decide +kernel
theorem dX7_comeAt_37 : decode cX7_comeAt 37 = .ok (.goto 4, 3) := by decide +kernel
theorem dX7_comeAt_40 : decode cX7_comeAt 40 = .ok (.lconst 0, 1) := by decide +kernel
theorem dX7_comeAt_41 : decode cX7_comeAt 41 = .ok (.lreturn, 1) := by decide +kernel
theorem dX7_comeBy_0 : decode cX7_comeBy 0 = .ok (.lconst 0, 1) := by decide +kernel
theorem dX7_comeBy_1 : decode cX7_comeBy 1 = .ok (.lstore_n 3, 1) := by decide +kernel
theorem dX7_comeBy_2 : decode cX7_comeBy 2 = .ok (.iconst 0, 1) := by decide +kernel
theorem dX7_comeBy_3 : decode cX7_comeBy 3 = .ok (.istore 5, 2) := by decide +kernel
theorem dX7_comeBy_5 : decode cX7_comeBy 5 = .ok (.iload 5, 2) := by decide +kernel
theorem dX7_comeBy_7 : decode cX7_comeBy 7 = .ok (.iload_n 2, 1) := by decide +kernel
theorem dX7_comeBy_8 : decode cX7_comeBy 8 = .ok (.if_icmp .gt 31, 3) := by decide +kernel
theorem dX7_comeBy_11 : decode cX7_comeBy 11 = .ok (.iload 5, 2) := by decide +kernel
theorem dX7_comeBy_13 : decode cX7_comeBy 13 = .ok (.bipush 10, 2) := by decide +kernel
theorem dX7_comeBy_15 : decode cX7_comeBy 15 = .ok (.if_icmp .gt 24, 3) := by decide +kernel
theorem dX7_comeBy_18 : decode cX7_comeBy 18 = .ok (.lload_n 3, 1) := by decide +kernel
theorem dX7_comeBy_19 : decode cX7_comeBy 19 = .ok (.aload_n 0, 1) := by decide +kernel
theorem dX7_comeBy_20 : decode cX7_comeBy 20 = .ok (.getfield 23, 3) := by decide +kernel
theorem dX7_comeBy_23 : decode cX7_comeBy 23 = .ok (.lshl, 1) := by decide +kernel
theorem dX7_comeBy_24 : decode cX7_comeBy 24 = .ok (.aload_n 0, 1) := by decide +kernel
theorem dX7_comeBy_25 : decode cX7_comeBy 25 = .ok (.iload_n 1, 1) := by decide +kernel
theorem dX7_comeBy_26 : decode cX7_comeBy 26 = .ok (.iload 5, 2) := by decide +kernel
theorem dX7_comeBy_28 : decode cX7_comeBy 28 = .ok (.invokevirtual 57, 3) := by decide +kernel
theorem dX7_comeBy_31 : decode cX7_comeBy 31 = .ok (.ladd, 1) := by decide +kernel
theorem dX7_comeBy_32 : decode cX7_comeBy 32 = .ok (.lstore_n 3, 1) := by decide +kernel
theorem dX7_comeBy_33 : decode cX7_comeBy 33 = .ok (.iinc 5 1, 3) := by decide +kernel
theorem dX7_comeBy_36 : decode cX7_comeBy 36 = .ok (.goto (-31), 3) := by decide +kernel
theorem dX7_comeBy_39 : decode cX7_comeBy 39 = .ok (.lload_n 3, 1) := by decide +kernel
theorem dX7_comeBy_40 : decode cX7_comeBy 40 = .ok (.lreturn, 1) := by decide +kernel
theorem dX7_aheadOf_0 : decode cX7_aheadOf 0 = .ok (.lconst 1, 1) := by decide +kernel
theorem dX7_aheadOf_1 : decode cX7_aheadOf 1 = .ok (.aload_n 0, 1) := by decide +kernel
theorem dX7_aheadOf_2 : decode cX7_aheadOf 2 = .ok (.getfield 23, 3) := by decide +kernel
theorem dX7_aheadOf_5 : decode cX7_aheadOf 5 = .ok (.bipush 10, 2) := by decide +kernel
theorem dX7_aheadOf_7 : decode cX7_aheadOf 7 = .ok (.imul, 1) := by decide +kernel
theorem dX7_aheadOf_8 : decode cX7_aheadOf 8 = .ok (.lshl, 1) := by decide +kernel
theorem dX7_aheadOf_9 : decode cX7_aheadOf 9 = .ok (.lstore_n 3, 1) := by decide +kernel
theorem dX7_aheadOf_10 : decode cX7_aheadOf 10 = .ok (.lconst 0, 1) := by decide +kernel
theorem dX7_aheadOf_11 : decode cX7_aheadOf 11 = .ok (.lstore 5, 2) := by decide +kernel
theorem dX7_aheadOf_13 : decode cX7_aheadOf 13 = .ok (.iconst 1, 1) := by decide +kernel
theorem dX7_aheadOf_14 : decode cX7_aheadOf 14 = .ok (.istore 7, 2) := by decide +kernel
theorem dX7_aheadOf_16 : decode cX7_aheadOf 16 = .ok (.iload 7, 2) := by decide +kernel
theorem dX7_aheadOf_18 : decode cX7_aheadOf 18 = .ok (.bipush 10, 2) := by decide +kernel
theorem dX7_aheadOf_20 : decode cX7_aheadOf 20 = .ok (.if_icmp .gt 49, 3) := by decide +kernel
theorem dX7_aheadOf_23 : decode cX7_aheadOf 23 = .ok (.aload_n 0, 1) := by decide +kernel
theorem dX7_aheadOf_24 : decode cX7_aheadOf 24 = .ok (.getfield 23, 3) := by decide +kernel
theorem dX7_aheadOf_27 : decode cX7_aheadOf 27 = .ok (.bipush 10, 2) := by decide +kernel
theorem dX7_aheadOf_29 : decode cX7_aheadOf 29 = .ok (.iload 7, 2) := by decide +kernel
theorem dX7_aheadOf_31 : decode cX7_aheadOf 31 = .ok (.isub, 1) := by decide +kernel
theorem dX7_aheadOf_32 : decode cX7_aheadOf 32 = .ok (.imul, 1) := by decide +kernel
theorem dX7_aheadOf_33 : decode cX7_aheadOf 33 = .ok (.istore 8, 2) := by decide +kernel
theorem dX7_aheadOf_35 : decode cX7_aheadOf 35 = .ok (.lload 5, 2) := by decide +kernel
theorem dX7_aheadOf_37 : decode cX7_aheadOf 37 = .ok (.aload_n 0, 1) := by decide +kernel
theorem dX7_aheadOf_38 : decode cX7_aheadOf 38 = .ok (.iload_n 2, 1) := by decide +kernel
theorem dX7_aheadOf_39 : decode cX7_aheadOf 39 = .ok (.iload 7, 2) := by decide +kernel
theorem dX7_aheadOf_41 : decode cX7_aheadOf 41 = .ok (.invokevirtual 57, 3) := by decide +kernel
theorem dX7_aheadOf_44 : decode cX7_aheadOf 44 = .ok (.iload 8, 2) := by decide +kernel
theorem dX7_aheadOf_46 : decode cX7_aheadOf 46 = .ok (.lshl, 1) := by decide +kernel
theorem dX7_aheadOf_47 : decode cX7_aheadOf 47 = .ok (.lload_n 3, 1) := by decide +kernel
theorem dX7_aheadOf_48 : decode cX7_aheadOf 48 = .ok (.aload_n 1, 1) := by decide +kernel
theorem dX7_aheadOf_49 : decode cX7_aheadOf 49 = .ok (.iload_n 2, 1) := by decide +kernel
theorem dX7_aheadOf_50 : decode cX7_aheadOf 50 = .ok (.iload 7, 2) := by decide +kernel
theorem dX7_aheadOf_52 : decode cX7_aheadOf 52 = .ok (.invokevirtual 61, 3) := by decide +kernel
theorem dX7_aheadOf_55 : decode cX7_aheadOf 55 = .ok (.iload 8, 2) := by decide +kernel
theorem dX7_aheadOf_57 : decode cX7_aheadOf 57 = .ok (.lshl, 1) := by decide +kernel
theorem dX7_aheadOf_58 : decode cX7_aheadOf 58 = .ok (.lsub, 1) := by decide +kernel
theorem dX7_aheadOf_59 : decode cX7_aheadOf 59 = .ok (.lmul, 1) := by decide +kernel
theorem dX7_aheadOf_60 : decode cX7_aheadOf 60 = .ok (.ladd, 1) := by decide +kernel
theorem dX7_aheadOf_61 : decode cX7_aheadOf 61 = .ok (.lstore 5, 2) := by decide +kernel
theorem dX7_aheadOf_63 : decode cX7_aheadOf 63 = .ok (.iinc 7 1, 3) := by decide +kernel
theorem dX7_aheadOf_66 : decode cX7_aheadOf 66 = .ok (.goto (-50), 3) := by decide +kernel
theorem dX7_aheadOf_69 : decode cX7_aheadOf 69 = .ok (.lload 5, 2) := by decide +kernel
theorem dX7_aheadOf_71 : decode cX7_aheadOf 71 = .ok (.lreturn, 1) := by decide +kernel
theorem dX7_likeAs_0 : decode cX7_likeAs 0 = .ok (.lconst 0, 1) := by decide +kernel
theorem dX7_likeAs_1 : decode cX7_likeAs 1 = .ok (.lstore_n 3, 1) := by decide +kernel
theorem dX7_likeAs_2 : decode cX7_likeAs 2 = .ok (.iconst 1, 1) := by decide +kernel
theorem dX7_likeAs_3 : decode cX7_likeAs 3 = .ok (.istore 5, 2) := by decide +kernel
theorem dX7_likeAs_5 : decode cX7_likeAs 5 = .ok (.iload 5, 2) := by decide +kernel
theorem dX7_likeAs_7 : decode cX7_likeAs 7 = .ok (.bipush 10, 2) := by decide +kernel
theorem dX7_likeAs_9 : decode cX7_likeAs 9 = .ok (.if_icmp .gt 45, 3) := by decide +kernel
theorem dX7_likeAs_12 : decode cX7_likeAs 12 = .ok (.aload_n 0, 1) := by decide +kernel
theorem dX7_likeAs_13 : decode cX7_likeAs 13 = .ok (.getfield 23, 3) := by decide +kernel
theorem dX7_likeAs_16 : decode cX7_likeAs 16 = .ok (.bipush 10, 2) := by decide +kernel
theorem dX7_likeAs_18 : decode cX7_likeAs 18 = .ok (.iload 5, 2) := by decide +kernel
theorem dX7_likeAs_20 : decode cX7_likeAs 20 = .ok (.isub, 1) := by decide +kernel
theorem dX7_likeAs_21 : decode cX7_likeAs 21 = .ok (.imul, 1) := by decide +kernel
theorem dX7_likeAs_22 : decode cX7_likeAs 22 = .ok (.istore 6, 2) := by decide +kernel
theorem dX7_likeAs_24 : decode cX7_likeAs 24 = .ok (.lload_n 3, 1) := by decide +kernel
theorem dX7_likeAs_25 : decode cX7_likeAs 25 = .ok (.aload_n 0, 1) := by decide +kernel
theorem dX7_likeAs_26 : decode cX7_likeAs 26 = .ok (.iload_n 2, 1) := by decide +kernel
theorem dX7_likeAs_27 : decode cX7_likeAs 27 = .ok (.iload 5, 2) := by decide +kernel
theorem dX7_likeAs_29 : decode cX7_likeAs 29 = .ok (.invokevirtual 57, 3) := by decide +kernel
theorem dX7_likeAs_32 : decode cX7_likeAs 32 = .ok (.iload 6, 2) := by decide +kernel
theorem dX7_likeAs_34 : decode cX7_likeAs 34 = .ok (.lshl, 1) := by decide +kernel
theorem dX7_likeAs_35 : decode cX7_likeAs 35 = .ok (.aload_n 1, 1) := by decide +kernel
theorem dX7_likeAs_36 : decode cX7_likeAs 36 = .ok (.iload_n 2, 1) := by decide +kernel
theorem dX7_likeAs_37 : decode cX7_likeAs 37 = .ok (.iload 5, 2) := by decide +kernel
theorem dX7_likeAs_39 : decode cX7_likeAs 39 = .ok (.invokevirtual 57, 3) := by decide +kernel
theorem dX7_likeAs_42 : decode cX7_likeAs 42 = .ok (.iload 6, 2) := by decide +kernel
theorem dX7_likeAs_44 : decode cX7_likeAs 44 = .ok (.lshl, 1) := by decide +kernel
theorem dX7_likeAs_45 : decode cX7_likeAs 45 = .ok (.lmul, 1) := by decide +kernel
theorem dX7_likeAs_46 : decode cX7_likeAs 46 = .ok (.ladd, 1) := by decide +kernel
theorem dX7_likeAs_47 : decode cX7_likeAs 47 = .ok (.lstore_n 3, 1) := by decide +kernel
theorem dX7_likeAs_48 : decode cX7_likeAs 48 = .ok (.iinc 5 1, 3) := by decide +kernel
theorem dX7_likeAs_51 : decode cX7_likeAs 51 = .ok (.goto (-46), 3) := by decide +kernel
theorem dX7_likeAs_54 : decode cX7_likeAs 54 = .ok (.lload_n 3, 1) := by decide +kernel
theorem dX7_likeAs_55 : decode cX7_likeAs 55 = .ok (.lreturn, 1) := by decide +kernel
theorem dX7_think_0 : decode cX7_think 0 = .ok (.aload_n 0, 1) := by decide +kernel
theorem dX7_think_1 : decode cX7_think 1 = .ok (.getfield 17, 3) := by decide +kernel
theorem dX7_think_4 : decode cX7_think 4 = .ok (.iload_n 2, 1) := by decide +kernel
theorem dX7_think_5 : decode cX7_think 5 = .ok (.aaload, 1) := by decide +kernel
theorem dX7_think_6 : decode cX7_think 6 = .ok (.astore 4, 2) := by decide +kernel
theorem dX7_think_8 : decode cX7_think 8 = .ok (.aload 4, 2) := by decide +kernel
theorem dX7_think_10 : decode cX7_think 10 = .ok (.invokestatic 39, 3) := by decide +kernel
theorem dX7_think_13 : decode cX7_think 13 = .ok (.aload_n 0, 1) := by decide +kernel
theorem dX7_think_14 : decode cX7_think 14 = .ok (.getfield 9, 3) := by decide +kernel
theorem dX7_think_17 : decode cX7_think 17 = .ok (.invokestatic 39, 3) := by decide +kernel
theorem dX7_think_20 : decode cX7_think 20 = .ok (.aload_n 0, 1) := by decide +kernel
theorem dX7_think_21 : decode cX7_think 21 = .ok (.getfield 9, 3) := by decide +kernel
theorem dX7_think_24 : decode cX7_think 24 = .ok (.iconst 0, 1) := by decide +kernel
theorem dX7_think_25 : decode cX7_think 25 = .ok (.lconst 1, 1) := by decide +kernel
theorem dX7_think_26 : decode cX7_think 26 = .ok (.lastore, 1) := by decide +kernel
theorem dX7_think_27 : decode cX7_think 27 = .ok (.iconst 0, 1) := by decide +kernel
theorem dX7_think_28 : decode cX7_think 28 = .ok (.istore 5, 2) := by decide +kernel
theorem dX7_think_30 : decode cX7_think 30 = .ok (.iload 5, 2) := by decide +kernel
theorem dX7_think_32 : decode cX7_think 32 = .ok (.bipush 10, 2) := by decide +kernel
theorem dX7_think_34 : decode cX7_think 34 = .ok (.if_icmp .ge 145, 3) := by decide +kernel
theorem dX7_think_37 : decode cX7_think 37 = .ok (.aload_n 0, 1) := by decide +kernel
theorem dX7_think_38 : decode cX7_think 38 = .ok (.getfield 9, 3) := by decide +kernel
theorem dX7_think_41 : decode cX7_think 41 = .ok (.iload 5, 2) := by decide +kernel
theorem dX7_think_43 : decode cX7_think 43 = .ok (.laload, 1) := by decide +kernel
theorem dX7_think_44 : decode cX7_think 44 = .ok (.lstore 6, 2) := by decide +kernel
theorem dX7_think_46 : decode cX7_think 46 = .ok (.iload 5, 2) := by decide +kernel
theorem dX7_think_48 : decode cX7_think 48 = .ok (.iconst 1, 1) := by decide +kernel
theorem dX7_think_49 : decode cX7_think 49 = .ok (.iadd, 1) := by decide +kernel
theorem dX7_think_50 : decode cX7_think 50 = .ok (.istore 8, 2) := by decide +kernel
theorem dX7_think_52 : decode cX7_think 52 = .ok (.iload 8, 2) := by decide +kernel
theorem dX7_think_54 : decode cX7_think 54 = .ok (.bipush 10, 2) := by decide +kernel
theorem dX7_think_56 : decode cX7_think 56 = .ok (.if_icmp .gt 117, 3) := by decide +kernel
theorem dX7_think_59 : decode cX7_think 59 = .ok (.lload 6, 2) := by decide +kernel
theorem dX7_think_61 : decode cX7_think 61 = .ok (.lconst 0, 1) := by decide +kernel
theorem dX7_think_62 : decode cX7_think 62 = .ok (.lcmp, 1) := by decide +kernel
theorem dX7_think_63 : decode cX7_think 63 = .ok (.ifCond .eq 110, 3) := by decide +kernel
theorem dX7_think_66 : decode cX7_think 66 = .ok (.iconst 5, 1) := by decide +kernel
theorem dX7_think_67 : decode cX7_think 67 = .ok (.iload 8, 2) := by decide +kernel
theorem dX7_think_69 : decode cX7_think 69 = .ok (.iconst 1, 1) := by decide +kernel
theorem dX7_think_70 : decode cX7_think 70 = .ok (.isub, 1) := by decide +kernel
theorem dX7_think_71 : decode cX7_think 71 = .ok (.iload 5, 2) := by decide +kernel
theorem dX7_think_73 : decode cX7_think 73 = .ok (.isub, 1) := by decide +kernel
theorem dX7_think_74 : decode cX7_think 74 = .ok (.invokestatic 27, 3) := by decide +kernel
theorem dX7_think_77 : decode cX7_think 77 = .ok (.istore 9, 2) := by decide +kernel
theorem dX7_think_79 : decode cX7_think 79 = .ok (.aload_n 1, 1) := by decide +kernel
theorem dX7_think_80 : decode cX7_think 80 = .ok (.iload_n 2, 1) := by decide +kernel
theorem dX7_think_81 : decode cX7_think 81 = .ok (.iload 9, 2) := by decide +kernel
theorem dX7_think_83 : decode cX7_think 83 = .ok (.invokevirtual 64, 3) := by decide +kernel
theorem dX7_think_86 : decode cX7_think 86 = .ok (.istore 10, 2) := by decide +kernel
theorem dX7_think_88 : decode cX7_think 88 = .ok (.aload_n 1, 1) := by decide +kernel
theorem dX7_think_89 : decode cX7_think 89 = .ok (.iload_n 2, 1) := by decide +kernel
theorem dX7_think_90 : decode cX7_think 90 = .ok (.iload 9, 2) := by decide +kernel
theorem dX7_think_92 : decode cX7_think 92 = .ok (.invokevirtual 67, 3) := by decide +kernel
theorem dX7_think_95 : decode cX7_think 95 = .ok (.istore 11, 2) := by decide +kernel
theorem dX7_think_97 : decode cX7_think 97 = .ok (.aload 4, 2) := by decide +kernel
theorem dX7_think_99 : decode cX7_think 99 = .ok (.iload 8, 2) := by decide +kernel
theorem dX7_think_101 : decode cX7_think 101 = .ok (.dup2, 1) := by decide +kernel
theorem dX7_think_102 : decode cX7_think 102 = .ok (.laload, 1) := by decide +kernel
theorem dX7_think_103 : decode cX7_think 103 = .ok (.lload 6, 2) := by decide +kernel
theorem dX7_think_105 : decode cX7_think 105 = .ok (.iload 10, 2) := by decide +kernel
theorem dX7_think_107 : decode cX7_think 107 = .ok (.i2l, 1) := by decide +kernel
theorem dX7_think_108 : decode cX7_think 108 = .ok (.lmul, 1) := by decide +kernel
theorem dX7_think_109 : decode cX7_think 109 = .ok (.ladd, 1) := by decide +kernel
theorem dX7_think_110 : decode cX7_think 110 = .ok (.lastore, 1) := by decide +kernel
theorem dX7_think_111 : decode cX7_think 111 = .ok (.iload_n 3, 1) := by decide +kernel
theorem dX7_think_112 : decode cX7_think 112 = .ok (.ifCond .lt 37, 3) := by decide +kernel
theorem dX7_think_115 : decode cX7_think 115 = .ok (.iload 8, 2) := by decide +kernel
theorem dX7_think_117 : decode cX7_think 117 = .ok (.iload_n 3, 1) := by decide +kernel
theorem dX7_think_118 : decode cX7_think 118 = .ok (.iadd, 1) := by decide +kernel
theorem dX7_think_119 : decode cX7_think 119 = .ok (.bipush 10, 2) := by decide +kernel
theorem dX7_think_121 : decode cX7_think 121 = .ok (.if_icmp .gt 28, 3) := by decide +kernel
theorem dX7_think_124 : decode cX7_think 124 = .ok (.aload_n 0, 1) := by decide +kernel
theorem dX7_think_125 : decode cX7_think 125 = .ok (.getfield 9, 3) := by decide +kernel
theorem dX7_think_128 : decode cX7_think 128 = .ok (.iload 8, 2) := by decide +kernel
theorem dX7_think_130 : decode cX7_think 130 = .ok (.iload_n 3, 1) := by decide +kernel
theorem dX7_think_131 : decode cX7_think 131 = .ok (.iadd, 1) := by decide +kernel
theorem dX7_think_132 : decode cX7_think 132 = .ok (.dup2, 1) := by decide +kernel
theorem dX7_think_133 : decode cX7_think 133 = .ok (.laload, 1) := by decide +kernel
theorem dX7_think_134 : decode cX7_think 134 = .ok (.lload 6, 2) := by decide +kernel
theorem dX7_think_136 : decode cX7_think 136 = .ok (.iload 11, 2) := by decide +kernel
theorem dX7_think_138 : decode cX7_think 138 = .ok (.i2l, 1) := by decide +kernel
theorem dX7_think_139 : decode cX7_think 139 = .ok (.lmul, 1) := by decide +kernel
theorem dX7_think_140 : decode cX7_think 140 = .ok (.aload_n 0, 1) := by decide +kernel
theorem dX7_think_141 : decode cX7_think 141 = .ok (.getfield 23, 3) := by decide +kernel
theorem dX7_think_144 : decode cX7_think 144 = .ok (.iload_n 3, 1) := by decide +kernel
theorem dX7_think_145 : decode cX7_think 145 = .ok (.imul, 1) := by decide +kernel
theorem dX7_think_146 : decode cX7_think 146 = .ok (.lshl, 1) := by decide +kernel
theorem dX7_think_147 : decode cX7_think 147 = .ok (.ladd, 1) := by decide +kernel
theorem dX7_think_148 : decode cX7_think 148 = .ok (.lastore, 1) := by decide +kernel
theorem dX7_think_149 : decode cX7_think 149 = .ok (.lload 6, 2) := by decide +kernel
theorem dX7_think_151 : decode cX7_think 151 = .ok (.iconst 1, 1) := by decide +kernel
theorem dX7_think_152 : decode cX7_think 152 = .ok (.aload_n 0, 1) := by decide +kernel
theorem dX7_think_153 : decode cX7_think 153 = .ok (.getfield 23, 3) := by decide +kernel
theorem dX7_think_156 : decode cX7_think 156 = .ok (.ishl, 1) := by decide +kernel
theorem dX7_think_157 : decode cX7_think 157 = .ok (.iload 10, 2) := by decide +kernel
theorem dX7_think_159 : decode cX7_think 159 = .ok (.isub, 1) := by decide +kernel
theorem dX7_think_160 : decode cX7_think 160 = .ok (.iload 11, 2) := by decide +kernel
theorem dX7_think_162 : decode cX7_think 162 = .ok (.isub, 1) := by decide +kernel
theorem dX7_think_163 : decode cX7_think 163 = .ok (.i2l, 1) := by decide +kernel
theorem dX7_think_164 : decode cX7_think 164 = .ok (.lmul, 1) := by decide +kernel
theorem dX7_think_165 : decode cX7_think 165 = .ok (.lstore 6, 2) := by decide +kernel
theorem dX7_think_167 : decode cX7_think 167 = .ok (.iinc 8 1, 3) := by decide +kernel
theorem dX7_think_170 : decode cX7_think 170 = .ok (.goto (-118), 3) := by decide +kernel
theorem dX7_think_173 : decode cX7_think 173 = .ok (.iinc 5 1, 3) := by decide +kernel
theorem dX7_think_176 : decode cX7_think 176 = .ok (.goto (-146), 3) := by decide +kernel
theorem dX7_think_179 : decode cX7_think 179 = .ok (.return_, 1) := by decide +kernel
theorem dX7_goOn_0 : decode cX7_goOn 0 = .ok (.aload_n 0, 1) := by decide +kernel
theorem dX7_goOn_1 : decode cX7_goOn 1 = .ok (.getfield 20, 3) := by decide +kernel
theorem dX7_goOn_4 : decode cX7_goOn 4 = .ok (.iload_n 1, 1) := by decide +kernel
theorem dX7_goOn_5 : decode cX7_goOn 5 = .ok (.aaload, 1) := by decide +kernel
theorem dX7_goOn_6 : decode cX7_goOn 6 = .ok (.astore_n 3, 1) := by decide +kernel
theorem dX7_goOn_7 : decode cX7_goOn 7 = .ok (.aload_n 0, 1) := by decide +kernel
theorem dX7_goOn_8 : decode cX7_goOn 8 = .ok (.getfield 20, 3) := by decide +kernel
theorem dX7_goOn_11 : decode cX7_goOn 11 = .ok (.iload_n 1, 1) := by decide +kernel
theorem dX7_goOn_12 : decode cX7_goOn 12 = .ok (.iconst 1, 1) := by decide +kernel
theorem dX7_goOn_13 : decode cX7_goOn 13 = .ok (.iadd, 1) := by decide +kernel
theorem dX7_goOn_14 : decode cX7_goOn 14 = .ok (.aaload, 1) := by decide +kernel
theorem dX7_goOn_15 : decode cX7_goOn 15 = .ok (.astore 4, 2) := by decide +kernel
theorem dX7_goOn_17 : decode cX7_goOn 17 = .ok (.aload 4, 2) := by decide +kernel
theorem dX7_goOn_19 : decode cX7_goOn 19 = .ok (.invokestatic 39, 3) := by decide +kernel
theorem dX7_goOn_22 : decode cX7_goOn 22 = .ok (.iconst 0, 1) := by decide +kernel
theorem dX7_goOn_23 : decode cX7_goOn 23 = .ok (.istore 5, 2) := by decide +kernel
theorem dX7_goOn_25 : decode cX7_goOn 25 = .ok (.iload 5, 2) := by decide +kernel
theorem dX7_goOn_27 : decode cX7_goOn 27 = .ok (.bipush 10, 2) := by decide +kernel
theorem dX7_goOn_29 : decode cX7_goOn 29 = .ok (.if_icmp .gt 62, 3) := by decide +kernel
theorem dX7_goOn_32 : decode cX7_goOn 32 = .ok (.iconst 1, 1) := by decide +kernel
theorem dX7_goOn_33 : decode cX7_goOn 33 = .ok (.istore 6, 2) := by decide +kernel
theorem dX7_goOn_35 : decode cX7_goOn 35 = .ok (.iload 5, 2) := by decide +kernel
theorem dX7_goOn_37 : decode cX7_goOn 37 = .ok (.iload 6, 2) := by decide +kernel
theorem dX7_goOn_39 : decode cX7_goOn 39 = .ok (.iadd, 1) := by decide +kernel
theorem dX7_goOn_40 : decode cX7_goOn 40 = .ok (.iload_n 2, 1) := by decide +kernel
theorem dX7_goOn_41 : decode cX7_goOn 41 = .ok (.iadd, 1) := by decide +kernel
theorem dX7_goOn_42 : decode cX7_goOn 42 = .ok (.bipush 10, 2) := by decide +kernel
theorem dX7_goOn_44 : decode cX7_goOn 44 = .ok (.if_icmp .gt 41, 3) := by decide +kernel
theorem dX7_goOn_47 : decode cX7_goOn 47 = .ok (.aload 4, 2) := by decide +kernel
theorem dX7_goOn_49 : decode cX7_goOn 49 = .ok (.iload 5, 2) := by decide +kernel
theorem dX7_goOn_51 : decode cX7_goOn 51 = .ok (.iload 6, 2) := by decide +kernel
theorem dX7_goOn_53 : decode cX7_goOn 53 = .ok (.iadd, 1) := by decide +kernel
theorem dX7_goOn_54 : decode cX7_goOn 54 = .ok (.iload_n 2, 1) := by decide +kernel
theorem dX7_goOn_55 : decode cX7_goOn 55 = .ok (.iadd, 1) := by decide +kernel
theorem dX7_goOn_56 : decode cX7_goOn 56 = .ok (.dup2, 1) := by decide +kernel
theorem dX7_goOn_57 : decode cX7_goOn 57 = .ok (.laload, 1) := by decide +kernel
theorem dX7_goOn_58 : decode cX7_goOn 58 = .ok (.aload_n 3, 1) := by decide +kernel
theorem dX7_goOn_59 : decode cX7_goOn 59 = .ok (.iload 5, 2) := by decide +kernel
theorem dX7_goOn_61 : decode cX7_goOn 61 = .ok (.laload, 1) := by decide +kernel
theorem dX7_goOn_62 : decode cX7_goOn 62 = .ok (.aload_n 0, 1) := by decide +kernel
theorem dX7_goOn_63 : decode cX7_goOn 63 = .ok (.iload_n 1, 1) := by decide +kernel
theorem dX7_goOn_64 : decode cX7_goOn 64 = .ok (.iload 6, 2) := by decide +kernel
theorem dX7_goOn_66 : decode cX7_goOn 66 = .ok (.invokevirtual 70, 3) := by decide +kernel
theorem dX7_goOn_69 : decode cX7_goOn 69 = .ok (.lmul, 1) := by decide +kernel
theorem dX7_goOn_70 : decode cX7_goOn 70 = .ok (.aload_n 0, 1) := by decide +kernel
theorem dX7_goOn_71 : decode cX7_goOn 71 = .ok (.getfield 23, 3) := by decide +kernel
theorem dX7_goOn_74 : decode cX7_goOn 74 = .ok (.iload_n 2, 1) := by decide +kernel
theorem dX7_goOn_75 : decode cX7_goOn 75 = .ok (.imul, 1) := by decide +kernel
theorem dX7_goOn_76 : decode cX7_goOn 76 = .ok (.lshl, 1) := by decide +kernel
theorem dX7_goOn_77 : decode cX7_goOn 77 = .ok (.ladd, 1) := by decide +kernel
theorem dX7_goOn_78 : decode cX7_goOn 78 = .ok (.lastore, 1) := by decide +kernel
theorem dX7_goOn_79 : decode cX7_goOn 79 = .ok (.iinc 6 1, 3) := by decide +kernel
theorem dX7_goOn_82 : decode cX7_goOn 82 = .ok (.goto (-47), 3) := by decide +kernel
theorem dX7_goOn_85 : decode cX7_goOn 85 = .ok (.iinc 5 1, 3) := by decide +kernel
theorem dX7_goOn_88 : decode cX7_goOn 88 = .ok (.goto (-63), 3) := by decide +kernel
theorem dX7_goOn_91 : decode cX7_goOn 91 = .ok (.return_, 1) := by decide +kernel
theorem dX7_wipe_0 : decode cX7_wipe 0 = .ok (.iconst 0, 1) := by decide +kernel
theorem dX7_wipe_1 : decode cX7_wipe 1 = .ok (.istore_n 1, 1) := by decide +kernel
theorem dX7_wipe_2 : decode cX7_wipe 2 = .ok (.iload_n 1, 1) := by decide +kernel
theorem dX7_wipe_3 : decode cX7_wipe 3 = .ok (.aload_n 0, 1) := by decide +kernel
theorem dX7_wipe_4 : decode cX7_wipe 4 = .ok (.arraylength, 1) := by decide +kernel
theorem dX7_wipe_5 : decode cX7_wipe 5 = .ok (.if_icmp .ge 13, 3) := by decide +kernel
theorem dX7_wipe_8 : decode cX7_wipe 8 = .ok (.aload_n 0, 1) := by decide +kernel
theorem dX7_wipe_9 : decode cX7_wipe 9 = .ok (.iload_n 1, 1) := by decide +kernel
theorem dX7_wipe_10 : decode cX7_wipe 10 = .ok (.lconst 0, 1) := by decide +kernel
theorem dX7_wipe_11 : decode cX7_wipe 11 = .ok (.lastore, 1) := by decide +kernel
theorem dX7_wipe_12 : decode cX7_wipe 12 = .ok (.iinc 1 1, 3) := by decide +kernel
theorem dX7_wipe_15 : decode cX7_wipe 15 = .ok (.goto (-13), 3) := by decide +kernel
theorem dX7_wipe_18 : decode cX7_wipe 18 = .ok (.return_, 1) := by decide +kernel
theorem dX8_init_0 : decode cX8_init 0 = .ok (.aload_n 0, 1) := by decide +kernel
theorem dX8_init_1 : decode cX8_init 1 = .ok (.invokespecial 3, 3) := by decide +kernel
theorem dX8_init_4 : decode cX8_init 4 = .ok (.aload_n 0, 1) := by decide +kernel
theorem dX8_init_5 : decode cX8_init 5 = .ok (.bipush 30, 2) := by decide +kernel
theorem dX8_init_7 : decode cX8_init 7 = .ok (.newarray .int, 2) := by decide +kernel
theorem dX8_init_9 : decode cX8_init 9 = .ok (.putfield 9, 3) := by decide +kernel
theorem dX8_init_12 : decode cX8_init 12 = .ok (.aload_n 0, 1) := by decide +kernel
theorem dX8_init_13 : decode cX8_init 13 = .ok (.bipush 30, 2) := by decide +kernel
theorem dX8_init_15 : decode cX8_init 15 = .ok (.newarray .int, 2) := by decide +kernel
theorem dX8_init_17 : decode cX8_init 17 = .ok (.putfield 15, 3) := by decide +kernel
theorem dX8_init_20 : decode cX8_init 20 = .ok (.aload_n 0, 1) := by decide +kernel
theorem dX8_init_21 : decode cX8_init 21 = .ok (.iconst 5, 1) := by decide +kernel
theorem dX8_init_22 : decode cX8_init 22 = .ok (.newarray .int, 2) := by decide +kernel
theorem dX8_init_24 : decode cX8_init 24 = .ok (.putfield 18, 3) := by decide +kernel
theorem dX8_init_27 : decode cX8_init 27 = .ok (.aload_n 0, 1) := by decide +kernel
theorem dX8_init_28 : decode cX8_init 28 = .ok (.iconst (-1), 1) := by decide +kernel
theorem dX8_init_29 : decode cX8_init 29 = .ok (.putfield 21, 3) := by decide +kernel
theorem dX8_init_32 : decode cX8_init 32 = .ok (.return_, 1) := by decide +kernel
theorem dX8_join_0 : decode cX8_join 0 = .ok (.iconst 0, 1) := by decide +kernel
theorem dX8_join_1 : decode cX8_join 1 = .ok (.istore_n 3, 1) := by decide +kernel
theorem dX8_join_2 : decode cX8_join 2 = .ok (.iload_n 3, 1) := by decide +kernel
theorem dX8_join_3 : decode cX8_join 3 = .ok (.aload_n 0, 1) := by decide +kernel
theorem dX8_join_4 : decode cX8_join 4 = .ok (.getfield 9, 3) := by decide +kernel
theorem dX8_join_7 : decode cX8_join 7 = .ok (.arraylength, 1) := by decide +kernel
theorem dX8_join_8 : decode cX8_join 8 = .ok (.if_icmp .ge 83, 3) := by decide +kernel
theorem dX8_join_11 : decode cX8_join 11 = .ok (.bipush 8, 2) := by decide +kernel
theorem dX8_join_13 : decode cX8_join 13 = .ok (.aload_n 1, 1) := by decide +kernel
theorem dX8_join_14 : decode cX8_join 14 = .ok (.getfield 9, 3) := by decide +kernel
theorem dX8_join_17 : decode cX8_join 17 = .ok (.iload_n 3, 1) := by decide +kernel
theorem dX8_join_18 : decode cX8_join 18 = .ok (.iaload, 1) := by decide +kernel
theorem dX8_join_19 : decode cX8_join 19 = .ok (.isub, 1) := by decide +kernel
theorem dX8_join_20 : decode cX8_join 20 = .ok (.bipush 8, 2) := by decide +kernel
theorem dX8_join_22 : decode cX8_join 22 = .ok (.aload_n 2, 1) := by decide +kernel
theorem dX8_join_23 : decode cX8_join 23 = .ok (.getfield 9, 3) := by decide +kernel
theorem dX8_join_26 : decode cX8_join 26 = .ok (.iload_n 3, 1) := by decide +kernel
theorem dX8_join_27 : decode cX8_join 27 = .ok (.iaload, 1) := by decide +kernel
theorem dX8_join_28 : decode cX8_join 28 = .ok (.isub, 1) := by decide +kernel
theorem dX8_join_29 : decode cX8_join 29 = .ok (.imul, 1) := by decide +kernel
theorem dX8_join_30 : decode cX8_join 30 = .ok (.istore 4, 2) := by decide +kernel
theorem dX8_join_32 : decode cX8_join 32 = .ok (.aload_n 0, 1) := by decide +kernel
theorem dX8_join_33 : decode cX8_join 33 = .ok (.getfield 9, 3) := by decide +kernel
theorem dX8_join_36 : decode cX8_join 36 = .ok (.iload_n 3, 1) := by decide +kernel
theorem dX8_join_37 : decode cX8_join 37 = .ok (.bipush 64, 2) := by decide +kernel
theorem dX8_join_39 : decode cX8_join 39 = .ok (.iload 4, 2) := by decide +kernel
theorem dX8_join_41 : decode cX8_join 41 = .ok (.isub, 1) := by decide +kernel
theorem dX8_join_42 : decode cX8_join 42 = .ok (.iastore, 1) := by decide +kernel
theorem dX8_join_43 : decode cX8_join 43 = .ok (.aload_n 0, 1) := by decide +kernel
theorem dX8_join_44 : decode cX8_join 44 = .ok (.getfield 15, 3) := by decide +kernel
theorem dX8_join_47 : decode cX8_join 47 = .ok (.iload_n 3, 1) := by decide +kernel
theorem dX8_join_48 : decode cX8_join 48 = .ok (.iload 4, 2) := by decide +kernel
theorem dX8_join_50 : decode cX8_join 50 = .ok (.bipush 8, 2) := by decide +kernel
theorem dX8_join_52 : decode cX8_join 52 = .ok (.aload_n 1, 1) := by decide +kernel
theorem dX8_join_53 : decode cX8_join 53 = .ok (.getfield 9, 3) := by decide +kernel
theorem dX8_join_56 : decode cX8_join 56 = .ok (.iload_n 3, 1) := by decide +kernel
theorem dX8_join_57 : decode cX8_join 57 = .ok (.iaload, 1) := by decide +kernel
theorem dX8_join_58 : decode cX8_join 58 = .ok (.isub, 1) := by decide +kernel
theorem dX8_join_59 : decode cX8_join 59 = .ok (.aload_n 1, 1) := by decide +kernel
theorem dX8_join_60 : decode cX8_join 60 = .ok (.getfield 15, 3) := by decide +kernel
theorem dX8_join_63 : decode cX8_join 63 = .ok (.iload_n 3, 1) := by decide +kernel
theorem dX8_join_64 : decode cX8_join 64 = .ok (.iaload, 1) := by decide +kernel
theorem dX8_join_65 : decode cX8_join 65 = .ok (.isub, 1) := by decide +kernel
theorem dX8_join_66 : decode cX8_join 66 = .ok (.bipush 8, 2) := by decide +kernel
theorem dX8_join_68 : decode cX8_join 68 = .ok (.aload_n 2, 1) := by decide +kernel
theorem dX8_join_69 : decode cX8_join 69 = .ok (.getfield 9, 3) := by decide +kernel
theorem dX8_join_72 : decode cX8_join 72 = .ok (.iload_n 3, 1) := by decide +kernel
theorem dX8_join_73 : decode cX8_join 73 = .ok (.iaload, 1) := by decide +kernel
theorem dX8_join_74 : decode cX8_join 74 = .ok (.isub, 1) := by decide +kernel
theorem dX8_join_75 : decode cX8_join 75 = .ok (.aload_n 2, 1) := by decide +kernel
theorem dX8_join_76 : decode cX8_join 76 = .ok (.getfield 15, 3) := by decide +kernel
theorem dX8_join_79 : decode cX8_join 79 = .ok (.iload_n 3, 1) := by decide +kernel
theorem dX8_join_80 : decode cX8_join 80 = .ok (.iaload, 1) := by decide +kernel
theorem dX8_join_81 : decode cX8_join 81 = .ok (.isub, 1) := by decide +kernel
theorem dX8_join_82 : decode cX8_join 82 = .ok (.imul, 1) := by decide +kernel
theorem dX8_join_83 : decode cX8_join 83 = .ok (.isub, 1) := by decide +kernel
theorem dX8_join_84 : decode cX8_join 84 = .ok (.iastore, 1) := by decide +kernel
theorem dX8_join_85 : decode cX8_join 85 = .ok (.iinc 3 1, 3) := by decide +kernel
theorem dX8_join_88 : decode cX8_join 88 = .ok (.goto (-86), 3) := by decide +kernel
theorem dX8_join_91 : decode cX8_join 91 = .ok (.iconst 0, 1) := by decide +kernel
theorem dX8_join_92 : decode cX8_join 92 = .ok (.istore_n 3, 1) := by decide +kernel
theorem dX8_join_93 : decode cX8_join 93 = .ok (.iload_n 3, 1) := by decide +kernel
theorem dX8_join_94 : decode cX8_join 94 = .ok (.iconst 5, 1) := by decide +kernel
theorem dX8_join_95 : decode cX8_join 95 = .ok (.if_icmp .ge 30, 3) := by decide +kernel
theorem dX8_join_98 : decode cX8_join 98 = .ok (.aload_n 0, 1) := by decide +kernel
theorem dX8_join_99 : decode cX8_join 99 = .ok (.getfield 18, 3) := by decide +kernel
theorem dX8_join_102 : decode cX8_join 102 = .ok (.iload_n 3, 1) := by decide +kernel
theorem dX8_join_103 : decode cX8_join 103 = .ok (.aload_n 1, 1) := by decide +kernel
theorem dX8_join_104 : decode cX8_join 104 = .ok (.getfield 18, 3) := by decide +kernel
theorem dX8_join_107 : decode cX8_join 107 = .ok (.iload_n 3, 1) := by decide +kernel
theorem dX8_join_108 : decode cX8_join 108 = .ok (.iaload, 1) := by decide +kernel
theorem dX8_join_109 : decode cX8_join 109 = .ok (.aload_n 2, 1) := by decide +kernel
theorem dX8_join_110 : decode cX8_join 110 = .ok (.getfield 18, 3) := by decide +kernel
theorem dX8_join_113 : decode cX8_join 113 = .ok (.iload_n 3, 1) := by decide +kernel
theorem dX8_join_114 : decode cX8_join 114 = .ok (.iaload, 1) := by decide +kernel
theorem dX8_join_115 : decode cX8_join 115 = .ok (.invokestatic 25, 3) := by decide +kernel
theorem dX8_join_118 : decode cX8_join 118 = .ok (.iastore, 1) := by decide +kernel
theorem dX8_join_119 : decode cX8_join 119 = .ok (.iinc 3 1, 3) := by decide +kernel
theorem dX8_join_122 : decode cX8_join 122 = .ok (.goto (-29), 3) := by decide +kernel
theorem dX8_join_125 : decode cX8_join 125 = .ok (.return_, 1) := by decide +kernel
theorem dX8_goodAt_0 : decode cX8_goodAt 0 = .ok (.aload_n 0, 1) := by decide +kernel
theorem dX8_goodAt_1 : decode cX8_goodAt 1 = .ok (.getfield 9, 3) := by decide +kernel
theorem dX8_goodAt_4 : decode cX8_goodAt 4 = .ok (.iload_n 1, 1) := by decide +kernel
theorem dX8_goodAt_5 : decode cX8_goodAt 5 = .ok (.iload_n 2, 1) := by decide +kernel
theorem dX8_goodAt_6 : decode cX8_goodAt 6 = .ok (.invokestatic 31, 3) := by decide +kernel
theorem dX8_goodAt_9 : decode cX8_goodAt 9 = .ok (.iaload, 1) := by decide +kernel
theorem dX8_goodAt_10 : decode cX8_goodAt 10 = .ok (.ireturn, 1) := by decide +kernel
theorem dX8_badAt_0 : decode cX8_badAt 0 = .ok (.aload_n 0, 1) := by decide +kernel
theorem dX8_badAt_1 : decode cX8_badAt 1 = .ok (.getfield 15, 3) := by decide +kernel
theorem dX8_badAt_4 : decode cX8_badAt 4 = .ok (.iload_n 1, 1) := by decide +kernel
theorem dX8_badAt_5 : decode cX8_badAt 5 = .ok (.iload_n 2, 1) := by decide +kernel
theorem dX8_badAt_6 : decode cX8_badAt 6 = .ok (.invokestatic 31, 3) := by decide +kernel
theorem dX8_badAt_9 : decode cX8_badAt 9 = .ok (.iaload, 1) := by decide +kernel
theorem dX8_badAt_10 : decode cX8_badAt 10 = .ok (.ireturn, 1) := by decide +kernel
theorem dX8_stepsFrom_0 : decode cX8_stepsFrom 0 = .ok (.iload_n 1, 1) := by decide +kernel
theorem dX8_stepsFrom_1 : decode cX8_stepsFrom 1 = .ok (.ifCond .lt 21, 3) := by decide +kernel
theorem dX8_stepsFrom_4 : decode cX8_stepsFrom 4 = .ok (.iload_n 1, 1) := by decide +kernel
theorem dX8_stepsFrom_5 : decode cX8_stepsFrom 5 = .ok (.iconst 5, 1) := by decide +kernel
theorem dX8_stepsFrom_6 : decode cX8_stepsFrom 6 = .ok (.if_icmp .ge 16, 3) := by decide +kernel
theorem dX8_stepsFrom_9 : decode cX8_stepsFrom 9 = .ok (.iconst 1, 1) := by decide +kernel
theorem dX8_stepsFrom_10 : decode cX8_stepsFrom 10 = .ok (.aload_n 0, 1) := by decide +kernel
theorem dX8_stepsFrom_11 : decode cX8_stepsFrom 11 = .ok (.getfield 18, 3) := by decide +kernel
theorem dX8_stepsFrom_14 : decode cX8_stepsFrom 14 = .ok (.iload_n 1, 1) := by decide +kernel
theorem dX8_stepsFrom_15 : decode cX8_stepsFrom 15 = .ok (.iaload, 1) := by decide +kernel
theorem dX8_stepsFrom_16 : decode cX8_stepsFrom 16 = .ok (.invokestatic 25, 3) := by decide +kernel
theorem dX8_stepsFrom_19 : decode cX8_stepsFrom 19 = .ok (.goto 4, 3) := by decide +kernel
theorem dX8_stepsFrom_22 : decode cX8_stepsFrom 22 = .ok (.iconst 1, 1) := by decide +kernel
theorem dX8_stepsFrom_23 : decode cX8_stepsFrom 23 = .ok (.ireturn, 1) := by decide +kernel
theorem dX8_slot_0 : decode cX8_slot 0 = .ok (.iconst 0, 1) := by decide +kernel
theorem dX8_slot_1 : decode cX8_slot 1 = .ok (.iconst 4, 1) := by decide +kernel
theorem dX8_slot_2 : decode cX8_slot 2 = .ok (.iload_n 0, 1) := by decide +kernel
theorem dX8_slot_3 : decode cX8_slot 3 = .ok (.invokestatic 34, 3) := by decide +kernel
theorem dX8_slot_6 : decode cX8_slot 6 = .ok (.invokestatic 25, 3) := by decide +kernel
theorem dX8_slot_9 : decode cX8_slot 9 = .ok (.istore_n 2, 1) := by decide +kernel
theorem dX8_slot_10 : decode cX8_slot 10 = .ok (.iload_n 2, 1) := by decide +kernel
theorem dX8_slot_11 : decode cX8_slot 11 = .ok (.bipush 6, 2) := by decide +kernel
theorem dX8_slot_13 : decode cX8_slot 13 = .ok (.imul, 1) := by decide +kernel
theorem dX8_slot_14 : decode cX8_slot 14 = .ok (.iconst 0, 1) := by decide +kernel
theorem dX8_slot_15 : decode cX8_slot 15 = .ok (.iconst 5, 1) := by decide +kernel
theorem dX8_slot_16 : decode cX8_slot 16 = .ok (.iload_n 1, 1) := by decide +kernel
theorem dX8_slot_17 : decode cX8_slot 17 = .ok (.invokestatic 34, 3) := by decide +kernel
theorem dX8_slot_20 : decode cX8_slot 20 = .ok (.invokestatic 25, 3) := by decide +kernel
theorem dX8_slot_23 : decode cX8_slot 23 = .ok (.iadd, 1) := by decide +kernel
theorem dX8_slot_24 : decode cX8_slot 24 = .ok (.ireturn, 1) := by decide +kernel
theorem dX9_init_0 : decode cX9_init 0 = .ok (.aload_n 0, 1) := by decide +kernel
theorem dX9_init_1 : decode cX9_init 1 = .ok (.invokespecial 3, 3) := by decide +kernel
theorem dX9_init_4 : decode cX9_init 4 = .ok (.aload_n 0, 1) := by decide +kernel
theorem dX9_init_5 : decode cX9_init 5 = .ok (.sipush 220, 3) := by decide +kernel
theorem dX9_init_8 : decode cX9_init 8 = .ok (.newarray .int, 2) := by decide +kernel
theorem dX9_init_10 : decode cX9_init 10 = .ok (.putfield 9, 3) := by decide +kernel
theorem dX9_init_13 : decode cX9_init 13 = .ok (.return_, 1) := by decide +kernel
theorem dX9_put_0 : decode cX9_put 0 = .ok (.bipush 24, 2) := by decide +kernel
theorem dX9_put_2 : decode cX9_put 2 = .ok (.istore_n 2, 1) := by decide +kernel
theorem dX9_put_3 : decode cX9_put 3 = .ok (.iload_n 2, 1) := by decide +kernel
theorem dX9_put_4 : decode cX9_put 4 = .ok (.ifCond .lt 54, 3) := by decide +kernel
theorem dX9_put_7 : decode cX9_put 7 = .ok (.aload_n 0, 1) := by decide +kernel
theorem dX9_put_8 : decode cX9_put 8 = .ok (.getfield 15, 3) := by decide +kernel
theorem dX9_put_11 : decode cX9_put 11 = .ok (.ifCond .lt 41, 3) := by decide +kernel
theorem dX9_put_14 : decode cX9_put 14 = .ok (.aload_n 0, 1) := by decide +kernel
theorem dX9_put_15 : decode cX9_put 15 = .ok (.getfield 15, 3) := by decide +kernel
theorem dX9_put_18 : decode cX9_put 18 = .ok (.aload_n 0, 1) := by decide +kernel
theorem dX9_put_19 : decode cX9_put 19 = .ok (.getfield 9, 3) := by decide +kernel
theorem dX9_put_22 : decode cX9_put 22 = .ok (.arraylength, 1) := by decide +kernel
theorem dX9_put_23 : decode cX9_put 23 = .ok (.if_icmp .ge 29, 3) := by decide +kernel
theorem dX9_put_26 : decode cX9_put 26 = .ok (.aload_n 0, 1) := by decide +kernel
theorem dX9_put_27 : decode cX9_put 27 = .ok (.getfield 9, 3) := by decide +kernel
theorem dX9_put_30 : decode cX9_put 30 = .ok (.aload_n 0, 1) := by decide +kernel
theorem dX9_put_31 : decode cX9_put 31 = .ok (.getfield 15, 3) := by decide +kernel
theorem dX9_put_34 : decode cX9_put 34 = .ok (.iload_n 1, 1) := by decide +kernel
theorem dX9_put_35 : decode cX9_put 35 = .ok (.iload_n 2, 1) := by decide +kernel
theorem dX9_put_36 : decode cX9_put 36 = .ok (.iushr, 1) := by decide +kernel
theorem dX9_put_37 : decode cX9_put 37 = .ok (.sipush 255, 3) := by decide +kernel
theorem dX9_put_40 : decode cX9_put 40 = .ok (.iand, 1) := by decide +kernel
theorem dX9_put_41 : decode cX9_put 41 = .ok (.iastore, 1) := by decide +kernel
theorem dX9_put_42 : decode cX9_put 42 = .ok (.aload_n 0, 1) := by decide +kernel
theorem dX9_put_43 : decode cX9_put 43 = .ok (.dup, 1) := by decide +kernel
theorem dX9_put_44 : decode cX9_put 44 = .ok (.getfield 15, 3) := by decide +kernel
theorem dX9_put_47 : decode cX9_put 47 = .ok (.iconst 1, 1) := by decide +kernel
theorem dX9_put_48 : decode cX9_put 48 = .ok (.iadd, 1) := by decide +kernel
theorem dX9_put_49 : decode cX9_put 49 = .ok (.putfield 15, 3) := by decide +kernel
theorem dX9_put_52 : decode cX9_put 52 = .ok (.iinc 2 (-8), 3) := by decide +kernel
theorem dX9_put_55 : decode cX9_put 55 = .ok (.goto (-52), 3) := by decide +kernel
theorem dX9_put_58 : decode cX9_put 58 = .ok (.return_, 1) := by decide +kernel
theorem dX9_byteAt_0 : decode cX9_byteAt 0 = .ok (.iload_n 1, 1) := by decide +kernel
theorem dX9_byteAt_1 : decode cX9_byteAt 1 = .ok (.ifCond .lt 29, 3) := by decide +kernel
theorem dX9_byteAt_4 : decode cX9_byteAt 4 = .ok (.iload_n 1, 1) := by decide +kernel
theorem dX9_byteAt_5 : decode cX9_byteAt 5 = .ok (.aload_n 0, 1) := by decide +kernel
theorem dX9_byteAt_6 : decode cX9_byteAt 6 = .ok (.getfield 15, 3) := by decide +kernel
theorem dX9_byteAt_9 : decode cX9_byteAt 9 = .ok (.if_icmp .ge 21, 3) := by decide +kernel
theorem dX9_byteAt_12 : decode cX9_byteAt 12 = .ok (.iload_n 1, 1) := by decide +kernel
theorem dX9_byteAt_13 : decode cX9_byteAt 13 = .ok (.aload_n 0, 1) := by decide +kernel
theorem dX9_byteAt_14 : decode cX9_byteAt 14 = .ok (.getfield 9, 3) := by decide +kernel
theorem dX9_byteAt_17 : decode cX9_byteAt 17 = .ok (.arraylength, 1) := by decide +kernel
theorem dX9_byteAt_18 : decode cX9_byteAt 18 = .ok (.if_icmp .ge 12, 3) := by decide +kernel
theorem dX9_byteAt_21 : decode cX9_byteAt 21 = .ok (.aload_n 0, 1) := by decide +kernel
theorem dX9_byteAt_22 : decode cX9_byteAt 22 = .ok (.getfield 9, 3) := by decide +kernel
theorem dX9_byteAt_25 : decode cX9_byteAt 25 = .ok (.iload_n 1, 1) := by decide +kernel
theorem dX9_byteAt_26 : decode cX9_byteAt 26 = .ok (.iaload, 1) := by decide +kernel
theorem dX9_byteAt_27 : decode cX9_byteAt 27 = .ok (.goto 4, 3) := by decide +kernel
theorem dX9_byteAt_30 : decode cX9_byteAt 30 = .ok (.iconst (-1), 1) := by decide +kernel
theorem dX9_byteAt_31 : decode cX9_byteAt 31 = .ok (.ireturn, 1) := by decide +kernel
theorem dX9_numberAt_0 : decode cX9_numberAt 0 = .ok (.iconst 0, 1) := by decide +kernel
theorem dX9_numberAt_1 : decode cX9_numberAt 1 = .ok (.istore_n 2, 1) := by decide +kernel
theorem dX9_numberAt_2 : decode cX9_numberAt 2 = .ok (.iconst 0, 1) := by decide +kernel
theorem dX9_numberAt_3 : decode cX9_numberAt 3 = .ok (.istore_n 3, 1) := by decide +kernel
theorem dX9_numberAt_4 : decode cX9_numberAt 4 = .ok (.iload_n 3, 1) := by decide +kernel
theorem dX9_numberAt_5 : decode cX9_numberAt 5 = .ok (.iconst 4, 1) := by decide +kernel
theorem dX9_numberAt_6 : decode cX9_numberAt 6 = .ok (.if_icmp .ge 28, 3) := by decide +kernel
theorem dX9_numberAt_9 : decode cX9_numberAt 9 = .ok (.iload_n 2, 1) := by decide +kernel
theorem dX9_numberAt_10 : decode cX9_numberAt 10 = .ok (.bipush 8, 2) := by decide +kernel
theorem dX9_numberAt_12 : decode cX9_numberAt 12 = .ok (.ishl, 1) := by decide +kernel
theorem dX9_numberAt_13 : decode cX9_numberAt 13 = .ok (.aload_n 0, 1) := by decide +kernel
theorem dX9_numberAt_14 : decode cX9_numberAt 14 = .ok (.iconst 4, 1) := by decide +kernel
theorem dX9_numberAt_15 : decode cX9_numberAt 15 = .ok (.iload_n 1, 1) := by decide +kernel
theorem dX9_numberAt_16 : decode cX9_numberAt 16 = .ok (.imul, 1) := by decide +kernel
theorem dX9_numberAt_17 : decode cX9_numberAt 17 = .ok (.iload_n 3, 1) := by decide +kernel
theorem dX9_numberAt_18 : decode cX9_numberAt 18 = .ok (.iadd, 1) := by decide +kernel
theorem dX9_numberAt_19 : decode cX9_numberAt 19 = .ok (.invokevirtual 19, 3) := by decide +kernel
theorem dX9_numberAt_22 : decode cX9_numberAt 22 = .ok (.sipush 255, 3) := by decide +kernel
theorem dX9_numberAt_25 : decode cX9_numberAt 25 = .ok (.iand, 1) := by decide +kernel
theorem dX9_numberAt_26 : decode cX9_numberAt 26 = .ok (.ior, 1) := by decide +kernel
theorem dX9_numberAt_27 : decode cX9_numberAt 27 = .ok (.istore_n 2, 1) := by decide +kernel
theorem dX9_numberAt_28 : decode cX9_numberAt 28 = .ok (.iinc 3 1, 3) := by decide +kernel
theorem dX9_numberAt_31 : decode cX9_numberAt 31 = .ok (.goto (-27), 3) := by decide +kernel
theorem dX9_numberAt_34 : decode cX9_numberAt 34 = .ok (.iload_n 2, 1) := by decide +kernel
theorem dX9_numberAt_35 : decode cX9_numberAt 35 = .ok (.ireturn, 1) := by decide +kernel
theorem dX9_drop_0 : decode cX9_drop 0 = .ok (.aload_n 0, 1) := by decide +kernel
theorem dX9_drop_1 : decode cX9_drop 1 = .ok (.iconst 0, 1) := by decide +kernel
theorem dX9_drop_2 : decode cX9_drop 2 = .ok (.putfield 15, 3) := by decide +kernel
theorem dX9_drop_5 : decode cX9_drop 5 = .ok (.return_, 1) := by decide +kernel
theorem dX10_init_0 : decode cX10_init 0 = .ok (.aload_n 0, 1) := by decide +kernel
theorem dX10_init_1 : decode cX10_init 1 = .ok (.invokespecial 1, 3) := by decide +kernel
theorem dX10_init_4 : decode cX10_init 4 = .ok (.aload_n 0, 1) := by decide +kernel
theorem dX10_init_5 : decode cX10_init 5 = .ok (.new 7, 3) := by decide +kernel
theorem dX10_init_8 : decode cX10_init 8 = .ok (.dup, 1) := by decide +kernel
theorem dX10_init_9 : decode cX10_init 9 = .ok (.invokespecial 9, 3) := by decide +kernel
theorem dX10_init_12 : decode cX10_init 12 = .ok (.putfield 10, 3) := by decide +kernel
theorem dX10_init_15 : decode cX10_init 15 = .ok (.aload_n 0, 1) := by decide +kernel
theorem dX10_init_16 : decode cX10_init 16 = .ok (.new 16, 3) := by decide +kernel
theorem dX10_init_19 : decode cX10_init 19 = .ok (.dup, 1) := by decide +kernel
theorem dX10_init_20 : decode cX10_init 20 = .ok (.invokespecial 18, 3) := by decide +kernel
theorem dX10_init_23 : decode cX10_init 23 = .ok (.putfield 19, 3) := by decide +kernel
theorem dX10_init_26 : decode cX10_init 26 = .ok (.aload_n 0, 1) := by decide +kernel
theorem dX10_init_27 : decode cX10_init 27 = .ok (.new 23, 3) := by decide +kernel
theorem dX10_init_30 : decode cX10_init 30 = .ok (.dup, 1) := by decide +kernel
theorem dX10_init_31 : decode cX10_init 31 = .ok (.invokespecial 25, 3) := by decide +kernel
theorem dX10_init_34 : decode cX10_init 34 = .ok (.putfield 26, 3) := by decide +kernel
theorem dX10_init_37 : decode cX10_init 37 = .ok (.aload_n 0, 1) := by decide +kernel
theorem dX10_init_38 : decode cX10_init 38 = .ok (.new 30, 3) := by decide +kernel
theorem dX10_init_41 : decode cX10_init 41 = .ok (.dup, 1) := by decide +kernel
theorem dX10_init_42 : decode cX10_init 42 = .ok (.invokespecial 32, 3) := by decide +kernel
theorem dX10_init_45 : decode cX10_init 45 = .ok (.putfield 33, 3) := by decide +kernel
theorem dX10_init_48 : decode cX10_init 48 = .ok (.aload_n 0, 1) := by decide +kernel
theorem dX10_init_49 : decode cX10_init 49 = .ok (.new 30, 3) := by decide +kernel
theorem dX10_init_52 : decode cX10_init 52 = .ok (.dup, 1) := by decide +kernel
theorem dX10_init_53 : decode cX10_init 53 = .ok (.invokespecial 32, 3) := by decide +kernel
theorem dX10_init_56 : decode cX10_init 56 = .ok (.putfield 37, 3) := by decide +kernel
theorem dX10_init_59 : decode cX10_init 59 = .ok (.aload_n 0, 1) := by decide +kernel
theorem dX10_init_60 : decode cX10_init 60 = .ok (.new 40, 3) := by decide +kernel
theorem dX10_init_63 : decode cX10_init 63 = .ok (.dup, 1) := by decide +kernel
theorem dX10_init_64 : decode cX10_init 64 = .ok (.invokespecial 42, 3) := by decide +kernel
theorem dX10_init_67 : decode cX10_init 67 = .ok (.putfield 43, 3) := by decide +kernel
theorem dX10_init_70 : decode cX10_init 70 = .ok (.aload_n 0, 1) := by decide +kernel
theorem dX10_init_71 : decode cX10_init 71 = .ok (.new 47, 3) := by decide +kernel
theorem dX10_init_74 : decode cX10_init 74 = .ok (.dup, 1) := by decide +kernel
theorem dX10_init_75 : decode cX10_init 75 = .ok (.aload_n 0, 1) := by decide +kernel
theorem dX10_init_76 : decode cX10_init 76 = .ok (.getfield 19, 3) := by decide +kernel
theorem dX10_init_79 : decode cX10_init 79 = .ok (.invokespecial 49, 3) := by decide +kernel
theorem dX10_init_82 : decode cX10_init 82 = .ok (.putfield 52, 3) := by decide +kernel
theorem dX10_init_85 : decode cX10_init 85 = .ok (.aload_n 0, 1) := by decide +kernel
theorem dX10_init_86 : decode cX10_init 86 = .ok (.new 56, 3) := by decide +kernel
theorem dX10_init_89 : decode cX10_init 89 = .ok (.dup, 1) := by decide +kernel
theorem dX10_init_90 : decode cX10_init 90 = .ok (.invokespecial 58, 3) := by decide +kernel
theorem dX10_init_93 : decode cX10_init 93 = .ok (.putfield 59, 3) := by decide +kernel
theorem dX10_init_96 : decode cX10_init 96 = .ok (.aload_n 0, 1) := by decide +kernel
theorem dX10_init_97 : decode cX10_init 97 = .ok (.new 63, 3) := by decide +kernel
theorem dX10_init_100 : decode cX10_init 100 = .ok (.dup, 1) := by decide +kernel
theorem dX10_init_101 : decode cX10_init 101 = .ok (.invokespecial 65, 3) := by decide +kernel
theorem dX10_init_104 : decode cX10_init 104 = .ok (.putfield 66, 3) := by decide +kernel
theorem dX10_init_107 : decode cX10_init 107 = .ok (.aload_n 0, 1) := by decide +kernel
theorem dX10_init_108 : decode cX10_init 108 = .ok (.new 70, 3) := by decide +kernel
theorem dX10_init_111 : decode cX10_init 111 = .ok (.dup, 1) := by decide +kernel
theorem dX10_init_112 : decode cX10_init 112 = .ok (.aload_n 0, 1) := by decide +kernel
theorem dX10_init_113 : decode cX10_init 113 = .ok (.getfield 19, 3) := by decide +kernel
theorem dX10_init_116 : decode cX10_init 116 = .ok (.aload_n 0, 1) := by decide +kernel
theorem dX10_init_117 : decode cX10_init 117 = .ok (.getfield 66, 3) := by decide +kernel
theorem dX10_init_120 : decode cX10_init 120 = .ok (.invokespecial 72, 3) := by decide +kernel
theorem dX10_init_123 : decode cX10_init 123 = .ok (.putfield 75, 3) := by decide +kernel
theorem dX10_init_126 : decode cX10_init 126 = .ok (.return_, 1) := by decide +kernel
theorem dX10_riddle_0 : decode cX10_riddle 0 = .ok (.iload_n 1, 1) := by decide +kernel
theorem dX10_riddle_1 : decode cX10_riddle 1 = .ok (.iconst 0, 1) := by decide +kernel
theorem dX10_riddle_2 : decode cX10_riddle 2 = .ok (.bipush 9, 2) := by decide +kernel
theorem dX10_riddle_4 : decode cX10_riddle 4 = .ok (.invokestatic 79, 3) := by decide +kernel
theorem dX10_riddle_7 : decode cX10_riddle 7 = .ok (.ifCond .eq 23, 3) := by decide +kernel
theorem dX10_riddle_10 : decode cX10_riddle 10 = .ok (.iload_n 2, 1) := by decide +kernel
theorem dX10_riddle_11 : decode cX10_riddle 11 = .ok (.iconst 0, 1) := by decide +kernel
theorem dX10_riddle_12 : decode cX10_riddle 12 = .ok (.bipush 30, 2) := by decide +kernel
theorem dX10_riddle_14 : decode cX10_riddle 14 = .ok (.invokestatic 79, 3) := by decide +kernel
theorem dX10_riddle_17 : decode cX10_riddle 17 = .ok (.ifCond .eq 13, 3) := by decide +kernel
theorem dX10_riddle_20 : decode cX10_riddle 20 = .ok (.iload_n 3, 1) := by decide +kernel
theorem dX10_riddle_21 : decode cX10_riddle 21 = .ok (.iconst 0, 1) := by decide +kernel
theorem dX10_riddle_22 : decode cX10_riddle 22 = .ok (.bipush 30, 2) := by decide +kernel
theorem dX10_riddle_24 : decode cX10_riddle 24 = .ok (.invokestatic 79, 3) := by decide +kernel
theorem dX10_riddle_27 : decode cX10_riddle 27 = .ok (.ifCond .ne 5, 3) := by decide +kernel
theorem dX10_riddle_30 : decode cX10_riddle 30 = .ok (.iconst (-1), 1) := by decide +kernel
theorem dX10_riddle_31 : decode cX10_riddle 31 = .ok (.ireturn, 1) := by decide +kernel
theorem dX10_riddle_32 : decode cX10_riddle 32 = .ok (.aload_n 0, 1) := by decide +kernel
theorem dX10_riddle_33 : decode cX10_riddle 33 = .ok (.getfield 19, 3) := by decide +kernel
theorem dX10_riddle_36 : decode cX10_riddle 36 = .ok (.getfield 83, 3) := by decide +kernel
theorem dX10_riddle_39 : decode cX10_riddle 39 = .ok (.iconst 5, 1) := by decide +kernel
theorem dX10_riddle_40 : decode cX10_riddle 40 = .ok (.if_icmp .lt 5, 3) := by decide +kernel
theorem dX10_riddle_43 : decode cX10_riddle 43 = .ok (.iconst (-1), 1) := by decide +kernel
theorem dX10_riddle_44 : decode cX10_riddle 44 = .ok (.ireturn, 1) := by decide +kernel
theorem dX10_riddle_45 : decode cX10_riddle 45 = .ok (.aload_n 0, 1) := by decide +kernel
theorem dX10_riddle_46 : decode cX10_riddle 46 = .ok (.getfield 59, 3) := by decide +kernel
theorem dX10_riddle_49 : decode cX10_riddle 49 = .ok (.invokevirtual 87, 3) := by decide +kernel
theorem dX10_riddle_52 : decode cX10_riddle 52 = .ok (.aload_n 0, 1) := by decide +kernel
theorem dX10_riddle_53 : decode cX10_riddle 53 = .ok (.invokevirtual 90, 3) := by decide +kernel
theorem dX10_riddle_56 : decode cX10_riddle 56 = .ok (.aload_n 0, 1) := by decide +kernel
theorem dX10_riddle_57 : decode cX10_riddle 57 = .ok (.getfield 19, 3) := by decide +kernel
theorem dX10_riddle_60 : decode cX10_riddle 60 = .ok (.iload_n 1, 1) := by decide +kernel
theorem dX10_riddle_61 : decode cX10_riddle 61 = .ok (.iload_n 2, 1) := by decide +kernel
theorem dX10_riddle_62 : decode cX10_riddle 62 = .ok (.iload_n 3, 1) := by decide +kernel
theorem dX10_riddle_63 : decode cX10_riddle 63 = .ok (.invokevirtual 93, 3) := by decide +kernel
theorem dX10_riddle_66 : decode cX10_riddle 66 = .ok (.ireturn, 1) := by decide +kernel
theorem dX10_band_0 : decode cX10_band 0 = .ok (.iload_n 1, 1) := by decide +kernel
theorem dX10_band_1 : decode cX10_band 1 = .ok (.iconst 0, 1) := by decide +kernel
theorem dX10_band_2 : decode cX10_band 2 = .ok (.bipush 9, 2) := by decide +kernel
theorem dX10_band_4 : decode cX10_band 4 = .ok (.invokestatic 79, 3) := by decide +kernel
theorem dX10_band_7 : decode cX10_band 7 = .ok (.ifCond .eq 22, 3) := by decide +kernel
theorem dX10_band_10 : decode cX10_band 10 = .ok (.iload_n 2, 1) := by decide +kernel
theorem dX10_band_11 : decode cX10_band 11 = .ok (.iconst 1, 1) := by decide +kernel
theorem dX10_band_12 : decode cX10_band 12 = .ok (.bipush 9, 2) := by decide +kernel
theorem dX10_band_14 : decode cX10_band 14 = .ok (.invokestatic 79, 3) := by decide +kernel
theorem dX10_band_17 : decode cX10_band 17 = .ok (.ifCond .eq 12, 3) := by decide +kernel
theorem dX10_band_20 : decode cX10_band 20 = .ok (.iload_n 3, 1) := by decide +kernel
theorem dX10_band_21 : decode cX10_band 21 = .ok (.iconst 0, 1) := by decide +kernel
theorem dX10_band_22 : decode cX10_band 22 = .ok (.iconst 1, 1) := by decide +kernel
theorem dX10_band_23 : decode cX10_band 23 = .ok (.invokestatic 79, 3) := by decide +kernel
theorem dX10_band_26 : decode cX10_band 26 = .ok (.ifCond .ne 5, 3) := by decide +kernel
theorem dX10_band_29 : decode cX10_band 29 = .ok (.iconst (-1), 1) := by decide +kernel
theorem dX10_band_30 : decode cX10_band 30 = .ok (.ireturn, 1) := by decide +kernel
theorem dX10_band_31 : decode cX10_band 31 = .ok (.aload_n 0, 1) := by decide +kernel
theorem dX10_band_32 : decode cX10_band 32 = .ok (.getfield 19, 3) := by decide +kernel
theorem dX10_band_35 : decode cX10_band 35 = .ok (.getfield 97, 3) := by decide +kernel
theorem dX10_band_38 : decode cX10_band 38 = .ok (.iconst 5, 1) := by decide +kernel
theorem dX10_band_39 : decode cX10_band 39 = .ok (.if_icmp .lt 5, 3) := by decide +kernel
theorem dX10_band_42 : decode cX10_band 42 = .ok (.iconst (-1), 1) := by decide +kernel
theorem dX10_band_43 : decode cX10_band 43 = .ok (.ireturn, 1) := by decide +kernel
theorem dX10_band_44 : decode cX10_band 44 = .ok (.aload_n 0, 1) := by decide +kernel
theorem dX10_band_45 : decode cX10_band 45 = .ok (.invokevirtual 90, 3) := by decide +kernel
theorem dX10_band_48 : decode cX10_band 48 = .ok (.aload_n 0, 1) := by decide +kernel
theorem dX10_band_49 : decode cX10_band 49 = .ok (.getfield 19, 3) := by decide +kernel
theorem dX10_band_52 : decode cX10_band 52 = .ok (.iload_n 1, 1) := by decide +kernel
theorem dX10_band_53 : decode cX10_band 53 = .ok (.iload_n 2, 1) := by decide +kernel
theorem dX10_band_54 : decode cX10_band 54 = .ok (.iload_n 3, 1) := by decide +kernel
theorem dX10_band_55 : decode cX10_band 55 = .ok (.invokevirtual 100, 3) := by decide +kernel
theorem dX10_band_58 : decode cX10_band 58 = .ok (.ireturn, 1) := by decide +kernel
theorem dX10_weather_0 : decode cX10_weather 0 = .ok (.iload_n 1, 1) := by decide +kernel
theorem dX10_weather_1 : decode cX10_weather 1 = .ok (.iconst 1, 1) := by decide +kernel
theorem dX10_weather_2 : decode cX10_weather 2 = .ok (.iconst 4, 1) := by decide +kernel
theorem dX10_weather_3 : decode cX10_weather 3 = .ok (.invokestatic 79, 3) := by decide +kernel
theorem dX10_weather_6 : decode cX10_weather 6 = .ok (.ifCond .eq 12, 3) := by decide +kernel
theorem dX10_weather_9 : decode cX10_weather 9 = .ok (.iload_n 2, 1) := by decide +kernel
theorem dX10_weather_10 : decode cX10_weather 10 = .ok (.iconst 0, 1) := by decide +kernel
theorem dX10_weather_11 : decode cX10_weather 11 = .ok (.iconst 1, 1) := by decide +kernel
theorem dX10_weather_12 : decode cX10_weather 12 = .ok (.invokestatic 79, 3) := by decide +kernel
theorem dX10_weather_15 : decode cX10_weather 15 = .ok (.ifCond .ne 5, 3) := by decide +kernel
theorem dX10_weather_18 : decode cX10_weather 18 = .ok (.iconst 0, 1) := by decide +kernel
theorem dX10_weather_19 : decode cX10_weather 19 = .ok (.ireturn, 1) := by decide +kernel
theorem dX10_weather_20 : decode cX10_weather 20 = .ok (.aload_n 0, 1) := by decide +kernel
theorem dX10_weather_21 : decode cX10_weather 21 = .ok (.getfield 19, 3) := by decide +kernel
theorem dX10_weather_24 : decode cX10_weather 24 = .ok (.iload_n 1, 1) := by decide +kernel
theorem dX10_weather_25 : decode cX10_weather 25 = .ok (.iload_n 2, 1) := by decide +kernel
theorem dX10_weather_26 : decode cX10_weather 26 = .ok (.invokevirtual 103, 3) := by decide +kernel
theorem dX10_weather_29 : decode cX10_weather 29 = .ok (.iconst 1, 1) := by decide +kernel
theorem dX10_weather_30 : decode cX10_weather 30 = .ok (.ireturn, 1) := by decide +kernel
theorem dX10_feed_0 : decode cX10_feed 0 = .ok (.aload_n 0, 1) := by decide +kernel
theorem dX10_feed_1 : decode cX10_feed 1 = .ok (.getfield 10, 3) := by decide +kernel
theorem dX10_feed_4 : decode cX10_feed 4 = .ok (.getfield 107, 3) := by decide +kernel
theorem dX10_feed_7 : decode cX10_feed 7 = .ok (.sipush 200, 3) := by decide +kernel
theorem dX10_feed_10 : decode cX10_feed 10 = .ok (.if_icmp .le 5, 3) := by decide +kernel
theorem dX10_feed_13 : decode cX10_feed 13 = .ok (.iconst (-1), 1) := by decide +kernel
theorem dX10_feed_14 : decode cX10_feed 14 = .ok (.ireturn, 1) := by decide +kernel
theorem dX10_feed_15 : decode cX10_feed 15 = .ok (.aload_n 0, 1) := by decide +kernel
theorem dX10_feed_16 : decode cX10_feed 16 = .ok (.getfield 10, 3) := by decide +kernel
theorem dX10_feed_19 : decode cX10_feed 19 = .ok (.iload_n 1, 1) := by decide +kernel
theorem dX10_feed_20 : decode cX10_feed 20 = .ok (.invokevirtual 110, 3) := by decide +kernel
theorem dX10_feed_23 : decode cX10_feed 23 = .ok (.aload_n 0, 1) := by decide +kernel
theorem dX10_feed_24 : decode cX10_feed 24 = .ok (.getfield 10, 3) := by decide +kernel
theorem dX10_feed_27 : decode cX10_feed 27 = .ok (.iload_n 2, 1) := by decide +kernel
theorem dX10_feed_28 : decode cX10_feed 28 = .ok (.invokevirtual 110, 3) := by decide +kernel
theorem dX10_feed_31 : decode cX10_feed 31 = .ok (.aload_n 0, 1) := by decide +kernel
theorem dX10_feed_32 : decode cX10_feed 32 = .ok (.getfield 10, 3) := by decide +kernel
theorem dX10_feed_35 : decode cX10_feed 35 = .ok (.iload_n 3, 1) := by decide +kernel
theorem dX10_feed_36 : decode cX10_feed 36 = .ok (.invokevirtual 110, 3) := by decide +kernel
theorem dX10_feed_39 : decode cX10_feed 39 = .ok (.aload_n 0, 1) := by decide +kernel
theorem dX10_feed_40 : decode cX10_feed 40 = .ok (.getfield 10, 3) := by decide +kernel
theorem dX10_feed_43 : decode cX10_feed 43 = .ok (.iload 4, 2) := by decide +kernel
theorem dX10_feed_45 : decode cX10_feed 45 = .ok (.invokevirtual 110, 3) := by decide +kernel
theorem dX10_feed_48 : decode cX10_feed 48 = .ok (.aload_n 0, 1) := by decide +kernel
theorem dX10_feed_49 : decode cX10_feed 49 = .ok (.getfield 10, 3) := by decide +kernel
theorem dX10_feed_52 : decode cX10_feed 52 = .ok (.iload 5, 2) := by decide +kernel
theorem dX10_feed_54 : decode cX10_feed 54 = .ok (.invokevirtual 110, 3) := by decide +kernel
theorem dX10_feed_57 : decode cX10_feed 57 = .ok (.aload_n 0, 1) := by decide +kernel
theorem dX10_feed_58 : decode cX10_feed 58 = .ok (.getfield 10, 3) := by decide +kernel
theorem dX10_feed_61 : decode cX10_feed 61 = .ok (.getfield 107, 3) := by decide +kernel
theorem dX10_feed_64 : decode cX10_feed 64 = .ok (.ireturn, 1) := by decide +kernel
theorem dX10_law_0 : decode cX10_law 0 = .ok (.iload_n 1, 1) := by decide +kernel
theorem dX10_law_1 : decode cX10_law 1 = .ok (.iconst 1, 1) := by decide +kernel
theorem dX10_law_2 : decode cX10_law 2 = .ok (.sipush 200, 3) := by decide +kernel
theorem dX10_law_5 : decode cX10_law 5 = .ok (.invokestatic 79, 3) := by decide +kernel
theorem dX10_law_8 : decode cX10_law 8 = .ok (.ifCond .eq 14, 3) := by decide +kernel
theorem dX10_law_11 : decode cX10_law 11 = .ok (.iload_n 1, 1) := by decide +kernel
theorem dX10_law_12 : decode cX10_law 12 = .ok (.aload_n 0, 1) := by decide +kernel
theorem dX10_law_13 : decode cX10_law 13 = .ok (.getfield 10, 3) := by decide +kernel
theorem dX10_law_16 : decode cX10_law 16 = .ok (.getfield 107, 3) := by decide +kernel
theorem dX10_law_19 : decode cX10_law 19 = .ok (.if_icmp .le 5, 3) := by decide +kernel
theorem dX10_law_22 : decode cX10_law 22 = .ok (.iconst (-1), 1) := by decide +kernel
theorem dX10_law_23 : decode cX10_law 23 = .ok (.ireturn, 1) := by decide +kernel
theorem dX10_law_24 : decode cX10_law 24 = .ok (.aload_n 0, 1) := by decide +kernel
theorem dX10_law_25 : decode cX10_law 25 = .ok (.getfield 19, 3) := by decide +kernel
theorem dX10_law_28 : decode cX10_law 28 = .ok (.getfield 114, 3) := by decide +kernel
theorem dX10_law_31 : decode cX10_law 31 = .ok (.aload_n 0, 1) := by decide +kernel
theorem dX10_law_32 : decode cX10_law 32 = .ok (.getfield 10, 3) := by decide +kernel
theorem dX10_law_35 : decode cX10_law 35 = .ok (.iload_n 1, 1) := by decide +kernel
theorem dX10_law_36 : decode cX10_law 36 = .ok (.invokevirtual 118, 3) := by decide +kernel
theorem dX10_law_39 : decode cX10_law 39 = .ok (.istore_n 2, 1) := by decide +kernel
theorem dX10_law_40 : decode cX10_law 40 = .ok (.aload_n 0, 1) := by decide +kernel
theorem dX10_law_41 : decode cX10_law 41 = .ok (.getfield 19, 3) := by decide +kernel
theorem dX10_law_44 : decode cX10_law 44 = .ok (.dup, 1) := by decide +kernel
theorem dX10_law_45 : decode cX10_law 45 = .ok (.getfield 124, 3) := by decide +kernel
theorem dX10_law_48 : decode cX10_law 48 = .ok (.iconst 1, 1) := by decide +kernel
theorem dX10_law_49 : decode cX10_law 49 = .ok (.iadd, 1) := by decide +kernel
theorem dX10_law_50 : decode cX10_law 50 = .ok (.putfield 124, 3) := by decide +kernel
theorem dX10_law_53 : decode cX10_law 53 = .ok (.aload_n 0, 1) := by decide +kernel
theorem dX10_law_54 : decode cX10_law 54 = .ok (.getfield 10, 3) := by decide +kernel
theorem dX10_law_57 : decode cX10_law 57 = .ok (.invokevirtual 127, 3) := by decide +kernel
theorem dX10_law_60 : decode cX10_law 60 = .ok (.iload_n 2, 1) := by decide +kernel
theorem dX10_law_61 : decode cX10_law 61 = .ok (.ireturn, 1) := by decide +kernel
theorem dX10_chance_0 : decode cX10_chance 0 = .ok (.aload_n 0, 1) := by decide +kernel
theorem dX10_chance_1 : decode cX10_chance 1 = .ok (.getfield 19, 3) := by decide +kernel
theorem dX10_chance_4 : decode cX10_chance 4 = .ok (.iload_n 1, 1) := by decide +kernel
theorem dX10_chance_5 : decode cX10_chance 5 = .ok (.invokevirtual 130, 3) := by decide +kernel
theorem dX10_chance_8 : decode cX10_chance 8 = .ok (.ifCond .eq 14, 3) := by decide +kernel
theorem dX10_chance_11 : decode cX10_chance 11 = .ok (.aload_n 0, 1) := by decide +kernel
theorem dX10_chance_12 : decode cX10_chance 12 = .ok (.getfield 19, 3) := by decide +kernel
theorem dX10_chance_15 : decode cX10_chance 15 = .ok (.iload_n 2, 1) := by decide +kernel
theorem dX10_chance_16 : decode cX10_chance 16 = .ok (.invokevirtual 134, 3) := by decide +kernel
theorem dX10_chance_19 : decode cX10_chance 19 = .ok (.ifCond .ne 5, 3) := by decide +kernel
theorem dX10_chance_22 : decode cX10_chance 22 = .ok (.iconst (-1), 1) := by decide +kernel
theorem dX10_chance_23 : decode cX10_chance 23 = .ok (.ireturn, 1) := by decide +kernel
theorem dX10_chance_24 : decode cX10_chance 24 = .ok (.iload_n 3, 1) := by decide +kernel
theorem dX10_chance_25 : decode cX10_chance 25 = .ok (.iconst 0, 1) := by decide +kernel
theorem dX10_chance_26 : decode cX10_chance 26 = .ok (.iconst 5, 1) := by decide +kernel
theorem dX10_chance_27 : decode cX10_chance 27 = .ok (.invokestatic 79, 3) := by decide +kernel
theorem dX10_chance_30 : decode cX10_chance 30 = .ok (.ifCond .eq 13, 3) := by decide +kernel
theorem dX10_chance_33 : decode cX10_chance 33 = .ok (.iload 4, 2) := by decide +kernel
theorem dX10_chance_35 : decode cX10_chance 35 = .ok (.iconst 0, 1) := by decide +kernel
theorem dX10_chance_36 : decode cX10_chance 36 = .ok (.iconst 1, 1) := by decide +kernel
theorem dX10_chance_37 : decode cX10_chance 37 = .ok (.invokestatic 79, 3) := by decide +kernel
theorem dX10_chance_40 : decode cX10_chance 40 = .ok (.ifCond .ne 5, 3) := by decide +kernel
theorem dX10_chance_43 : decode cX10_chance 43 = .ok (.iconst (-1), 1) := by decide +kernel
theorem dX10_chance_44 : decode cX10_chance 44 = .ok (.ireturn, 1) := by decide +kernel
theorem dX10_chance_45 : decode cX10_chance 45 = .ok (.aload_n 0, 1) := by decide +kernel
theorem dX10_chance_46 : decode cX10_chance 46 = .ok (.getfield 19, 3) := by decide +kernel
theorem dX10_chance_49 : decode cX10_chance 49 = .ok (.iload_n 1, 1) := by decide +kernel
theorem dX10_chance_50 : decode cX10_chance 50 = .ok (.invokevirtual 137, 3) := by decide +kernel
theorem dX10_chance_53 : decode cX10_chance 53 = .ok (.astore 5, 2) := by decide +kernel
theorem dX10_chance_55 : decode cX10_chance 55 = .ok (.iload 4, 2) := by decide +kernel
theorem dX10_chance_57 : decode cX10_chance 57 = .ok (.ifCond .ne 13, 3) := by decide +kernel
theorem dX10_chance_60 : decode cX10_chance 60 = .ok (.aload 5, 2) := by decide +kernel
theorem dX10_chance_62 : decode cX10_chance 62 = .ok (.iload_n 2, 1) := by decide +kernel
theorem dX10_chance_63 : decode cX10_chance 63 = .ok (.iload_n 3, 1) := by decide +kernel
theorem dX10_chance_64 : decode cX10_chance 64 = .ok (.invokevirtual 141, 3) := by decide +kernel
theorem dX10_chance_67 : decode cX10_chance 67 = .ok (.goto 10, 3) := by decide +kernel
theorem dX10_chance_70 : decode cX10_chance 70 = .ok (.aload 5, 2) := by decide +kernel
theorem dX10_chance_72 : decode cX10_chance 72 = .ok (.iload_n 2, 1) := by decide +kernel
theorem dX10_chance_73 : decode cX10_chance 73 = .ok (.iload_n 3, 1) := by decide +kernel
theorem dX10_chance_74 : decode cX10_chance 74 = .ok (.invokevirtual 145, 3) := by decide +kernel
theorem dX10_chance_77 : decode cX10_chance 77 = .ok (.ireturn, 1) := by decide +kernel
theorem dX10_walk_0 : decode cX10_walk 0 = .ok (.aload_n 0, 1) := by decide +kernel
theorem dX10_walk_1 : decode cX10_walk 1 = .ok (.getfield 19, 3) := by decide +kernel
theorem dX10_walk_4 : decode cX10_walk 4 = .ok (.iload_n 1, 1) := by decide +kernel
theorem dX10_walk_5 : decode cX10_walk 5 = .ok (.iload_n 2, 1) := by decide +kernel
theorem dX10_walk_6 : decode cX10_walk 6 = .ok (.invokevirtual 148, 3) := by decide +kernel
theorem dX10_walk_9 : decode cX10_walk 9 = .ok (.ireturn, 1) := by decide +kernel
theorem dX10_ways_0 : decode cX10_ways 0 = .ok (.aload_n 0, 1) := by decide +kernel
theorem dX10_ways_1 : decode cX10_ways 1 = .ok (.getfield 19, 3) := by decide +kernel
theorem dX10_ways_4 : decode cX10_ways 4 = .ok (.iload_n 1, 1) := by decide +kernel
theorem dX10_ways_5 : decode cX10_ways 5 = .ok (.invokevirtual 130, 3) := by decide +kernel
theorem dX10_ways_8 : decode cX10_ways 8 = .ok (.ifCond .eq 33, 3) := by decide +kernel
theorem dX10_ways_11 : decode cX10_ways 11 = .ok (.aload_n 0, 1) := by decide +kernel
theorem dX10_ways_12 : decode cX10_ways 12 = .ok (.getfield 19, 3) := by decide +kernel
theorem dX10_ways_15 : decode cX10_ways 15 = .ok (.getfield 83, 3) := by decide +kernel
theorem dX10_ways_18 : decode cX10_ways 18 = .ok (.ifCond .eq 23, 3) := by decide +kernel
theorem dX10_ways_21 : decode cX10_ways 21 = .ok (.iload_n 2, 1) := by decide +kernel
theorem dX10_ways_22 : decode cX10_ways 22 = .ok (.iconst 1, 1) := by decide +kernel
theorem dX10_ways_23 : decode cX10_ways 23 = .ok (.bipush 10, 2) := by decide +kernel
theorem dX10_ways_25 : decode cX10_ways 25 = .ok (.invokestatic 79, 3) := by decide +kernel
theorem dX10_ways_28 : decode cX10_ways 28 = .ok (.ifCond .eq 13, 3) := by decide +kernel
theorem dX10_ways_31 : decode cX10_ways 31 = .ok (.iload_n 3, 1) := by decide +kernel
theorem dX10_ways_32 : decode cX10_ways 32 = .ok (.iconst 0, 1) := by decide +kernel
theorem dX10_ways_33 : decode cX10_ways 33 = .ok (.bipush 6, 2) := by decide +kernel
theorem dX10_ways_35 : decode cX10_ways 35 = .ok (.invokestatic 79, 3) := by decide +kernel
theorem dX10_ways_38 : decode cX10_ways 38 = .ok (.ifCond .ne 7, 3) := by decide +kernel
theorem dX10_ways_41 : decode cX10_ways 41 = .ok (.ldc2_w 151, 3) := by decide +kernel
theorem dX10_ways_44 : decode cX10_ways 44 = .ok (.lreturn, 1) := by decide +kernel
theorem dX10_ways_45 : decode cX10_ways 45 = .ok (.iload_n 3, 1) := by decide +kernel
theorem dX10_ways_46 : decode cX10_ways 46 = .ok (.iconst 5, 1) := by decide +kernel
theorem dX10_ways_47 : decode cX10_ways 47 = .ok (.if_icmp .ge 18, 3) := by decide +kernel
theorem dX10_ways_50 : decode cX10_ways 50 = .ok (.aload_n 0, 1) := by decide +kernel
theorem dX10_ways_51 : decode cX10_ways 51 = .ok (.getfield 19, 3) := by decide +kernel
theorem dX10_ways_54 : decode cX10_ways 54 = .ok (.iload_n 3, 1) := by decide +kernel
theorem dX10_ways_55 : decode cX10_ways 55 = .ok (.invokevirtual 134, 3) := by decide +kernel
theorem dX10_ways_58 : decode cX10_ways 58 = .ok (.ifCond .ne 7, 3) := by decide +kernel
theorem dX10_ways_61 : decode cX10_ways 61 = .ok (.ldc2_w 151, 3) := by decide +kernel
theorem dX10_ways_64 : decode cX10_ways 64 = .ok (.lreturn, 1) := by decide +kernel
theorem dX10_ways_65 : decode cX10_ways 65 = .ok (.aload_n 0, 1) := by decide +kernel
theorem dX10_ways_66 : decode cX10_ways 66 = .ok (.aload_n 0, 1) := by decide +kernel
theorem dX10_ways_67 : decode cX10_ways 67 = .ok (.getfield 33, 3) := by decide +kernel
theorem dX10_ways_70 : decode cX10_ways 70 = .ok (.aload_n 0, 1) := by decide +kernel
theorem dX10_ways_71 : decode cX10_ways 71 = .ok (.getfield 19, 3) := by decide +kernel
theorem dX10_ways_74 : decode cX10_ways 74 = .ok (.iload_n 1, 1) := by decide +kernel
theorem dX10_ways_75 : decode cX10_ways 75 = .ok (.invokevirtual 137, 3) := by decide +kernel
theorem dX10_ways_78 : decode cX10_ways 78 = .ok (.invokevirtual 153, 3) := by decide +kernel
theorem dX10_ways_81 : decode cX10_ways 81 = .ok (.iload_n 3, 1) := by decide +kernel
theorem dX10_ways_82 : decode cX10_ways 82 = .ok (.iconst 5, 1) := by decide +kernel
theorem dX10_ways_83 : decode cX10_ways 83 = .ok (.if_icmp .ge 13, 3) := by decide +kernel
theorem dX10_ways_86 : decode cX10_ways 86 = .ok (.aload_n 0, 1) := by decide +kernel
theorem dX10_ways_87 : decode cX10_ways 87 = .ok (.getfield 33, 3) := by decide +kernel
theorem dX10_ways_90 : decode cX10_ways 90 = .ok (.iload_n 3, 1) := by decide +kernel
theorem dX10_ways_91 : decode cX10_ways 91 = .ok (.iload_n 2, 1) := by decide +kernel
theorem dX10_ways_92 : decode cX10_ways 92 = .ok (.invokevirtual 157, 3) := by decide +kernel
theorem dX10_ways_95 : decode cX10_ways 95 = .ok (.lreturn, 1) := by decide +kernel
theorem dX10_ways_96 : decode cX10_ways 96 = .ok (.iload_n 3, 1) := by decide +kernel
theorem dX10_ways_97 : decode cX10_ways 97 = .ok (.iconst 5, 1) := by decide +kernel
theorem dX10_ways_98 : decode cX10_ways 98 = .ok (.if_icmp .ne 21, 3) := by decide +kernel
theorem dX10_ways_101 : decode cX10_ways 101 = .ok (.aload_n 0, 1) := by decide +kernel
theorem dX10_ways_102 : decode cX10_ways 102 = .ok (.getfield 33, 3) := by decide +kernel
theorem dX10_ways_105 : decode cX10_ways 105 = .ok (.aload_n 0, 1) := by decide +kernel
theorem dX10_ways_106 : decode cX10_ways 106 = .ok (.getfield 19, 3) := by decide +kernel
theorem dX10_ways_109 : decode cX10_ways 109 = .ok (.getfield 83, 3) := by decide +kernel
theorem dX10_ways_112 : decode cX10_ways 112 = .ok (.iload_n 2, 1) := by decide +kernel
theorem dX10_ways_113 : decode cX10_ways 113 = .ok (.invokevirtual 157, 3) := by decide +kernel
theorem dX10_ways_116 : decode cX10_ways 116 = .ok (.goto 18, 3) := by decide +kernel
theorem dX10_ways_119 : decode cX10_ways 119 = .ok (.aload_n 0, 1) := by decide +kernel
theorem dX10_ways_120 : decode cX10_ways 120 = .ok (.getfield 33, 3) := by decide +kernel
theorem dX10_ways_123 : decode cX10_ways 123 = .ok (.aload_n 0, 1) := by decide +kernel
theorem dX10_ways_124 : decode cX10_ways 124 = .ok (.getfield 19, 3) := by decide +kernel
theorem dX10_ways_127 : decode cX10_ways 127 = .ok (.getfield 83, 3) := by decide +kernel
theorem dX10_ways_130 : decode cX10_ways 130 = .ok (.iload_n 2, 1) := by decide +kernel
theorem dX10_ways_131 : decode cX10_ways 131 = .ok (.invokevirtual 161, 3) := by decide +kernel
theorem dX10_ways_134 : decode cX10_ways 134 = .ok (.lreturn, 1) := by decide +kernel
theorem dX10_ahead_0 : decode cX10_ahead 0 = .ok (.aload_n 0, 1) := by decide +kernel
theorem dX10_ahead_1 : decode cX10_ahead 1 = .ok (.iload_n 1, 1) := by decide +kernel
theorem dX10_ahead_2 : decode cX10_ahead 2 = .ok (.iload_n 2, 1) := by decide +kernel
theorem dX10_ahead_3 : decode cX10_ahead 3 = .ok (.invokevirtual 164, 3) := by decide +kernel
theorem dX10_ahead_6 : decode cX10_ahead 6 = .ok (.ifCond .eq 12, 3) := by decide +kernel
theorem dX10_ahead_9 : decode cX10_ahead 9 = .ok (.iload_n 3, 1) := by decide +kernel
theorem dX10_ahead_10 : decode cX10_ahead 10 = .ok (.iconst 0, 1) := by decide +kernel
theorem dX10_ahead_11 : decode cX10_ahead 11 = .ok (.iconst 3, 1) := by decide +kernel
theorem dX10_ahead_12 : decode cX10_ahead 12 = .ok (.invokestatic 79, 3) := by decide +kernel
theorem dX10_ahead_15 : decode cX10_ahead 15 = .ok (.ifCond .ne 7, 3) := by decide +kernel
theorem dX10_ahead_18 : decode cX10_ahead 18 = .ok (.ldc2_w 151, 3) := by decide +kernel
theorem dX10_ahead_21 : decode cX10_ahead 21 = .ok (.lreturn, 1) := by decide +kernel
theorem dX10_ahead_22 : decode cX10_ahead 22 = .ok (.aload_n 0, 1) := by decide +kernel
theorem dX10_ahead_23 : decode cX10_ahead 23 = .ok (.aload_n 0, 1) := by decide +kernel
theorem dX10_ahead_24 : decode cX10_ahead 24 = .ok (.getfield 33, 3) := by decide +kernel
theorem dX10_ahead_27 : decode cX10_ahead 27 = .ok (.aload_n 0, 1) := by decide +kernel
theorem dX10_ahead_28 : decode cX10_ahead 28 = .ok (.getfield 19, 3) := by decide +kernel
theorem dX10_ahead_31 : decode cX10_ahead 31 = .ok (.iload_n 1, 1) := by decide +kernel
theorem dX10_ahead_32 : decode cX10_ahead 32 = .ok (.invokevirtual 137, 3) := by decide +kernel
theorem dX10_ahead_35 : decode cX10_ahead 35 = .ok (.invokevirtual 153, 3) := by decide +kernel
theorem dX10_ahead_38 : decode cX10_ahead 38 = .ok (.aload_n 0, 1) := by decide +kernel
theorem dX10_ahead_39 : decode cX10_ahead 39 = .ok (.aload_n 0, 1) := by decide +kernel
theorem dX10_ahead_40 : decode cX10_ahead 40 = .ok (.getfield 37, 3) := by decide +kernel
theorem dX10_ahead_43 : decode cX10_ahead 43 = .ok (.aload_n 0, 1) := by decide +kernel
theorem dX10_ahead_44 : decode cX10_ahead 44 = .ok (.getfield 19, 3) := by decide +kernel
theorem dX10_ahead_47 : decode cX10_ahead 47 = .ok (.iload_n 2, 1) := by decide +kernel
theorem dX10_ahead_48 : decode cX10_ahead 48 = .ok (.invokevirtual 137, 3) := by decide +kernel
theorem dX10_ahead_51 : decode cX10_ahead 51 = .ok (.invokevirtual 153, 3) := by decide +kernel
theorem dX10_ahead_54 : decode cX10_ahead 54 = .ok (.iload_n 3, 1) := by decide +kernel
theorem dX10_ahead_55 : decode cX10_ahead 55 = .ok (.iconst 2, 1) := by decide +kernel
theorem dX10_ahead_56 : decode cX10_ahead 56 = .ok (.if_icmp .ge 24, 3) := by decide +kernel
theorem dX10_ahead_59 : decode cX10_ahead 59 = .ok (.aload_n 0, 1) := by decide +kernel
theorem dX10_ahead_60 : decode cX10_ahead 60 = .ok (.getfield 33, 3) := by decide +kernel
theorem dX10_ahead_63 : decode cX10_ahead 63 = .ok (.aload_n 0, 1) := by decide +kernel
theorem dX10_ahead_64 : decode cX10_ahead 64 = .ok (.getfield 37, 3) := by decide +kernel
theorem dX10_ahead_67 : decode cX10_ahead 67 = .ok (.aload_n 0, 1) := by decide +kernel
theorem dX10_ahead_68 : decode cX10_ahead 68 = .ok (.getfield 19, 3) := by decide +kernel
theorem dX10_ahead_71 : decode cX10_ahead 71 = .ok (.getfield 83, 3) := by decide +kernel
theorem dX10_ahead_74 : decode cX10_ahead 74 = .ok (.invokevirtual 168, 3) := by decide +kernel
theorem dX10_ahead_77 : decode cX10_ahead 77 = .ok (.goto 21, 3) := by decide +kernel
theorem dX10_ahead_80 : decode cX10_ahead 80 = .ok (.aload_n 0, 1) := by decide +kernel
theorem dX10_ahead_81 : decode cX10_ahead 81 = .ok (.getfield 33, 3) := by decide +kernel
theorem dX10_ahead_84 : decode cX10_ahead 84 = .ok (.aload_n 0, 1) := by decide +kernel
theorem dX10_ahead_85 : decode cX10_ahead 85 = .ok (.getfield 37, 3) := by decide +kernel
theorem dX10_ahead_88 : decode cX10_ahead 88 = .ok (.aload_n 0, 1) := by decide +kernel
theorem dX10_ahead_89 : decode cX10_ahead 89 = .ok (.getfield 19, 3) := by decide +kernel
theorem dX10_ahead_92 : decode cX10_ahead 92 = .ok (.getfield 83, 3) := by decide +kernel
theorem dX10_ahead_95 : decode cX10_ahead 95 = .ok (.invokevirtual 172, 3) := by decide +kernel
theorem dX10_ahead_98 : decode cX10_ahead 98 = .ok (.lstore 4, 2) := by decide +kernel
theorem dX10_ahead_100 : decode cX10_ahead 100 = .ok (.lload 4, 2) := by decide +kernel
theorem dX10_ahead_102 : decode cX10_ahead 102 = .ok (.ldc2_w 175, 3) := by decide +kernel
theorem dX10_ahead_105 : decode cX10_ahead 105 = .ok (.iload_n 3, 1) := by decide +kernel
theorem dX10_ahead_106 : decode cX10_ahead 106 = .ok (.iconst 2, 1) := by decide +kernel
theorem dX10_ahead_107 : decode cX10_ahead 107 = .ok (.irem, 1) := by decide +kernel
theorem dX10_ahead_108 : decode cX10_ahead 108 = .ok (.invokestatic 177, 3) := by decide +kernel
theorem dX10_ahead_111 : decode cX10_ahead 111 = .ok (.lreturn, 1) := by decide +kernel
theorem dX10_share_0 : decode cX10_share 0 = .ok (.aload_n 0, 1) := by decide +kernel
theorem dX10_share_1 : decode cX10_share 1 = .ok (.iload_n 1, 1) := by decide +kernel
theorem dX10_share_2 : decode cX10_share 2 = .ok (.iload_n 2, 1) := by decide +kernel
theorem dX10_share_3 : decode cX10_share 3 = .ok (.invokevirtual 164, 3) := by decide +kernel
theorem dX10_share_6 : decode cX10_share 6 = .ok (.ifCond .eq 13, 3) := by decide +kernel
theorem dX10_share_9 : decode cX10_share 9 = .ok (.iload_n 3, 1) := by decide +kernel
theorem dX10_share_10 : decode cX10_share 10 = .ok (.iconst 1, 1) := by decide +kernel
theorem dX10_share_11 : decode cX10_share 11 = .ok (.bipush 10, 2) := by decide +kernel
theorem dX10_share_13 : decode cX10_share 13 = .ok (.invokestatic 79, 3) := by decide +kernel
theorem dX10_share_16 : decode cX10_share 16 = .ok (.ifCond .ne 7, 3) := by decide +kernel
theorem dX10_share_19 : decode cX10_share 19 = .ok (.ldc2_w 151, 3) := by decide +kernel
theorem dX10_share_22 : decode cX10_share 22 = .ok (.lreturn, 1) := by decide +kernel
theorem dX10_share_23 : decode cX10_share 23 = .ok (.aload_n 0, 1) := by decide +kernel
theorem dX10_share_24 : decode cX10_share 24 = .ok (.getfield 26, 3) := by decide +kernel
theorem dX10_share_27 : decode cX10_share 27 = .ok (.aload_n 0, 1) := by decide +kernel
theorem dX10_share_28 : decode cX10_share 28 = .ok (.getfield 19, 3) := by decide +kernel
theorem dX10_share_31 : decode cX10_share 31 = .ok (.iload_n 1, 1) := by decide +kernel
theorem dX10_share_32 : decode cX10_share 32 = .ok (.invokevirtual 137, 3) := by decide +kernel
theorem dX10_share_35 : decode cX10_share 35 = .ok (.aload_n 0, 1) := by decide +kernel
theorem dX10_share_36 : decode cX10_share 36 = .ok (.getfield 19, 3) := by decide +kernel
theorem dX10_share_39 : decode cX10_share 39 = .ok (.iload_n 2, 1) := by decide +kernel
theorem dX10_share_40 : decode cX10_share 40 = .ok (.invokevirtual 137, 3) := by decide +kernel
theorem dX10_share_43 : decode cX10_share 43 = .ok (.invokevirtual 181, 3) := by decide +kernel
theorem dX10_share_46 : decode cX10_share 46 = .ok (.aload_n 0, 1) := by decide +kernel
theorem dX10_share_47 : decode cX10_share 47 = .ok (.getfield 33, 3) := by decide +kernel
theorem dX10_share_50 : decode cX10_share 50 = .ok (.aload_n 0, 1) := by decide +kernel
theorem dX10_share_51 : decode cX10_share 51 = .ok (.getfield 26, 3) := by decide +kernel
theorem dX10_share_54 : decode cX10_share 54 = .ok (.bipush 6, 2) := by decide +kernel
theorem dX10_share_56 : decode cX10_share 56 = .ok (.aload_n 0, 1) := by decide +kernel
theorem dX10_share_57 : decode cX10_share 57 = .ok (.getfield 19, 3) := by decide +kernel
theorem dX10_share_60 : decode cX10_share 60 = .ok (.getfield 83, 3) := by decide +kernel
theorem dX10_share_63 : decode cX10_share 63 = .ok (.aload_n 0, 1) := by decide +kernel
theorem dX10_share_64 : decode cX10_share 64 = .ok (.getfield 19, 3) := by decide +kernel
theorem dX10_share_67 : decode cX10_share 67 = .ok (.getfield 185, 3) := by decide +kernel
theorem dX10_share_70 : decode cX10_share 70 = .ok (.invokevirtual 188, 3) := by decide +kernel
theorem dX10_share_73 : decode cX10_share 73 = .ok (.aload_n 0, 1) := by decide +kernel
theorem dX10_share_74 : decode cX10_share 74 = .ok (.getfield 33, 3) := by decide +kernel
theorem dX10_share_77 : decode cX10_share 77 = .ok (.aload_n 0, 1) := by decide +kernel
theorem dX10_share_78 : decode cX10_share 78 = .ok (.getfield 19, 3) := by decide +kernel
theorem dX10_share_81 : decode cX10_share 81 = .ok (.getfield 83, 3) := by decide +kernel
theorem dX10_share_84 : decode cX10_share 84 = .ok (.iload_n 3, 1) := by decide +kernel
theorem dX10_share_85 : decode cX10_share 85 = .ok (.invokevirtual 157, 3) := by decide +kernel
theorem dX10_share_88 : decode cX10_share 88 = .ok (.lreturn, 1) := by decide +kernel
theorem dX10_after_0 : decode cX10_after 0 = .ok (.aload_n 0, 1) := by decide +kernel
theorem dX10_after_1 : decode cX10_after 1 = .ok (.iload_n 1, 1) := by decide +kernel
theorem dX10_after_2 : decode cX10_after 2 = .ok (.iload_n 2, 1) := by decide +kernel
theorem dX10_after_3 : decode cX10_after 3 = .ok (.invokevirtual 164, 3) := by decide +kernel
theorem dX10_after_6 : decode cX10_after 6 = .ok (.ifCond .eq 23, 3) := by decide +kernel
theorem dX10_after_9 : decode cX10_after 9 = .ok (.iload_n 3, 1) := by decide +kernel
theorem dX10_after_10 : decode cX10_after 10 = .ok (.iconst 1, 1) := by decide +kernel
theorem dX10_after_11 : decode cX10_after 11 = .ok (.bipush 10, 2) := by decide +kernel
theorem dX10_after_13 : decode cX10_after 13 = .ok (.invokestatic 79, 3) := by decide +kernel
theorem dX10_after_16 : decode cX10_after 16 = .ok (.ifCond .eq 13, 3) := by decide +kernel
theorem dX10_after_19 : decode cX10_after 19 = .ok (.iload 4, 2) := by decide +kernel
theorem dX10_after_21 : decode cX10_after 21 = .ok (.iconst 0, 1) := by decide +kernel
theorem dX10_after_22 : decode cX10_after 22 = .ok (.iconst 1, 1) := by decide +kernel
theorem dX10_after_23 : decode cX10_after 23 = .ok (.invokestatic 79, 3) := by decide +kernel
theorem dX10_after_26 : decode cX10_after 26 = .ok (.ifCond .ne 7, 3) := by decide +kernel
theorem dX10_after_29 : decode cX10_after 29 = .ok (.ldc2_w 151, 3) := by decide +kernel
theorem dX10_after_32 : decode cX10_after 32 = .ok (.lreturn, 1) := by decide +kernel
theorem dX10_after_33 : decode cX10_after 33 = .ok (.aload_n 0, 1) := by decide +kernel
theorem dX10_after_34 : decode cX10_after 34 = .ok (.iload_n 1, 1) := by decide +kernel
theorem dX10_after_35 : decode cX10_after 35 = .ok (.iload_n 2, 1) := by decide +kernel
theorem dX10_after_36 : decode cX10_after 36 = .ok (.iload_n 3, 1) := by decide +kernel
theorem dX10_after_37 : decode cX10_after 37 = .ok (.iload 4, 2) := by decide +kernel
theorem dX10_after_39 : decode cX10_after 39 = .ok (.iconst 1, 1) := by decide +kernel
theorem dX10_after_40 : decode cX10_after 40 = .ok (.if_icmp .ne 7, 3) := by decide +kernel
theorem dX10_after_43 : decode cX10_after 43 = .ok (.iconst 1, 1) := by decide +kernel
theorem dX10_after_44 : decode cX10_after 44 = .ok (.goto 4, 3) := by decide +kernel
theorem dX10_after_47 : decode cX10_after 47 = .ok (.iconst 0, 1) := by decide +kernel
theorem dX10_after_48 : decode cX10_after 48 = .ok (.invokevirtual 192, 3) := by decide +kernel
theorem dX10_after_51 : decode cX10_after 51 = .ok (.lreturn, 1) := by decide +kernel
theorem dX10_edge_0 : decode cX10_edge 0 = .ok (.aload_n 0, 1) := by decide +kernel
theorem dX10_edge_1 : decode cX10_edge 1 = .ok (.iload_n 1, 1) := by decide +kernel
theorem dX10_edge_2 : decode cX10_edge 2 = .ok (.iload_n 2, 1) := by decide +kernel
theorem dX10_edge_3 : decode cX10_edge 3 = .ok (.invokevirtual 164, 3) := by decide +kernel
theorem dX10_edge_6 : decode cX10_edge 6 = .ok (.ifCond .ne 5, 3) := by decide +kernel
theorem dX10_edge_9 : decode cX10_edge 9 = .ok (.iconst (-1), 1) := by decide +kernel
theorem dX10_edge_10 : decode cX10_edge 10 = .ok (.ireturn, 1) := by decide +kernel
theorem dX10_edge_11 : decode cX10_edge 11 = .ok (.aload_n 0, 1) := by decide +kernel
theorem dX10_edge_12 : decode cX10_edge 12 = .ok (.iload_n 1, 1) := by decide +kernel
theorem dX10_edge_13 : decode cX10_edge 13 = .ok (.iload_n 2, 1) := by decide +kernel
theorem dX10_edge_14 : decode cX10_edge 14 = .ok (.bipush 10, 2) := by decide +kernel
theorem dX10_edge_16 : decode cX10_edge 16 = .ok (.iconst 0, 1) := by decide +kernel
theorem dX10_edge_17 : decode cX10_edge 17 = .ok (.invokevirtual 192, 3) := by decide +kernel
theorem dX10_edge_20 : decode cX10_edge 20 = .ok (.lstore_n 3, 1) := by decide +kernel
theorem dX10_edge_21 : decode cX10_edge 21 = .ok (.iconst 0, 1) := by decide +kernel
theorem dX10_edge_22 : decode cX10_edge 22 = .ok (.istore 5, 2) := by decide +kernel
theorem dX10_edge_24 : decode cX10_edge 24 = .ok (.iload 5, 2) := by decide +kernel
theorem dX10_edge_26 : decode cX10_edge 26 = .ok (.bipush 9, 2) := by decide +kernel
theorem dX10_edge_28 : decode cX10_edge 28 = .ok (.if_icmp .gt 59, 3) := by decide +kernel
theorem dX10_edge_31 : decode cX10_edge 31 = .ok (.aload_n 0, 1) := by decide +kernel
theorem dX10_edge_32 : decode cX10_edge 32 = .ok (.getfield 19, 3) := by decide +kernel
theorem dX10_edge_35 : decode cX10_edge 35 = .ok (.aload_n 0, 1) := by decide +kernel
theorem dX10_edge_36 : decode cX10_edge 36 = .ok (.getfield 26, 3) := by decide +kernel
theorem dX10_edge_39 : decode cX10_edge 39 = .ok (.iload_n 1, 1) := by decide +kernel
theorem dX10_edge_40 : decode cX10_edge 40 = .ok (.iload 5, 2) := by decide +kernel
theorem dX10_edge_42 : decode cX10_edge 42 = .ok (.invokevirtual 196, 3) := by decide +kernel
theorem dX10_edge_45 : decode cX10_edge 45 = .ok (.aload_n 0, 1) := by decide +kernel
theorem dX10_edge_46 : decode cX10_edge 46 = .ok (.aload_n 0, 1) := by decide +kernel
theorem dX10_edge_47 : decode cX10_edge 47 = .ok (.getfield 33, 3) := by decide +kernel
theorem dX10_edge_50 : decode cX10_edge 50 = .ok (.aload_n 0, 1) := by decide +kernel
theorem dX10_edge_51 : decode cX10_edge 51 = .ok (.getfield 26, 3) := by decide +kernel
theorem dX10_edge_54 : decode cX10_edge 54 = .ok (.invokevirtual 153, 3) := by decide +kernel
theorem dX10_edge_57 : decode cX10_edge 57 = .ok (.aload_n 0, 1) := by decide +kernel
theorem dX10_edge_58 : decode cX10_edge 58 = .ok (.getfield 33, 3) := by decide +kernel
theorem dX10_edge_61 : decode cX10_edge 61 = .ok (.aload_n 0, 1) := by decide +kernel
theorem dX10_edge_62 : decode cX10_edge 62 = .ok (.getfield 19, 3) := by decide +kernel
theorem dX10_edge_65 : decode cX10_edge 65 = .ok (.getfield 83, 3) := by decide +kernel
theorem dX10_edge_68 : decode cX10_edge 68 = .ok (.bipush 10, 2) := by decide +kernel
theorem dX10_edge_70 : decode cX10_edge 70 = .ok (.invokevirtual 157, 3) := by decide +kernel
theorem dX10_edge_73 : decode cX10_edge 73 = .ok (.lload_n 3, 1) := by decide +kernel
theorem dX10_edge_74 : decode cX10_edge 74 = .ok (.lcmp, 1) := by decide +kernel
theorem dX10_edge_75 : decode cX10_edge 75 = .ok (.ifCond .le 6, 3) := by decide +kernel
theorem dX10_edge_78 : decode cX10_edge 78 = .ok (.iload 5, 2) := by decide +kernel
theorem dX10_edge_80 : decode cX10_edge 80 = .ok (.ireturn, 1) := by decide +kernel
theorem dX10_edge_81 : decode cX10_edge 81 = .ok (.iinc 5 1, 3) := by decide +kernel
theorem dX10_edge_84 : decode cX10_edge 84 = .ok (.goto (-60), 3) := by decide +kernel
theorem dX10_edge_87 : decode cX10_edge 87 = .ok (.bipush 10, 2) := by decide +kernel
theorem dX10_edge_89 : decode cX10_edge 89 = .ok (.ireturn, 1) := by decide +kernel
theorem dX10_best_0 : decode cX10_best 0 = .ok (.aload_n 0, 1) := by decide +kernel
theorem dX10_best_1 : decode cX10_best 1 = .ok (.iload_n 1, 1) := by decide +kernel
theorem dX10_best_2 : decode cX10_best 2 = .ok (.iload_n 2, 1) := by decide +kernel
theorem dX10_best_3 : decode cX10_best 3 = .ok (.invokevirtual 164, 3) := by decide +kernel
theorem dX10_best_6 : decode cX10_best 6 = .ok (.ifCond .eq 33, 3) := by decide +kernel
theorem dX10_best_9 : decode cX10_best 9 = .ok (.iload_n 3, 1) := by decide +kernel
theorem dX10_best_10 : decode cX10_best 10 = .ok (.iconst 0, 1) := by decide +kernel
theorem dX10_best_11 : decode cX10_best 11 = .ok (.bipush 10, 2) := by decide +kernel
theorem dX10_best_13 : decode cX10_best 13 = .ok (.invokestatic 79, 3) := by decide +kernel
theorem dX10_best_16 : decode cX10_best 16 = .ok (.ifCond .eq 23, 3) := by decide +kernel
theorem dX10_best_19 : decode cX10_best 19 = .ok (.iload 6, 2) := by decide +kernel
theorem dX10_best_21 : decode cX10_best 21 = .ok (.iconst 0, 1) := by decide +kernel
theorem dX10_best_22 : decode cX10_best 22 = .ok (.iconst 2, 1) := by decide +kernel
theorem dX10_best_23 : decode cX10_best 23 = .ok (.invokestatic 79, 3) := by decide +kernel
theorem dX10_best_26 : decode cX10_best 26 = .ok (.ifCond .eq 13, 3) := by decide +kernel
theorem dX10_best_29 : decode cX10_best 29 = .ok (.iload 7, 2) := by decide +kernel
theorem dX10_best_31 : decode cX10_best 31 = .ok (.iconst 0, 1) := by decide +kernel
theorem dX10_best_32 : decode cX10_best 32 = .ok (.iconst 1, 1) := by decide +kernel
theorem dX10_best_33 : decode cX10_best 33 = .ok (.invokestatic 79, 3) := by decide +kernel
theorem dX10_best_36 : decode cX10_best 36 = .ok (.ifCond .ne 7, 3) := by decide +kernel
theorem dX10_best_39 : decode cX10_best 39 = .ok (.ldc2_w 151, 3) := by decide +kernel
theorem dX10_best_42 : decode cX10_best 42 = .ok (.lreturn, 1) := by decide +kernel
theorem dX10_best_43 : decode cX10_best 43 = .ok (.aload_n 0, 1) := by decide +kernel
theorem dX10_best_44 : decode cX10_best 44 = .ok (.getfield 52, 3) := by decide +kernel
theorem dX10_best_47 : decode cX10_best 47 = .ok (.iload_n 1, 1) := by decide +kernel
theorem dX10_best_48 : decode cX10_best 48 = .ok (.iload_n 2, 1) := by decide +kernel
theorem dX10_best_49 : decode cX10_best 49 = .ok (.iconst 0, 1) := by decide +kernel
theorem dX10_best_50 : decode cX10_best 50 = .ok (.invokevirtual 200, 3) := by decide +kernel
theorem dX10_best_53 : decode cX10_best 53 = .ok (.aload_n 0, 1) := by decide +kernel
theorem dX10_best_54 : decode cX10_best 54 = .ok (.getfield 52, 3) := by decide +kernel
theorem dX10_best_57 : decode cX10_best 57 = .ok (.iload 4, 2) := by decide +kernel
theorem dX10_best_59 : decode cX10_best 59 = .ok (.invokevirtual 204, 3) := by decide +kernel
theorem dX10_best_62 : decode cX10_best 62 = .ok (.istore 8, 2) := by decide +kernel
theorem dX10_best_64 : decode cX10_best 64 = .ok (.aload_n 0, 1) := by decide +kernel
theorem dX10_best_65 : decode cX10_best 65 = .ok (.getfield 52, 3) := by decide +kernel
theorem dX10_best_68 : decode cX10_best 68 = .ok (.iload 5, 2) := by decide +kernel
theorem dX10_best_70 : decode cX10_best 70 = .ok (.iload 6, 2) := by decide +kernel
theorem dX10_best_72 : decode cX10_best 72 = .ok (.invokevirtual 208, 3) := by decide +kernel
theorem dX10_best_75 : decode cX10_best 75 = .ok (.istore 9, 2) := by decide +kernel
theorem dX10_best_77 : decode cX10_best 77 = .ok (.iload 8, 2) := by decide +kernel
theorem dX10_best_79 : decode cX10_best 79 = .ok (.iconst (-1), 1) := by decide +kernel
theorem dX10_best_80 : decode cX10_best 80 = .ok (.if_icmp .eq 9, 3) := by decide +kernel
theorem dX10_best_83 : decode cX10_best 83 = .ok (.iload 9, 2) := by decide +kernel
theorem dX10_best_85 : decode cX10_best 85 = .ok (.iconst (-1), 1) := by decide +kernel
theorem dX10_best_86 : decode cX10_best 86 = .ok (.if_icmp .ne 7, 3) := by decide +kernel
theorem dX10_best_89 : decode cX10_best 89 = .ok (.ldc2_w 151, 3) := by decide +kernel
theorem dX10_best_92 : decode cX10_best 92 = .ok (.lreturn, 1) := by decide +kernel
theorem dX10_best_93 : decode cX10_best 93 = .ok (.iload 7, 2) := by decide +kernel
theorem dX10_best_95 : decode cX10_best 95 = .ok (.ifCond .ne 18, 3) := by decide +kernel
theorem dX10_best_98 : decode cX10_best 98 = .ok (.aload_n 0, 1) := by decide +kernel
theorem dX10_best_99 : decode cX10_best 99 = .ok (.getfield 52, 3) := by decide +kernel
theorem dX10_best_102 : decode cX10_best 102 = .ok (.iload_n 3, 1) := by decide +kernel
theorem dX10_best_103 : decode cX10_best 103 = .ok (.iload 8, 2) := by decide +kernel
theorem dX10_best_105 : decode cX10_best 105 = .ok (.iload 9, 2) := by decide +kernel
theorem dX10_best_107 : decode cX10_best 107 = .ok (.invokevirtual 211, 3) := by decide +kernel
theorem dX10_best_110 : decode cX10_best 110 = .ok (.goto 16, 3) := by decide +kernel
theorem dX10_best_113 : decode cX10_best 113 = .ok (.aload_n 0, 1) := by decide +kernel
theorem dX10_best_114 : decode cX10_best 114 = .ok (.getfield 52, 3) := by decide +kernel
theorem dX10_best_117 : decode cX10_best 117 = .ok (.iload_n 3, 1) := by decide +kernel
theorem dX10_best_118 : decode cX10_best 118 = .ok (.iload 8, 2) := by decide +kernel
theorem dX10_best_120 : decode cX10_best 120 = .ok (.iload 9, 2) := by decide +kernel
theorem dX10_best_122 : decode cX10_best 122 = .ok (.invokevirtual 215, 3) := by decide +kernel
theorem dX10_best_125 : decode cX10_best 125 = .ok (.i2l, 1) := by decide +kernel
theorem dX10_best_126 : decode cX10_best 126 = .ok (.lreturn, 1) := by decide +kernel
theorem dX10_without_0 : decode cX10_without 0 = .ok (.aload_n 0, 1) := by decide +kernel
theorem dX10_without_1 : decode cX10_without 1 = .ok (.iload_n 1, 1) := by decide +kernel
theorem dX10_without_2 : decode cX10_without 2 = .ok (.iload_n 2, 1) := by decide +kernel
theorem dX10_without_3 : decode cX10_without 3 = .ok (.invokevirtual 164, 3) := by decide +kernel
theorem dX10_without_6 : decode cX10_without 6 = .ok (.ifCond .eq 13, 3) := by decide +kernel
theorem dX10_without_9 : decode cX10_without 9 = .ok (.iload_n 3, 1) := by decide +kernel
theorem dX10_without_10 : decode cX10_without 10 = .ok (.iconst 1, 1) := by decide +kernel
theorem dX10_without_11 : decode cX10_without 11 = .ok (.bipush 7, 2) := by decide +kernel
theorem dX10_without_13 : decode cX10_without 13 = .ok (.invokestatic 79, 3) := by decide +kernel
theorem dX10_without_16 : decode cX10_without 16 = .ok (.ifCond .ne 5, 3) := by decide +kernel
theorem dX10_without_19 : decode cX10_without 19 = .ok (.lconst 1, 1) := by decide +kernel
theorem dX10_without_20 : decode cX10_without 20 = .ok (.lreturn, 1) := by decide +kernel
theorem dX10_without_21 : decode cX10_without 21 = .ok (.aload_n 0, 1) := by decide +kernel
theorem dX10_without_22 : decode cX10_without 22 = .ok (.getfield 52, 3) := by decide +kernel
theorem dX10_without_25 : decode cX10_without 25 = .ok (.iload_n 1, 1) := by decide +kernel
theorem dX10_without_26 : decode cX10_without 26 = .ok (.iload_n 2, 1) := by decide +kernel
theorem dX10_without_27 : decode cX10_without 27 = .ok (.iconst 0, 1) := by decide +kernel
theorem dX10_without_28 : decode cX10_without 28 = .ok (.invokevirtual 200, 3) := by decide +kernel
theorem dX10_without_31 : decode cX10_without 31 = .ok (.aload_n 0, 1) := by decide +kernel
theorem dX10_without_32 : decode cX10_without 32 = .ok (.getfield 52, 3) := by decide +kernel
theorem dX10_without_35 : decode cX10_without 35 = .ok (.bipush 10, 2) := by decide +kernel
theorem dX10_without_37 : decode cX10_without 37 = .ok (.iconst 0, 1) := by decide +kernel
theorem dX10_without_38 : decode cX10_without 38 = .ok (.iconst 0, 1) := by decide +kernel
theorem dX10_without_39 : decode cX10_without 39 = .ok (.invokevirtual 211, 3) := by decide +kernel
theorem dX10_without_42 : decode cX10_without 42 = .ok (.lstore 4, 2) := by decide +kernel
theorem dX10_without_44 : decode cX10_without 44 = .ok (.aload_n 0, 1) := by decide +kernel
theorem dX10_without_45 : decode cX10_without 45 = .ok (.getfield 52, 3) := by decide +kernel
theorem dX10_without_48 : decode cX10_without 48 = .ok (.iload_n 1, 1) := by decide +kernel
theorem dX10_without_49 : decode cX10_without 49 = .ok (.iload_n 2, 1) := by decide +kernel
theorem dX10_without_50 : decode cX10_without 50 = .ok (.iload_n 3, 1) := by decide +kernel
theorem dX10_without_51 : decode cX10_without 51 = .ok (.invokevirtual 200, 3) := by decide +kernel
theorem dX10_without_54 : decode cX10_without 54 = .ok (.aload_n 0, 1) := by decide +kernel
theorem dX10_without_55 : decode cX10_without 55 = .ok (.getfield 52, 3) := by decide +kernel
theorem dX10_without_58 : decode cX10_without 58 = .ok (.bipush 10, 2) := by decide +kernel
theorem dX10_without_60 : decode cX10_without 60 = .ok (.iconst 0, 1) := by decide +kernel
theorem dX10_without_61 : decode cX10_without 61 = .ok (.iconst 0, 1) := by decide +kernel
theorem dX10_without_62 : decode cX10_without 62 = .ok (.invokevirtual 211, 3) := by decide +kernel
theorem dX10_without_65 : decode cX10_without 65 = .ok (.lload 4, 2) := by decide +kernel
theorem dX10_without_67 : decode cX10_without 67 = .ok (.lsub, 1) := by decide +kernel
theorem dX10_without_68 : decode cX10_without 68 = .ok (.lreturn, 1) := by decide +kernel
theorem dX10_waits_0 : decode cX10_waits 0 = .ok (.aload_n 0, 1) := by decide +kernel
theorem dX10_waits_1 : decode cX10_waits 1 = .ok (.iload_n 1, 1) := by decide +kernel
theorem dX10_waits_2 : decode cX10_waits 2 = .ok (.iload_n 2, 1) := by decide +kernel
theorem dX10_waits_3 : decode cX10_waits 3 = .ok (.invokevirtual 164, 3) := by decide +kernel
theorem dX10_waits_6 : decode cX10_waits 6 = .ok (.ifCond .eq 14, 3) := by decide +kernel
theorem dX10_waits_9 : decode cX10_waits 9 = .ok (.aload_n 0, 1) := by decide +kernel
theorem dX10_waits_10 : decode cX10_waits 10 = .ok (.getfield 19, 3) := by decide +kernel
theorem dX10_waits_13 : decode cX10_waits 13 = .ok (.iload_n 3, 1) := by decide +kernel
theorem dX10_waits_14 : decode cX10_waits 14 = .ok (.invokevirtual 134, 3) := by decide +kernel
theorem dX10_waits_17 : decode cX10_waits 17 = .ok (.ifCond .ne 5, 3) := by decide +kernel
theorem dX10_waits_20 : decode cX10_waits 20 = .ok (.iconst (-1), 1) := by decide +kernel
theorem dX10_waits_21 : decode cX10_waits 21 = .ok (.ireturn, 1) := by decide +kernel
theorem dX10_waits_22 : decode cX10_waits 22 = .ok (.iload 4, 2) := by decide +kernel
theorem dX10_waits_24 : decode cX10_waits 24 = .ok (.iconst 1, 1) := by decide +kernel
theorem dX10_waits_25 : decode cX10_waits 25 = .ok (.bipush 10, 2) := by decide +kernel
theorem dX10_waits_27 : decode cX10_waits 27 = .ok (.invokestatic 79, 3) := by decide +kernel
theorem dX10_waits_30 : decode cX10_waits 30 = .ok (.ifCond .eq 13, 3) := by decide +kernel
theorem dX10_waits_33 : decode cX10_waits 33 = .ok (.iload 5, 2) := by decide +kernel
theorem dX10_waits_35 : decode cX10_waits 35 = .ok (.iconst 0, 1) := by decide +kernel
theorem dX10_waits_36 : decode cX10_waits 36 = .ok (.iconst 5, 1) := by decide +kernel
theorem dX10_waits_37 : decode cX10_waits 37 = .ok (.invokestatic 79, 3) := by decide +kernel
theorem dX10_waits_40 : decode cX10_waits 40 = .ok (.ifCond .ne 5, 3) := by decide +kernel
theorem dX10_waits_43 : decode cX10_waits 43 = .ok (.iconst (-1), 1) := by decide +kernel
theorem dX10_waits_44 : decode cX10_waits 44 = .ok (.ireturn, 1) := by decide +kernel
theorem dX10_waits_45 : decode cX10_waits 45 = .ok (.aload_n 0, 1) := by decide +kernel
theorem dX10_waits_46 : decode cX10_waits 46 = .ok (.getfield 52, 3) := by decide +kernel
theorem dX10_waits_49 : decode cX10_waits 49 = .ok (.iload_n 1, 1) := by decide +kernel
theorem dX10_waits_50 : decode cX10_waits 50 = .ok (.iload_n 2, 1) := by decide +kernel
theorem dX10_waits_51 : decode cX10_waits 51 = .ok (.iconst 0, 1) := by decide +kernel
theorem dX10_waits_52 : decode cX10_waits 52 = .ok (.invokevirtual 200, 3) := by decide +kernel
theorem dX10_waits_55 : decode cX10_waits 55 = .ok (.aload_n 0, 1) := by decide +kernel
theorem dX10_waits_56 : decode cX10_waits 56 = .ok (.getfield 52, 3) := by decide +kernel
theorem dX10_waits_59 : decode cX10_waits 59 = .ok (.iload_n 3, 1) := by decide +kernel
theorem dX10_waits_60 : decode cX10_waits 60 = .ok (.iload 4, 2) := by decide +kernel
theorem dX10_waits_62 : decode cX10_waits 62 = .ok (.iload 5, 2) := by decide +kernel
theorem dX10_waits_64 : decode cX10_waits 64 = .ok (.invokevirtual 218, 3) := by decide +kernel
theorem dX10_waits_67 : decode cX10_waits 67 = .ok (.ireturn, 1) := by decide +kernel
theorem dX10_order_0 : decode cX10_order 0 = .ok (.aload_n 0, 1) := by decide +kernel
theorem dX10_order_1 : decode cX10_order 1 = .ok (.getfield 19, 3) := by decide +kernel
theorem dX10_order_4 : decode cX10_order 4 = .ok (.getfield 83, 3) := by decide +kernel
theorem dX10_order_7 : decode cX10_order 7 = .ok (.ifCond .eq 31, 3) := by decide +kernel
theorem dX10_order_10 : decode cX10_order 10 = .ok (.aload_n 0, 1) := by decide +kernel
theorem dX10_order_11 : decode cX10_order 11 = .ok (.getfield 59, 3) := by decide +kernel
theorem dX10_order_14 : decode cX10_order 14 = .ok (.getfield 221, 3) := by decide +kernel
theorem dX10_order_17 : decode cX10_order 17 = .ok (.iconst 5, 1) := by decide +kernel
theorem dX10_order_18 : decode cX10_order 18 = .ok (.if_icmp .ge 20, 3) := by decide +kernel
theorem dX10_order_21 : decode cX10_order 21 = .ok (.aload_n 0, 1) := by decide +kernel
theorem dX10_order_22 : decode cX10_order 22 = .ok (.getfield 10, 3) := by decide +kernel
theorem dX10_order_25 : decode cX10_order 25 = .ok (.getfield 107, 3) := by decide +kernel
theorem dX10_order_28 : decode cX10_order 28 = .ok (.aload_n 0, 1) := by decide +kernel
theorem dX10_order_29 : decode cX10_order 29 = .ok (.getfield 19, 3) := by decide +kernel
theorem dX10_order_32 : decode cX10_order 32 = .ok (.getfield 83, 3) := by decide +kernel
theorem dX10_order_35 : decode cX10_order 35 = .ok (.if_icmp .ge 5, 3) := by decide +kernel
theorem dX10_order_38 : decode cX10_order 38 = .ok (.iconst (-1), 1) := by decide +kernel
theorem dX10_order_39 : decode cX10_order 39 = .ok (.ireturn, 1) := by decide +kernel
theorem dX10_order_40 : decode cX10_order 40 = .ok (.aload_n 0, 1) := by decide +kernel
theorem dX10_order_41 : decode cX10_order 41 = .ok (.getfield 59, 3) := by decide +kernel
theorem dX10_order_44 : decode cX10_order 44 = .ok (.aload_n 0, 1) := by decide +kernel
theorem dX10_order_45 : decode cX10_order 45 = .ok (.getfield 10, 3) := by decide +kernel
theorem dX10_order_48 : decode cX10_order 48 = .ok (.aload_n 0, 1) := by decide +kernel
theorem dX10_order_49 : decode cX10_order 49 = .ok (.getfield 19, 3) := by decide +kernel
theorem dX10_order_52 : decode cX10_order 52 = .ok (.getfield 83, 3) := by decide +kernel
theorem dX10_order_55 : decode cX10_order 55 = .ok (.invokevirtual 222, 3) := by decide +kernel
theorem dX10_order_58 : decode cX10_order 58 = .ok (.istore_n 1, 1) := by decide +kernel
theorem dX10_order_59 : decode cX10_order 59 = .ok (.aload_n 0, 1) := by decide +kernel
theorem dX10_order_60 : decode cX10_order 60 = .ok (.getfield 10, 3) := by decide +kernel
theorem dX10_order_63 : decode cX10_order 63 = .ok (.invokevirtual 127, 3) := by decide +kernel
theorem dX10_order_66 : decode cX10_order 66 = .ok (.iload_n 1, 1) := by decide +kernel
theorem dX10_order_67 : decode cX10_order 67 = .ok (.ireturn, 1) := by decide +kernel
theorem dX10_given_0 : decode cX10_given 0 = .ok (.iload_n 1, 1) := by decide +kernel
theorem dX10_given_1 : decode cX10_given 1 = .ok (.iconst 2, 1) := by decide +kernel
theorem dX10_given_2 : decode cX10_given 2 = .ok (.iconst 5, 1) := by decide +kernel
theorem dX10_given_3 : decode cX10_given 3 = .ok (.invokestatic 79, 3) := by decide +kernel
theorem dX10_given_6 : decode cX10_given 6 = .ok (.ifCond .eq 24, 3) := by decide +kernel
theorem dX10_given_9 : decode cX10_given 9 = .ok (.iload_n 2, 1) := by decide +kernel
theorem dX10_given_10 : decode cX10_given 10 = .ok (.iconst (-1), 1) := by decide +kernel
theorem dX10_given_11 : decode cX10_given 11 = .ok (.iload_n 1, 1) := by decide +kernel
theorem dX10_given_12 : decode cX10_given 12 = .ok (.iconst 1, 1) := by decide +kernel
theorem dX10_given_13 : decode cX10_given 13 = .ok (.isub, 1) := by decide +kernel
theorem dX10_given_14 : decode cX10_given 14 = .ok (.invokestatic 79, 3) := by decide +kernel
theorem dX10_given_17 : decode cX10_given 17 = .ok (.ifCond .eq 13, 3) := by decide +kernel
theorem dX10_given_20 : decode cX10_given 20 = .ok (.aload_n 0, 1) := by decide +kernel
theorem dX10_given_21 : decode cX10_given 21 = .ok (.getfield 59, 3) := by decide +kernel
theorem dX10_given_24 : decode cX10_given 24 = .ok (.getfield 221, 3) := by decide +kernel
theorem dX10_given_27 : decode cX10_given 27 = .ok (.ifCond .ne 5, 3) := by decide +kernel
theorem dX10_given_30 : decode cX10_given 30 = .ok (.iconst (-1), 1) := by decide +kernel
theorem dX10_given_31 : decode cX10_given 31 = .ok (.ireturn, 1) := by decide +kernel
theorem dX10_given_32 : decode cX10_given 32 = .ok (.aload_n 0, 1) := by decide +kernel
theorem dX10_given_33 : decode cX10_given 33 = .ok (.getfield 59, 3) := by decide +kernel
theorem dX10_given_36 : decode cX10_given 36 = .ok (.iload_n 1, 1) := by decide +kernel
theorem dX10_given_37 : decode cX10_given 37 = .ok (.invokevirtual 225, 3) := by decide +kernel
theorem dX10_given_40 : decode cX10_given 40 = .ok (.iload_n 2, 1) := by decide +kernel
theorem dX10_given_41 : decode cX10_given 41 = .ok (.iconst (-1), 1) := by decide +kernel
theorem dX10_given_42 : decode cX10_given 42 = .ok (.if_icmp .ne 13, 3) := by decide +kernel
theorem dX10_given_45 : decode cX10_given 45 = .ok (.aload_n 0, 1) := by decide +kernel
theorem dX10_given_46 : decode cX10_given 46 = .ok (.getfield 59, 3) := by decide +kernel
theorem dX10_given_49 : decode cX10_given 49 = .ok (.getfield 228, 3) := by decide +kernel
theorem dX10_given_52 : decode cX10_given 52 = .ok (.goto 11, 3) := by decide +kernel
theorem dX10_given_55 : decode cX10_given 55 = .ok (.aload_n 0, 1) := by decide +kernel
theorem dX10_given_56 : decode cX10_given 56 = .ok (.getfield 59, 3) := by decide +kernel
theorem dX10_given_59 : decode cX10_given 59 = .ok (.iload_n 2, 1) := by decide +kernel
theorem dX10_given_60 : decode cX10_given 60 = .ok (.invokevirtual 231, 3) := by decide +kernel
theorem dX10_given_63 : decode cX10_given 63 = .ok (.ireturn, 1) := by decide +kernel
theorem dX10_cleverest_0 : decode cX10_cleverest 0 = .ok (.aload_n 0, 1) := by decide +kernel
theorem dX10_cleverest_1 : decode cX10_cleverest 1 = .ok (.iload_n 1, 1) := by decide +kernel
theorem dX10_cleverest_2 : decode cX10_cleverest 2 = .ok (.iload_n 2, 1) := by decide +kernel
theorem dX10_cleverest_3 : decode cX10_cleverest 3 = .ok (.invokevirtual 164, 3) := by decide +kernel
theorem dX10_cleverest_6 : decode cX10_cleverest 6 = .ok (.ifCond .eq 12, 3) := by decide +kernel
theorem dX10_cleverest_9 : decode cX10_cleverest 9 = .ok (.iload_n 3, 1) := by decide +kernel
theorem dX10_cleverest_10 : decode cX10_cleverest 10 = .ok (.iconst 0, 1) := by decide +kernel
theorem dX10_cleverest_11 : decode cX10_cleverest 11 = .ok (.iconst 2, 1) := by decide +kernel
theorem dX10_cleverest_12 : decode cX10_cleverest 12 = .ok (.invokestatic 79, 3) := by decide +kernel
theorem dX10_cleverest_15 : decode cX10_cleverest 15 = .ok (.ifCond .ne 7, 3) := by decide +kernel
theorem dX10_cleverest_18 : decode cX10_cleverest 18 = .ok (.ldc2_w 151, 3) := by decide +kernel
theorem dX10_cleverest_21 : decode cX10_cleverest 21 = .ok (.lreturn, 1) := by decide +kernel
theorem dX10_cleverest_22 : decode cX10_cleverest 22 = .ok (.aload_n 0, 1) := by decide +kernel
theorem dX10_cleverest_23 : decode cX10_cleverest 23 = .ok (.aload_n 0, 1) := by decide +kernel
theorem dX10_cleverest_24 : decode cX10_cleverest 24 = .ok (.getfield 33, 3) := by decide +kernel
theorem dX10_cleverest_27 : decode cX10_cleverest 27 = .ok (.aload_n 0, 1) := by decide +kernel
theorem dX10_cleverest_28 : decode cX10_cleverest 28 = .ok (.getfield 19, 3) := by decide +kernel
theorem dX10_cleverest_31 : decode cX10_cleverest 31 = .ok (.iload_n 1, 1) := by decide +kernel
theorem dX10_cleverest_32 : decode cX10_cleverest 32 = .ok (.invokevirtual 137, 3) := by decide +kernel
theorem dX10_cleverest_35 : decode cX10_cleverest 35 = .ok (.invokevirtual 153, 3) := by decide +kernel
theorem dX10_cleverest_38 : decode cX10_cleverest 38 = .ok (.aload_n 0, 1) := by decide +kernel
theorem dX10_cleverest_39 : decode cX10_cleverest 39 = .ok (.aload_n 0, 1) := by decide +kernel
theorem dX10_cleverest_40 : decode cX10_cleverest 40 = .ok (.getfield 37, 3) := by decide +kernel
theorem dX10_cleverest_43 : decode cX10_cleverest 43 = .ok (.aload_n 0, 1) := by decide +kernel
theorem dX10_cleverest_44 : decode cX10_cleverest 44 = .ok (.getfield 19, 3) := by decide +kernel
theorem dX10_cleverest_47 : decode cX10_cleverest 47 = .ok (.iload_n 2, 1) := by decide +kernel
theorem dX10_cleverest_48 : decode cX10_cleverest 48 = .ok (.invokevirtual 137, 3) := by decide +kernel
theorem dX10_cleverest_51 : decode cX10_cleverest 51 = .ok (.invokevirtual 153, 3) := by decide +kernel
theorem dX10_cleverest_54 : decode cX10_cleverest 54 = .ok (.iconst 1, 1) := by decide +kernel
theorem dX10_cleverest_55 : decode cX10_cleverest 55 = .ok (.istore 4, 2) := by decide +kernel
theorem dX10_cleverest_57 : decode cX10_cleverest 57 = .ok (.aload_n 0, 1) := by decide +kernel
theorem dX10_cleverest_58 : decode cX10_cleverest 58 = .ok (.getfield 33, 3) := by decide +kernel
theorem dX10_cleverest_61 : decode cX10_cleverest 61 = .ok (.aload_n 0, 1) := by decide +kernel
theorem dX10_cleverest_62 : decode cX10_cleverest 62 = .ok (.getfield 37, 3) := by decide +kernel
theorem dX10_cleverest_65 : decode cX10_cleverest 65 = .ok (.iconst 1, 1) := by decide +kernel
theorem dX10_cleverest_66 : decode cX10_cleverest 66 = .ok (.invokevirtual 168, 3) := by decide +kernel
theorem dX10_cleverest_69 : decode cX10_cleverest 69 = .ok (.lstore 5, 2) := by decide +kernel
theorem dX10_cleverest_71 : decode cX10_cleverest 71 = .ok (.iconst 2, 1) := by decide +kernel
theorem dX10_cleverest_72 : decode cX10_cleverest 72 = .ok (.istore 7, 2) := by decide +kernel
theorem dX10_cleverest_74 : decode cX10_cleverest 74 = .ok (.iload 7, 2) := by decide +kernel
theorem dX10_cleverest_76 : decode cX10_cleverest 76 = .ok (.aload_n 0, 1) := by decide +kernel
theorem dX10_cleverest_77 : decode cX10_cleverest 77 = .ok (.getfield 19, 3) := by decide +kernel
theorem dX10_cleverest_80 : decode cX10_cleverest 80 = .ok (.getfield 83, 3) := by decide +kernel
theorem dX10_cleverest_83 : decode cX10_cleverest 83 = .ok (.if_icmp .gt 40, 3) := by decide +kernel
theorem dX10_cleverest_86 : decode cX10_cleverest 86 = .ok (.aload_n 0, 1) := by decide +kernel
theorem dX10_cleverest_87 : decode cX10_cleverest 87 = .ok (.getfield 33, 3) := by decide +kernel
theorem dX10_cleverest_90 : decode cX10_cleverest 90 = .ok (.aload_n 0, 1) := by decide +kernel
theorem dX10_cleverest_91 : decode cX10_cleverest 91 = .ok (.getfield 37, 3) := by decide +kernel
theorem dX10_cleverest_94 : decode cX10_cleverest 94 = .ok (.iload 7, 2) := by decide +kernel
theorem dX10_cleverest_96 : decode cX10_cleverest 96 = .ok (.invokevirtual 168, 3) := by decide +kernel
theorem dX10_cleverest_99 : decode cX10_cleverest 99 = .ok (.lstore 8, 2) := by decide +kernel
theorem dX10_cleverest_101 : decode cX10_cleverest 101 = .ok (.lload 8, 2) := by decide +kernel
theorem dX10_cleverest_103 : decode cX10_cleverest 103 = .ok (.lload 5, 2) := by decide +kernel
theorem dX10_cleverest_105 : decode cX10_cleverest 105 = .ok (.lcmp, 1) := by decide +kernel
theorem dX10_cleverest_106 : decode cX10_cleverest 106 = .ok (.ifCond .le 11, 3) := by decide +kernel
theorem dX10_cleverest_109 : decode cX10_cleverest 109 = .ok (.lload 8, 2) := by decide +kernel
theorem dX10_cleverest_111 : decode cX10_cleverest 111 = .ok (.lstore 5, 2) := by decide +kernel
theorem dX10_cleverest_113 : decode cX10_cleverest 113 = .ok (.iload 7, 2) := by decide +kernel
theorem dX10_cleverest_115 : decode cX10_cleverest 115 = .ok (.istore 4, 2) := by decide +kernel
theorem dX10_cleverest_117 : decode cX10_cleverest 117 = .ok (.iinc 7 1, 3) := by decide +kernel
theorem dX10_cleverest_120 : decode cX10_cleverest 120 = .ok (.goto (-46), 3) := by decide +kernel
theorem dX10_cleverest_123 : decode cX10_cleverest 123 = .ok (.iload_n 3, 1) := by decide +kernel
theorem dX10_cleverest_124 : decode cX10_cleverest 124 = .ok (.ifCond .ne 9, 3) := by decide +kernel
theorem dX10_cleverest_127 : decode cX10_cleverest 127 = .ok (.iload 4, 2) := by decide +kernel
theorem dX10_cleverest_129 : decode cX10_cleverest 129 = .ok (.i2l, 1) := by decide +kernel
theorem dX10_cleverest_130 : decode cX10_cleverest 130 = .ok (.goto 14, 3) := by decide +kernel
theorem dX10_cleverest_133 : decode cX10_cleverest 133 = .ok (.lload 5, 2) := by decide +kernel
theorem dX10_cleverest_135 : decode cX10_cleverest 135 = .ok (.ldc2_w 175, 3) := by decide +kernel
theorem dX10_cleverest_138 : decode cX10_cleverest 138 = .ok (.iload_n 3, 1) := by decide +kernel
theorem dX10_cleverest_139 : decode cX10_cleverest 139 = .ok (.iconst 1, 1) := by decide +kernel
theorem dX10_cleverest_140 : decode cX10_cleverest 140 = .ok (.isub, 1) := by decide +kernel
theorem dX10_cleverest_141 : decode cX10_cleverest 141 = .ok (.invokestatic 177, 3) := by decide +kernel
theorem dX10_cleverest_144 : decode cX10_cleverest 144 = .ok (.lreturn, 1) := by decide +kernel
theorem dX10_went_0 : decode cX10_went 0 = .ok (.aload_n 0, 1) := by decide +kernel
theorem dX10_went_1 : decode cX10_went 1 = .ok (.getfield 19, 3) := by decide +kernel
theorem dX10_went_4 : decode cX10_went 4 = .ok (.iload_n 1, 1) := by decide +kernel
theorem dX10_went_5 : decode cX10_went 5 = .ok (.invokevirtual 130, 3) := by decide +kernel
theorem dX10_went_8 : decode cX10_went 8 = .ok (.ifCond .eq 24, 3) := by decide +kernel
theorem dX10_went_11 : decode cX10_went 11 = .ok (.aload_n 0, 1) := by decide +kernel
theorem dX10_went_12 : decode cX10_went 12 = .ok (.getfield 19, 3) := by decide +kernel
theorem dX10_went_15 : decode cX10_went 15 = .ok (.iload_n 2, 1) := by decide +kernel
theorem dX10_went_16 : decode cX10_went 16 = .ok (.invokevirtual 134, 3) := by decide +kernel
theorem dX10_went_19 : decode cX10_went 19 = .ok (.ifCond .eq 13, 3) := by decide +kernel
theorem dX10_went_22 : decode cX10_went 22 = .ok (.iload_n 3, 1) := by decide +kernel
theorem dX10_went_23 : decode cX10_went 23 = .ok (.iconst 1, 1) := by decide +kernel
theorem dX10_went_24 : decode cX10_went 24 = .ok (.bipush 10, 2) := by decide +kernel
theorem dX10_went_26 : decode cX10_went 26 = .ok (.invokestatic 79, 3) := by decide +kernel
theorem dX10_went_29 : decode cX10_went 29 = .ok (.ifCond .ne 5, 3) := by decide +kernel
theorem dX10_went_32 : decode cX10_went 32 = .ok (.iconst (-1), 1) := by decide +kernel
theorem dX10_went_33 : decode cX10_went 33 = .ok (.ireturn, 1) := by decide +kernel
theorem dX10_went_34 : decode cX10_went 34 = .ok (.aload_n 0, 1) := by decide +kernel
theorem dX10_went_35 : decode cX10_went 35 = .ok (.getfield 66, 3) := by decide +kernel
theorem dX10_went_38 : decode cX10_went 38 = .ok (.getfield 234, 3) := by decide +kernel
theorem dX10_went_41 : decode cX10_went 41 = .ok (.bipush 40, 2) := by decide +kernel
theorem dX10_went_43 : decode cX10_went 43 = .ok (.if_icmp .ge 26, 3) := by decide +kernel
theorem dX10_went_46 : decode cX10_went 46 = .ok (.iload_n 3, 1) := by decide +kernel
theorem dX10_went_47 : decode cX10_went 47 = .ok (.aload_n 0, 1) := by decide +kernel
theorem dX10_went_48 : decode cX10_went 48 = .ok (.getfield 66, 3) := by decide +kernel
theorem dX10_went_51 : decode cX10_went 51 = .ok (.invokevirtual 235, 3) := by decide +kernel
theorem dX10_went_54 : decode cX10_went 54 = .ok (.if_icmp .lt 15, 3) := by decide +kernel
theorem dX10_went_57 : decode cX10_went 57 = .ok (.aload_n 0, 1) := by decide +kernel
theorem dX10_went_58 : decode cX10_went 58 = .ok (.getfield 66, 3) := by decide +kernel
theorem dX10_went_61 : decode cX10_went 61 = .ok (.iload_n 1, 1) := by decide +kernel
theorem dX10_went_62 : decode cX10_went 62 = .ok (.iload_n 2, 1) := by decide +kernel
theorem dX10_went_63 : decode cX10_went 63 = .ok (.invokevirtual 239, 3) := by decide +kernel
theorem dX10_went_66 : decode cX10_went 66 = .ok (.ifCond .eq 5, 3) := by decide +kernel
theorem dX10_went_69 : decode cX10_went 69 = .ok (.iconst (-1), 1) := by decide +kernel
theorem dX10_went_70 : decode cX10_went 70 = .ok (.ireturn, 1) := by decide +kernel
theorem dX10_went_71 : decode cX10_went 71 = .ok (.aload_n 0, 1) := by decide +kernel
theorem dX10_went_72 : decode cX10_went 72 = .ok (.getfield 66, 3) := by decide +kernel
theorem dX10_went_75 : decode cX10_went 75 = .ok (.iload_n 1, 1) := by decide +kernel
theorem dX10_went_76 : decode cX10_went 76 = .ok (.iload_n 2, 1) := by decide +kernel
theorem dX10_went_77 : decode cX10_went 77 = .ok (.iload_n 3, 1) := by decide +kernel
theorem dX10_went_78 : decode cX10_went 78 = .ok (.invokevirtual 242, 3) := by decide +kernel
theorem dX10_went_81 : decode cX10_went 81 = .ok (.aload_n 0, 1) := by decide +kernel
theorem dX10_went_82 : decode cX10_went 82 = .ok (.getfield 66, 3) := by decide +kernel
theorem dX10_went_85 : decode cX10_went 85 = .ok (.getfield 234, 3) := by decide +kernel
theorem dX10_went_88 : decode cX10_went 88 = .ok (.ireturn, 1) := by decide +kernel
theorem dX10_logged_0 : decode cX10_logged 0 = .ok (.aload_n 0, 1) := by decide +kernel
theorem dX10_logged_1 : decode cX10_logged 1 = .ok (.getfield 66, 3) := by decide +kernel
theorem dX10_logged_4 : decode cX10_logged 4 = .ok (.iload_n 1, 1) := by decide +kernel
theorem dX10_logged_5 : decode cX10_logged 5 = .ok (.iload_n 2, 1) := by decide +kernel
theorem dX10_logged_6 : decode cX10_logged 6 = .ok (.invokevirtual 244, 3) := by decide +kernel
theorem dX10_logged_9 : decode cX10_logged 9 = .ok (.ireturn, 1) := by decide +kernel
theorem dX10_knew_0 : decode cX10_knew 0 = .ok (.aload_n 0, 1) := by decide +kernel
theorem dX10_knew_1 : decode cX10_knew 1 = .ok (.getfield 66, 3) := by decide +kernel
theorem dX10_knew_4 : decode cX10_knew 4 = .ok (.iload_n 1, 1) := by decide +kernel
theorem dX10_knew_5 : decode cX10_knew 5 = .ok (.invokevirtual 247, 3) := by decide +kernel
theorem dX10_knew_8 : decode cX10_knew 8 = .ok (.ifCond .eq 22, 3) := by decide +kernel
theorem dX10_knew_11 : decode cX10_knew 11 = .ok (.iload_n 2, 1) := by decide +kernel
theorem dX10_knew_12 : decode cX10_knew 12 = .ok (.iconst 1, 1) := by decide +kernel
theorem dX10_knew_13 : decode cX10_knew 13 = .ok (.bipush 8, 2) := by decide +kernel
theorem dX10_knew_15 : decode cX10_knew 15 = .ok (.invokestatic 79, 3) := by decide +kernel
theorem dX10_knew_18 : decode cX10_knew 18 = .ok (.ifCond .eq 12, 3) := by decide +kernel
theorem dX10_knew_21 : decode cX10_knew 21 = .ok (.iload_n 3, 1) := by decide +kernel
theorem dX10_knew_22 : decode cX10_knew 22 = .ok (.iconst 0, 1) := by decide +kernel
theorem dX10_knew_23 : decode cX10_knew 23 = .ok (.iconst 1, 1) := by decide +kernel
theorem dX10_knew_24 : decode cX10_knew 24 = .ok (.invokestatic 79, 3) := by decide +kernel
theorem dX10_knew_27 : decode cX10_knew 27 = .ok (.ifCond .ne 5, 3) := by decide +kernel
theorem dX10_knew_30 : decode cX10_knew 30 = .ok (.iconst (-1), 1) := by decide +kernel
theorem dX10_knew_31 : decode cX10_knew 31 = .ok (.ireturn, 1) := by decide +kernel
theorem dX10_knew_32 : decode cX10_knew 32 = .ok (.aload_n 0, 1) := by decide +kernel
theorem dX10_knew_33 : decode cX10_knew 33 = .ok (.getfield 19, 3) := by decide +kernel
theorem dX10_knew_36 : decode cX10_knew 36 = .ok (.aload_n 0, 1) := by decide +kernel
theorem dX10_knew_37 : decode cX10_knew 37 = .ok (.getfield 66, 3) := by decide +kernel
theorem dX10_knew_40 : decode cX10_knew 40 = .ok (.iload_n 1, 1) := by decide +kernel
theorem dX10_knew_41 : decode cX10_knew 41 = .ok (.iconst 0, 1) := by decide +kernel
theorem dX10_knew_42 : decode cX10_knew 42 = .ok (.invokevirtual 244, 3) := by decide +kernel
theorem dX10_knew_45 : decode cX10_knew 45 = .ok (.invokevirtual 137, 3) := by decide +kernel
theorem dX10_knew_48 : decode cX10_knew 48 = .ok (.astore 4, 2) := by decide +kernel
theorem dX10_knew_50 : decode cX10_knew 50 = .ok (.aload 4, 2) := by decide +kernel
theorem dX10_knew_52 : decode cX10_knew 52 = .ok (.aload_n 0, 1) := by decide +kernel
theorem dX10_knew_53 : decode cX10_knew 53 = .ok (.getfield 66, 3) := by decide +kernel
theorem dX10_knew_56 : decode cX10_knew 56 = .ok (.iload_n 1, 1) := by decide +kernel
theorem dX10_knew_57 : decode cX10_knew 57 = .ok (.iconst 1, 1) := by decide +kernel
theorem dX10_knew_58 : decode cX10_knew 58 = .ok (.invokevirtual 244, 3) := by decide +kernel
theorem dX10_knew_61 : decode cX10_knew 61 = .ok (.aload_n 0, 1) := by decide +kernel
theorem dX10_knew_62 : decode cX10_knew 62 = .ok (.iload_n 1, 1) := by decide +kernel
theorem dX10_knew_63 : decode cX10_knew 63 = .ok (.invokevirtual 250, 3) := by decide +kernel
theorem dX10_knew_66 : decode cX10_knew 66 = .ok (.invokevirtual 141, 3) := by decide +kernel
theorem dX10_knew_69 : decode cX10_knew 69 = .ok (.istore 5, 2) := by decide +kernel
theorem dX10_knew_71 : decode cX10_knew 71 = .ok (.iload 5, 2) := by decide +kernel
theorem dX10_knew_73 : decode cX10_knew 73 = .ok (.ifCond .eq 14, 3) := by decide +kernel
theorem dX10_knew_76 : decode cX10_knew 76 = .ok (.aload_n 0, 1) := by decide +kernel
theorem dX10_knew_77 : decode cX10_knew 77 = .ok (.getfield 66, 3) := by decide +kernel
theorem dX10_knew_80 : decode cX10_knew 80 = .ok (.iload_n 1, 1) := by decide +kernel
theorem dX10_knew_81 : decode cX10_knew 81 = .ok (.invokevirtual 253, 3) := by decide +kernel
theorem dX10_knew_84 : decode cX10_knew 84 = .ok (.ifCond .ne 7, 3) := by decide +kernel
theorem dX10_knew_87 : decode cX10_knew 87 = .ok (.iconst 1, 1) := by decide +kernel
theorem dX10_knew_88 : decode cX10_knew 88 = .ok (.goto 4, 3) := by decide +kernel
theorem dX10_knew_91 : decode cX10_knew 91 = .ok (.iconst 0, 1) := by decide +kernel
theorem dX10_knew_92 : decode cX10_knew 92 = .ok (.istore 6, 2) := by decide +kernel
theorem dX10_knew_94 : decode cX10_knew 94 = .ok (.iload 5, 2) := by decide +kernel
theorem dX10_knew_96 : decode cX10_knew 96 = .ok (.i2l, 1) := by decide +kernel
theorem dX10_knew_97 : decode cX10_knew 97 = .ok (.iload 6, 2) := by decide +kernel
theorem dX10_knew_99 : decode cX10_knew 99 = .ok (.ifCond .eq 13, 3) := by decide +kernel
theorem dX10_knew_102 : decode cX10_knew 102 = .ok (.iconst 1, 1) := by decide +kernel
theorem dX10_knew_103 : decode cX10_knew 103 = .ok (.iload 5, 2) := by decide +kernel
theorem dX10_knew_105 : decode cX10_knew 105 = .ok (.invokestatic 256, 3) := by decide +kernel
theorem dX10_knew_108 : decode cX10_knew 108 = .ok (.i2l, 1) := by decide +kernel
theorem dX10_knew_109 : decode cX10_knew 109 = .ok (.goto 8, 3) := by decide +kernel
theorem dX10_knew_112 : decode cX10_knew 112 = .ok (.iload 5, 2) := by decide +kernel
theorem dX10_knew_114 : decode cX10_knew 114 = .ok (.iload_n 2, 1) := by decide +kernel
theorem dX10_knew_115 : decode cX10_knew 115 = .ok (.iadd, 1) := by decide +kernel
theorem dX10_knew_116 : decode cX10_knew 116 = .ok (.i2l, 1) := by decide +kernel
theorem dX10_knew_117 : decode cX10_knew 117 = .ok (.iload_n 3, 1) := by decide +kernel
theorem dX10_knew_118 : decode cX10_knew 118 = .ok (.invokestatic 177, 3) := by decide +kernel
theorem dX10_knew_121 : decode cX10_knew 121 = .ok (.l2i, 1) := by decide +kernel
theorem dX10_knew_122 : decode cX10_knew 122 = .ok (.ireturn, 1) := by decide +kernel
theorem dX10_seed_0 : decode cX10_seed 0 = .ok (.iload_n 1, 1) := by decide +kernel
theorem dX10_seed_1 : decode cX10_seed 1 = .ok (.iconst 0, 1) := by decide +kernel
theorem dX10_seed_2 : decode cX10_seed 2 = .ok (.ldc_w 261, 3) := by decide +kernel
theorem dX10_seed_5 : decode cX10_seed 5 = .ok (.invokestatic 79, 3) := by decide +kernel
theorem dX10_seed_8 : decode cX10_seed 8 = .ok (.ifCond .ne 5, 3) := by decide +kernel
theorem dX10_seed_11 : decode cX10_seed 11 = .ok (.iconst 0, 1) := by decide +kernel
theorem dX10_seed_12 : decode cX10_seed 12 = .ok (.ireturn, 1) := by decide +kernel
theorem dX10_seed_13 : decode cX10_seed 13 = .ok (.aload_n 0, 1) := by decide +kernel
theorem dX10_seed_14 : decode cX10_seed 14 = .ok (.getfield 75, 3) := by decide +kernel
theorem dX10_seed_17 : decode cX10_seed 17 = .ok (.iload_n 1, 1) := by decide +kernel
theorem dX10_seed_18 : decode cX10_seed 18 = .ok (.putfield 262, 3) := by decide +kernel
theorem dX10_seed_21 : decode cX10_seed 21 = .ok (.iconst 1, 1) := by decide +kernel
theorem dX10_seed_22 : decode cX10_seed 22 = .ok (.ireturn, 1) := by decide +kernel
theorem dX10_draw_0 : decode cX10_draw 0 = .ok (.aload_n 0, 1) := by decide +kernel
theorem dX10_draw_1 : decode cX10_draw 1 = .ok (.getfield 19, 3) := by decide +kernel
theorem dX10_draw_4 : decode cX10_draw 4 = .ok (.getfield 97, 3) := by decide +kernel
theorem dX10_draw_7 : decode cX10_draw 7 = .ok (.ifCond .eq 13, 3) := by decide +kernel
theorem dX10_draw_10 : decode cX10_draw 10 = .ok (.aload_n 0, 1) := by decide +kernel
theorem dX10_draw_11 : decode cX10_draw 11 = .ok (.getfield 19, 3) := by decide +kernel
theorem dX10_draw_14 : decode cX10_draw 14 = .ok (.getfield 83, 3) := by decide +kernel
theorem dX10_draw_17 : decode cX10_draw 17 = .ok (.ifCond .ne 5, 3) := by decide +kernel
theorem dX10_draw_20 : decode cX10_draw 20 = .ok (.iconst (-1), 1) := by decide +kernel
theorem dX10_draw_21 : decode cX10_draw 21 = .ok (.ireturn, 1) := by decide +kernel
theorem dX10_draw_22 : decode cX10_draw 22 = .ok (.aload_n 0, 1) := by decide +kernel
theorem dX10_draw_23 : decode cX10_draw 23 = .ok (.getfield 75, 3) := by decide +kernel
theorem dX10_draw_26 : decode cX10_draw 26 = .ok (.invokevirtual 265, 3) := by decide +kernel
theorem dX10_draw_29 : decode cX10_draw 29 = .ok (.ireturn, 1) := by decide +kernel
theorem dX10_had_0 : decode cX10_had 0 = .ok (.aload_n 0, 1) := by decide +kernel
theorem dX10_had_1 : decode cX10_had 1 = .ok (.getfield 19, 3) := by decide +kernel
theorem dX10_had_4 : decode cX10_had 4 = .ok (.iload_n 1, 1) := by decide +kernel
theorem dX10_had_5 : decode cX10_had 5 = .ok (.invokevirtual 130, 3) := by decide +kernel
theorem dX10_had_8 : decode cX10_had 8 = .ok (.ifCond .eq 24, 3) := by decide +kernel
theorem dX10_had_11 : decode cX10_had 11 = .ok (.aload_n 0, 1) := by decide +kernel
theorem dX10_had_12 : decode cX10_had 12 = .ok (.getfield 75, 3) := by decide +kernel
theorem dX10_had_15 : decode cX10_had 15 = .ok (.getfield 268, 3) := by decide +kernel
theorem dX10_had_18 : decode cX10_had 18 = .ok (.ifCond .eq 14, 3) := by decide +kernel
theorem dX10_had_21 : decode cX10_had 21 = .ok (.aload_n 0, 1) := by decide +kernel
theorem dX10_had_22 : decode cX10_had 22 = .ok (.getfield 75, 3) := by decide +kernel
theorem dX10_had_25 : decode cX10_had 25 = .ok (.iload_n 1, 1) := by decide +kernel
theorem dX10_had_26 : decode cX10_had 26 = .ok (.invokevirtual 272, 3) := by decide +kernel
theorem dX10_had_29 : decode cX10_had 29 = .ok (.goto 4, 3) := by decide +kernel
theorem dX10_had_32 : decode cX10_had 32 = .ok (.iconst (-1), 1) := by decide +kernel
theorem dX10_had_33 : decode cX10_had 33 = .ok (.ireturn, 1) := by decide +kernel
theorem dX10_clear_0 : decode cX10_clear 0 = .ok (.aload_n 0, 1) := by decide +kernel
theorem dX10_clear_1 : decode cX10_clear 1 = .ok (.getfield 66, 3) := by decide +kernel
theorem dX10_clear_4 : decode cX10_clear 4 = .ok (.getfield 234, 3) := by decide +kernel
theorem dX10_clear_7 : decode cX10_clear 7 = .ok (.istore_n 1, 1) := by decide +kernel
theorem dX10_clear_8 : decode cX10_clear 8 = .ok (.aload_n 0, 1) := by decide +kernel
theorem dX10_clear_9 : decode cX10_clear 9 = .ok (.invokevirtual 90, 3) := by decide +kernel
theorem dX10_clear_12 : decode cX10_clear 12 = .ok (.iload_n 1, 1) := by decide +kernel
theorem dX10_clear_13 : decode cX10_clear 13 = .ok (.ireturn, 1) := by decide +kernel
theorem dX10_check_0 : decode cX10_check 0 = .ok (.iload_n 1, 1) := by decide +kernel
theorem dX10_check_1 : decode cX10_check 1 = .ok (.iconst 0, 1) := by decide +kernel
theorem dX10_check_2 : decode cX10_check 2 = .ok (.sipush 220, 3) := by decide +kernel
theorem dX10_check_5 : decode cX10_check 5 = .ok (.invokestatic 79, 3) := by decide +kernel
theorem dX10_check_8 : decode cX10_check 8 = .ok (.ifCond .eq 17, 3) := by decide +kernel
theorem dX10_check_11 : decode cX10_check 11 = .ok (.bipush 12, 2) := by decide +kernel
theorem dX10_check_13 : decode cX10_check 13 = .ok (.iload_n 1, 1) := by decide +kernel
theorem dX10_check_14 : decode cX10_check 14 = .ok (.imul, 1) := by decide +kernel
theorem dX10_check_15 : decode cX10_check 15 = .ok (.aload_n 0, 1) := by decide +kernel
theorem dX10_check_16 : decode cX10_check 16 = .ok (.getfield 10, 3) := by decide +kernel
theorem dX10_check_19 : decode cX10_check 19 = .ok (.getfield 107, 3) := by decide +kernel
theorem dX10_check_22 : decode cX10_check 22 = .ok (.if_icmp .le 6, 3) := by decide +kernel
theorem dX10_check_25 : decode cX10_check 25 = .ok (.bipush (-2), 2) := by decide +kernel
theorem dX10_check_27 : decode cX10_check 27 = .ok (.ireturn, 1) := by decide +kernel
theorem dX10_check_28 : decode cX10_check 28 = .ok (.aload_n 0, 1) := by decide +kernel
theorem dX10_check_29 : decode cX10_check 29 = .ok (.getfield 66, 3) := by decide +kernel
theorem dX10_check_32 : decode cX10_check 32 = .ok (.aload_n 0, 1) := by decide +kernel
theorem dX10_check_33 : decode cX10_check 33 = .ok (.getfield 10, 3) := by decide +kernel
theorem dX10_check_36 : decode cX10_check 36 = .ok (.iload_n 1, 1) := by decide +kernel
theorem dX10_check_37 : decode cX10_check 37 = .ok (.invokevirtual 275, 3) := by decide +kernel
theorem dX10_check_40 : decode cX10_check 40 = .ok (.istore_n 2, 1) := by decide +kernel
theorem dX10_check_41 : decode cX10_check 41 = .ok (.aload_n 0, 1) := by decide +kernel
theorem dX10_check_42 : decode cX10_check 42 = .ok (.getfield 10, 3) := by decide +kernel
theorem dX10_check_45 : decode cX10_check 45 = .ok (.invokevirtual 127, 3) := by decide +kernel
theorem dX10_check_48 : decode cX10_check 48 = .ok (.iload_n 2, 1) := by decide +kernel
theorem dX10_check_49 : decode cX10_check 49 = .ok (.ireturn, 1) := by decide +kernel
theorem dX10_count_0 : decode cX10_count 0 = .ok (.iload_n 1, 1) := by decide +kernel
theorem dX10_count_1 : decode cX10_count 1 = .ok (.tableswitch 126 0 8 #[51, 59, 67, 78, 86, 94, 102, 110, 118], 51) := by decide +kernel
theorem dX10_count_52 : decode cX10_count 52 = .ok (.aload_n 0, 1) := by decide +kernel
theorem dX10_count_53 : decode cX10_count 53 = .ok (.getfield 19, 3) := by decide +kernel
theorem dX10_count_56 : decode cX10_count 56 = .ok (.getfield 83, 3) := by decide +kernel
theorem dX10_count_59 : decode cX10_count 59 = .ok (.ireturn, 1) := by decide +kernel
theorem dX10_count_60 : decode cX10_count 60 = .ok (.aload_n 0, 1) := by decide +kernel
theorem dX10_count_61 : decode cX10_count 61 = .ok (.getfield 19, 3) := by decide +kernel
theorem dX10_count_64 : decode cX10_count 64 = .ok (.getfield 97, 3) := by decide +kernel
theorem dX10_count_67 : decode cX10_count 67 = .ok (.ireturn, 1) := by decide +kernel
theorem dX10_count_68 : decode cX10_count 68 = .ok (.aload_n 0, 1) := by decide +kernel
theorem dX10_count_69 : decode cX10_count 69 = .ok (.getfield 19, 3) := by decide +kernel
theorem dX10_count_72 : decode cX10_count 72 = .ok (.getfield 114, 3) := by decide +kernel
theorem dX10_count_75 : decode cX10_count 75 = .ok (.getfield 278, 3) := by decide +kernel
theorem dX10_count_78 : decode cX10_count 78 = .ok (.ireturn, 1) := by decide +kernel
theorem dX10_count_79 : decode cX10_count 79 = .ok (.aload_n 0, 1) := by decide +kernel
theorem dX10_count_80 : decode cX10_count 80 = .ok (.getfield 10, 3) := by decide +kernel
theorem dX10_count_83 : decode cX10_count 83 = .ok (.getfield 107, 3) := by decide +kernel
theorem dX10_count_86 : decode cX10_count 86 = .ok (.ireturn, 1) := by decide +kernel
theorem dX10_count_87 : decode cX10_count 87 = .ok (.aload_n 0, 1) := by decide +kernel
theorem dX10_count_88 : decode cX10_count 88 = .ok (.getfield 59, 3) := by decide +kernel
theorem dX10_count_91 : decode cX10_count 91 = .ok (.getfield 221, 3) := by decide +kernel
theorem dX10_count_94 : decode cX10_count 94 = .ok (.ireturn, 1) := by decide +kernel
theorem dX10_count_95 : decode cX10_count 95 = .ok (.aload_n 0, 1) := by decide +kernel
theorem dX10_count_96 : decode cX10_count 96 = .ok (.getfield 66, 3) := by decide +kernel
theorem dX10_count_99 : decode cX10_count 99 = .ok (.getfield 234, 3) := by decide +kernel
theorem dX10_count_102 : decode cX10_count 102 = .ok (.ireturn, 1) := by decide +kernel
theorem dX10_count_103 : decode cX10_count 103 = .ok (.aload_n 0, 1) := by decide +kernel
theorem dX10_count_104 : decode cX10_count 104 = .ok (.getfield 75, 3) := by decide +kernel
theorem dX10_count_107 : decode cX10_count 107 = .ok (.getfield 262, 3) := by decide +kernel
theorem dX10_count_110 : decode cX10_count 110 = .ok (.ireturn, 1) := by decide +kernel
theorem dX10_count_111 : decode cX10_count 111 = .ok (.aload_n 0, 1) := by decide +kernel
theorem dX10_count_112 : decode cX10_count 112 = .ok (.getfield 19, 3) := by decide +kernel
theorem dX10_count_115 : decode cX10_count 115 = .ok (.getfield 185, 3) := by decide +kernel
theorem dX10_count_118 : decode cX10_count 118 = .ok (.ireturn, 1) := by decide +kernel
theorem dX10_count_119 : decode cX10_count 119 = .ok (.aload_n 0, 1) := by decide +kernel
theorem dX10_count_120 : decode cX10_count 120 = .ok (.getfield 19, 3) := by decide +kernel
theorem dX10_count_123 : decode cX10_count 123 = .ok (.getfield 281, 3) := by decide +kernel
theorem dX10_count_126 : decode cX10_count 126 = .ok (.ireturn, 1) := by decide +kernel
theorem dX10_count_127 : decode cX10_count 127 = .ok (.iconst (-1), 1) := by decide +kernel
theorem dX10_count_128 : decode cX10_count 128 = .ok (.ireturn, 1) := by decide +kernel
theorem dX10_logFalls_0 : decode cX10_logFalls 0 = .ok (.aload_n 0, 1) := by decide +kernel
theorem dX10_logFalls_1 : decode cX10_logFalls 1 = .ok (.getfield 66, 3) := by decide +kernel
theorem dX10_logFalls_4 : decode cX10_logFalls 4 = .ok (.invokevirtual 284, 3) := by decide +kernel
theorem dX10_logFalls_7 : decode cX10_logFalls 7 = .ok (.aload_n 0, 1) := by decide +kernel
theorem dX10_logFalls_8 : decode cX10_logFalls 8 = .ok (.getfield 75, 3) := by decide +kernel
theorem dX10_logFalls_11 : decode cX10_logFalls 11 = .ok (.iconst 0, 1) := by decide +kernel
theorem dX10_logFalls_12 : decode cX10_logFalls 12 = .ok (.putfield 268, 3) := by decide +kernel
theorem dX10_logFalls_15 : decode cX10_logFalls 15 = .ok (.return_, 1) := by decide +kernel
theorem dX10_canHunt_0 : decode cX10_canHunt 0 = .ok (.aload_n 0, 1) := by decide +kernel
theorem dX10_canHunt_1 : decode cX10_canHunt 1 = .ok (.getfield 19, 3) := by decide +kernel
theorem dX10_canHunt_4 : decode cX10_canHunt 4 = .ok (.iload_n 1, 1) := by decide +kernel
theorem dX10_canHunt_5 : decode cX10_canHunt 5 = .ok (.invokevirtual 130, 3) := by decide +kernel
theorem dX10_canHunt_8 : decode cX10_canHunt 8 = .ok (.ifCond .eq 33, 3) := by decide +kernel
theorem dX10_canHunt_11 : decode cX10_canHunt 11 = .ok (.aload_n 0, 1) := by decide +kernel
theorem dX10_canHunt_12 : decode cX10_canHunt 12 = .ok (.getfield 19, 3) := by decide +kernel
theorem dX10_canHunt_15 : decode cX10_canHunt 15 = .ok (.iload_n 2, 1) := by decide +kernel
theorem dX10_canHunt_16 : decode cX10_canHunt 16 = .ok (.invokevirtual 130, 3) := by decide +kernel
theorem dX10_canHunt_19 : decode cX10_canHunt 19 = .ok (.ifCond .eq 22, 3) := by decide +kernel
theorem dX10_canHunt_22 : decode cX10_canHunt 22 = .ok (.iload_n 1, 1) := by decide +kernel
theorem dX10_canHunt_23 : decode cX10_canHunt 23 = .ok (.iload_n 2, 1) := by decide +kernel
theorem dX10_canHunt_24 : decode cX10_canHunt 24 = .ok (.if_icmp .eq 17, 3) := by decide +kernel
theorem dX10_canHunt_27 : decode cX10_canHunt 27 = .ok (.aload_n 0, 1) := by decide +kernel
theorem dX10_canHunt_28 : decode cX10_canHunt 28 = .ok (.getfield 19, 3) := by decide +kernel
theorem dX10_canHunt_31 : decode cX10_canHunt 31 = .ok (.getfield 83, 3) := by decide +kernel
theorem dX10_canHunt_34 : decode cX10_canHunt 34 = .ok (.ifCond .le 7, 3) := by decide +kernel
theorem dX10_canHunt_37 : decode cX10_canHunt 37 = .ok (.iconst 1, 1) := by decide +kernel
theorem dX10_canHunt_38 : decode cX10_canHunt 38 = .ok (.goto 4, 3) := by decide +kernel
theorem dX10_canHunt_41 : decode cX10_canHunt 41 = .ok (.iconst 0, 1) := by decide +kernel
theorem dX10_canHunt_42 : decode cX10_canHunt 42 = .ok (.ireturn, 1) := by decide +kernel
theorem dX10_goAlone_0 : decode cX10_goAlone 0 = .ok (.aload_n 1, 1) := by decide +kernel
theorem dX10_goAlone_1 : decode cX10_goAlone 1 = .ok (.aload_n 2, 1) := by decide +kernel
theorem dX10_goAlone_2 : decode cX10_goAlone 2 = .ok (.iconst 3, 1) := by decide +kernel
theorem dX10_goAlone_3 : decode cX10_goAlone 3 = .ok (.aload_n 0, 1) := by decide +kernel
theorem dX10_goAlone_4 : decode cX10_goAlone 4 = .ok (.getfield 19, 3) := by decide +kernel
theorem dX10_goAlone_7 : decode cX10_goAlone 7 = .ok (.getfield 83, 3) := by decide +kernel
theorem dX10_goAlone_10 : decode cX10_goAlone 10 = .ok (.aload_n 0, 1) := by decide +kernel
theorem dX10_goAlone_11 : decode cX10_goAlone 11 = .ok (.getfield 19, 3) := by decide +kernel
theorem dX10_goAlone_14 : decode cX10_goAlone 14 = .ok (.getfield 185, 3) := by decide +kernel
theorem dX10_goAlone_17 : decode cX10_goAlone 17 = .ok (.invokevirtual 188, 3) := by decide +kernel
theorem dX10_goAlone_20 : decode cX10_goAlone 20 = .ok (.return_, 1) := by decide +kernel
theorem dX10_followed_0 : decode cX10_followed 0 = .ok (.aload_n 0, 1) := by decide +kernel
theorem dX10_followed_1 : decode cX10_followed 1 = .ok (.aload_n 0, 1) := by decide +kernel
theorem dX10_followed_2 : decode cX10_followed 2 = .ok (.getfield 37, 3) := by decide +kernel
theorem dX10_followed_5 : decode cX10_followed 5 = .ok (.aload_n 0, 1) := by decide +kernel
theorem dX10_followed_6 : decode cX10_followed 6 = .ok (.getfield 19, 3) := by decide +kernel
theorem dX10_followed_9 : decode cX10_followed 9 = .ok (.iload_n 2, 1) := by decide +kernel
theorem dX10_followed_10 : decode cX10_followed 10 = .ok (.invokevirtual 137, 3) := by decide +kernel
theorem dX10_followed_13 : decode cX10_followed 13 = .ok (.invokevirtual 153, 3) := by decide +kernel
theorem dX10_followed_16 : decode cX10_followed 16 = .ok (.aload_n 0, 1) := by decide +kernel
theorem dX10_followed_17 : decode cX10_followed 17 = .ok (.getfield 43, 3) := by decide +kernel
theorem dX10_followed_20 : decode cX10_followed 20 = .ok (.aload_n 0, 1) := by decide +kernel
theorem dX10_followed_21 : decode cX10_followed 21 = .ok (.getfield 19, 3) := by decide +kernel
theorem dX10_followed_24 : decode cX10_followed 24 = .ok (.iload_n 1, 1) := by decide +kernel
theorem dX10_followed_25 : decode cX10_followed 25 = .ok (.invokevirtual 137, 3) := by decide +kernel
theorem dX10_followed_28 : decode cX10_followed 28 = .ok (.aload_n 0, 1) := by decide +kernel
theorem dX10_followed_29 : decode cX10_followed 29 = .ok (.getfield 19, 3) := by decide +kernel
theorem dX10_followed_32 : decode cX10_followed 32 = .ok (.iload_n 2, 1) := by decide +kernel
theorem dX10_followed_33 : decode cX10_followed 33 = .ok (.invokevirtual 137, 3) := by decide +kernel
theorem dX10_followed_36 : decode cX10_followed 36 = .ok (.aload_n 0, 1) := by decide +kernel
theorem dX10_followed_37 : decode cX10_followed 37 = .ok (.getfield 37, 3) := by decide +kernel
theorem dX10_followed_40 : decode cX10_followed 40 = .ok (.iload_n 3, 1) := by decide +kernel
theorem dX10_followed_41 : decode cX10_followed 41 = .ok (.iload 4, 2) := by decide +kernel
theorem dX10_followed_43 : decode cX10_followed 43 = .ok (.invokevirtual 285, 3) := by decide +kernel
theorem dX10_followed_46 : decode cX10_followed 46 = .ok (.lreturn, 1) := by decide +kernel
theorem dX10_thoughtBefore_0 : decode cX10_thoughtBefore 0 = .ok (.aload_n 0, 1) := by decide +kernel
theorem dX10_thoughtBefore_1 : decode cX10_thoughtBefore 1 = .ok (.getfield 66, 3) := by decide +kernel
theorem dX10_thoughtBefore_4 : decode cX10_thoughtBefore 4 = .ok (.iload_n 1, 1) := by decide +kernel
theorem dX10_thoughtBefore_5 : decode cX10_thoughtBefore 5 = .ok (.invokevirtual 288, 3) := by decide +kernel
theorem dX10_thoughtBefore_8 : decode cX10_thoughtBefore 8 = .ok (.istore_n 2, 1) := by decide +kernel
theorem dX10_thoughtBefore_9 : decode cX10_thoughtBefore 9 = .ok (.iload_n 2, 1) := by decide +kernel
theorem dX10_thoughtBefore_10 : decode cX10_thoughtBefore 10 = .ok (.iconst (-1), 1) := by decide +kernel
theorem dX10_thoughtBefore_11 : decode cX10_thoughtBefore 11 = .ok (.if_icmp .ne 7, 3) := by decide +kernel
theorem dX10_thoughtBefore_14 : decode cX10_thoughtBefore 14 = .ok (.iconst 0, 1) := by decide +kernel
theorem dX10_thoughtBefore_15 : decode cX10_thoughtBefore 15 = .ok (.goto 38, 3) := by decide +kernel
theorem dX10_thoughtBefore_18 : decode cX10_thoughtBefore 18 = .ok (.aload_n 0, 1) := by decide +kernel
theorem dX10_thoughtBefore_19 : decode cX10_thoughtBefore 19 = .ok (.getfield 66, 3) := by decide +kernel
theorem dX10_thoughtBefore_22 : decode cX10_thoughtBefore 22 = .ok (.iload_n 2, 1) := by decide +kernel
theorem dX10_thoughtBefore_23 : decode cX10_thoughtBefore 23 = .ok (.iconst 2, 1) := by decide +kernel
theorem dX10_thoughtBefore_24 : decode cX10_thoughtBefore 24 = .ok (.invokevirtual 244, 3) := by decide +kernel
theorem dX10_thoughtBefore_27 : decode cX10_thoughtBefore 27 = .ok (.aload_n 0, 1) := by decide +kernel
theorem dX10_thoughtBefore_28 : decode cX10_thoughtBefore 28 = .ok (.getfield 19, 3) := by decide +kernel
theorem dX10_thoughtBefore_31 : decode cX10_thoughtBefore 31 = .ok (.aload_n 0, 1) := by decide +kernel
theorem dX10_thoughtBefore_32 : decode cX10_thoughtBefore 32 = .ok (.getfield 66, 3) := by decide +kernel
theorem dX10_thoughtBefore_35 : decode cX10_thoughtBefore 35 = .ok (.iload_n 1, 1) := by decide +kernel
theorem dX10_thoughtBefore_36 : decode cX10_thoughtBefore 36 = .ok (.iconst 0, 1) := by decide +kernel
theorem dX10_thoughtBefore_37 : decode cX10_thoughtBefore 37 = .ok (.invokevirtual 244, 3) := by decide +kernel
theorem dX10_thoughtBefore_40 : decode cX10_thoughtBefore 40 = .ok (.aload_n 0, 1) := by decide +kernel
theorem dX10_thoughtBefore_41 : decode cX10_thoughtBefore 41 = .ok (.getfield 66, 3) := by decide +kernel
theorem dX10_thoughtBefore_44 : decode cX10_thoughtBefore 44 = .ok (.iload_n 2, 1) := by decide +kernel
theorem dX10_thoughtBefore_45 : decode cX10_thoughtBefore 45 = .ok (.iconst 1, 1) := by decide +kernel
theorem dX10_thoughtBefore_46 : decode cX10_thoughtBefore 46 = .ok (.invokevirtual 244, 3) := by decide +kernel
theorem dX10_thoughtBefore_49 : decode cX10_thoughtBefore 49 = .ok (.invokevirtual 148, 3) := by decide +kernel
theorem dX10_thoughtBefore_52 : decode cX10_thoughtBefore 52 = .ok (.iadd, 1) := by decide +kernel
theorem dX10_thoughtBefore_53 : decode cX10_thoughtBefore 53 = .ok (.istore_n 3, 1) := by decide +kernel
theorem dX10_thoughtBefore_54 : decode cX10_thoughtBefore 54 = .ok (.iconst 0, 1) := by decide +kernel
theorem dX10_thoughtBefore_55 : decode cX10_thoughtBefore 55 = .ok (.iconst 5, 1) := by decide +kernel
theorem dX10_thoughtBefore_56 : decode cX10_thoughtBefore 56 = .ok (.aload_n 0, 1) := by decide +kernel
theorem dX10_thoughtBefore_57 : decode cX10_thoughtBefore 57 = .ok (.getfield 66, 3) := by decide +kernel
theorem dX10_thoughtBefore_60 : decode cX10_thoughtBefore 60 = .ok (.iload_n 1, 1) := by decide +kernel
theorem dX10_thoughtBefore_61 : decode cX10_thoughtBefore 61 = .ok (.iconst 2, 1) := by decide +kernel
theorem dX10_thoughtBefore_62 : decode cX10_thoughtBefore 62 = .ok (.invokevirtual 244, 3) := by decide +kernel
theorem dX10_thoughtBefore_65 : decode cX10_thoughtBefore 65 = .ok (.iconst 1, 1) := by decide +kernel
theorem dX10_thoughtBefore_66 : decode cX10_thoughtBefore 66 = .ok (.isub, 1) := by decide +kernel
theorem dX10_thoughtBefore_67 : decode cX10_thoughtBefore 67 = .ok (.iload_n 3, 1) := by decide +kernel
theorem dX10_thoughtBefore_68 : decode cX10_thoughtBefore 68 = .ok (.isub, 1) := by decide +kernel
theorem dX10_thoughtBefore_69 : decode cX10_thoughtBefore 69 = .ok (.invokestatic 291, 3) := by decide +kernel
theorem dX10_thoughtBefore_72 : decode cX10_thoughtBefore 72 = .ok (.invokestatic 256, 3) := by decide +kernel
theorem dX10_thoughtBefore_75 : decode cX10_thoughtBefore 75 = .ok (.ireturn, 1) := by decide +kernel
theorem dX10_within_0 : decode cX10_within 0 = .ok (.iload_n 0, 1) := by decide +kernel
theorem dX10_within_1 : decode cX10_within 1 = .ok (.iload_n 1, 1) := by decide +kernel
theorem dX10_within_2 : decode cX10_within 2 = .ok (.if_icmp .lt 12, 3) := by decide +kernel
theorem dX10_within_5 : decode cX10_within 5 = .ok (.iload_n 0, 1) := by decide +kernel
theorem dX10_within_6 : decode cX10_within 6 = .ok (.iload_n 2, 1) := by decide +kernel
theorem dX10_within_7 : decode cX10_within 7 = .ok (.if_icmp .gt 7, 3) := by decide +kernel
theorem dX10_within_10 : decode cX10_within 10 = .ok (.iconst 1, 1) := by decide +kernel
theorem dX10_within_11 : decode cX10_within 11 = .ok (.goto 4, 3) := by decide +kernel
theorem dX10_within_14 : decode cX10_within 14 = .ok (.iconst 0, 1) := by decide +kernel
theorem dX10_within_15 : decode cX10_within 15 = .ok (.ireturn, 1) := by decide +kernel
theorem dX10_ofFraction_0 : decode cX10_ofFraction 0 = .ok (.lload_n 2, 1) := by decide +kernel
theorem dX10_ofFraction_1 : decode cX10_ofFraction 1 = .ok (.lstore 5, 2) := by decide +kernel
theorem dX10_ofFraction_3 : decode cX10_ofFraction 3 = .ok (.lload_n 0, 1) := by decide +kernel
theorem dX10_ofFraction_4 : decode cX10_ofFraction 4 = .ok (.lstore 7, 2) := by decide +kernel
theorem dX10_ofFraction_6 : decode cX10_ofFraction 6 = .ok (.iconst 0, 1) := by decide +kernel
theorem dX10_ofFraction_7 : decode cX10_ofFraction 7 = .ok (.istore 9, 2) := by decide +kernel
theorem dX10_ofFraction_9 : decode cX10_ofFraction 9 = .ok (.iload 9, 2) := by decide +kernel
theorem dX10_ofFraction_11 : decode cX10_ofFraction 11 = .ok (.bipush 100, 2) := by decide +kernel
theorem dX10_ofFraction_13 : decode cX10_ofFraction 13 = .ok (.if_icmp .ge 31, 3) := by decide +kernel
theorem dX10_ofFraction_16 : decode cX10_ofFraction 16 = .ok (.lload 7, 2) := by decide +kernel
theorem dX10_ofFraction_18 : decode cX10_ofFraction 18 = .ok (.lconst 0, 1) := by decide +kernel
theorem dX10_ofFraction_19 : decode cX10_ofFraction 19 = .ok (.lcmp, 1) := by decide +kernel
theorem dX10_ofFraction_20 : decode cX10_ofFraction 20 = .ok (.ifCond .eq 24, 3) := by decide +kernel
theorem dX10_ofFraction_23 : decode cX10_ofFraction 23 = .ok (.lload 5, 2) := by decide +kernel
theorem dX10_ofFraction_25 : decode cX10_ofFraction 25 = .ok (.lload 7, 2) := by decide +kernel
theorem dX10_ofFraction_27 : decode cX10_ofFraction 27 = .ok (.lrem, 1) := by decide +kernel
theorem dX10_ofFraction_28 : decode cX10_ofFraction 28 = .ok (.lstore 10, 2) := by decide +kernel
theorem dX10_ofFraction_30 : decode cX10_ofFraction 30 = .ok (.lload 7, 2) := by decide +kernel
theorem dX10_ofFraction_32 : decode cX10_ofFraction 32 = .ok (.lstore 5, 2) := by decide +kernel
theorem dX10_ofFraction_34 : decode cX10_ofFraction 34 = .ok (.lload 10, 2) := by decide +kernel
theorem dX10_ofFraction_36 : decode cX10_ofFraction 36 = .ok (.lstore 7, 2) := by decide +kernel
theorem dX10_ofFraction_38 : decode cX10_ofFraction 38 = .ok (.iinc 9 1, 3) := by decide +kernel
theorem dX10_ofFraction_41 : decode cX10_ofFraction 41 = .ok (.goto (-32), 3) := by decide +kernel
theorem dX10_ofFraction_44 : decode cX10_ofFraction 44 = .ok (.lload 5, 2) := by decide +kernel
theorem dX10_ofFraction_46 : decode cX10_ofFraction 46 = .ok (.lconst 0, 1) := by decide +kernel
theorem dX10_ofFraction_47 : decode cX10_ofFraction 47 = .ok (.lcmp, 1) := by decide +kernel
theorem dX10_ofFraction_48 : decode cX10_ofFraction 48 = .ok (.ifCond .ne 5, 3) := by decide +kernel
theorem dX10_ofFraction_51 : decode cX10_ofFraction 51 = .ok (.lconst 0, 1) := by decide +kernel
theorem dX10_ofFraction_52 : decode cX10_ofFraction 52 = .ok (.lreturn, 1) := by decide +kernel
theorem dX10_ofFraction_53 : decode cX10_ofFraction 53 = .ok (.iload 4, 2) := by decide +kernel
theorem dX10_ofFraction_55 : decode cX10_ofFraction 55 = .ok (.ifCond .ne 10, 3) := by decide +kernel
theorem dX10_ofFraction_58 : decode cX10_ofFraction 58 = .ok (.lload_n 0, 1) := by decide +kernel
theorem dX10_ofFraction_59 : decode cX10_ofFraction 59 = .ok (.lload 5, 2) := by decide +kernel
theorem dX10_ofFraction_61 : decode cX10_ofFraction 61 = .ok (.ldiv, 1) := by decide +kernel
theorem dX10_ofFraction_62 : decode cX10_ofFraction 62 = .ok (.goto 7, 3) := by decide +kernel
theorem dX10_ofFraction_65 : decode cX10_ofFraction 65 = .ok (.lload_n 2, 1) := by decide +kernel
theorem dX10_ofFraction_66 : decode cX10_ofFraction 66 = .ok (.lload 5, 2) := by decide +kernel
theorem dX10_ofFraction_68 : decode cX10_ofFraction 68 = .ok (.ldiv, 1) := by decide +kernel
theorem dX10_ofFraction_69 : decode cX10_ofFraction 69 = .ok (.lreturn, 1) := by decide +kernel
theorem dX11_init_0 : decode cX11_init 0 = .ok (.aload_n 0, 1) := by decide +kernel
theorem dX11_init_1 : decode cX11_init 1 = .ok (.invokespecial 1, 3) := by decide +kernel
theorem dX11_init_4 : decode cX11_init 4 = .ok (.aload_n 0, 1) := by decide +kernel
theorem dX11_init_5 : decode cX11_init 5 = .ok (.iconst 5, 1) := by decide +kernel
theorem dX11_init_6 : decode cX11_init 6 = .ok (.newarray .int, 2) := by decide +kernel
theorem dX11_init_8 : decode cX11_init 8 = .ok (.putfield 7, 3) := by decide +kernel
theorem dX11_init_11 : decode cX11_init 11 = .ok (.aload_n 0, 1) := by decide +kernel
theorem dX11_init_12 : decode cX11_init 12 = .ok (.bipush 6, 2) := by decide +kernel
theorem dX11_init_14 : decode cX11_init 14 = .ok (.newarray .int, 2) := by decide +kernel
theorem dX11_init_16 : decode cX11_init 16 = .ok (.putfield 13, 3) := by decide +kernel
theorem dX11_init_19 : decode cX11_init 19 = .ok (.aload_n 0, 1) := by decide +kernel
theorem dX11_init_20 : decode cX11_init 20 = .ok (.bipush 6, 2) := by decide +kernel
theorem dX11_init_22 : decode cX11_init 22 = .ok (.newarray .int, 2) := by decide +kernel
theorem dX11_init_24 : decode cX11_init 24 = .ok (.putfield 16, 3) := by decide +kernel
theorem dX11_init_27 : decode cX11_init 27 = .ok (.aload_n 0, 1) := by decide +kernel
theorem dX11_init_28 : decode cX11_init 28 = .ok (.iconst 5, 1) := by decide +kernel
theorem dX11_init_29 : decode cX11_init 29 = .ok (.newarray .int, 2) := by decide +kernel
theorem dX11_init_31 : decode cX11_init 31 = .ok (.putfield 19, 3) := by decide +kernel
theorem dX11_init_34 : decode cX11_init 34 = .ok (.aload_n 0, 1) := by decide +kernel
theorem dX11_init_35 : decode cX11_init 35 = .ok (.iconst 5, 1) := by decide +kernel
theorem dX11_init_36 : decode cX11_init 36 = .ok (.newarray .int, 2) := by decide +kernel
theorem dX11_init_38 : decode cX11_init 38 = .ok (.putfield 22, 3) := by decide +kernel
theorem dX11_init_41 : decode cX11_init 41 = .ok (.aload_n 0, 1) := by decide +kernel
theorem dX11_init_42 : decode cX11_init 42 = .ok (.iconst 5, 1) := by decide +kernel
theorem dX11_init_43 : decode cX11_init 43 = .ok (.newarray .int, 2) := by decide +kernel
theorem dX11_init_45 : decode cX11_init 45 = .ok (.putfield 25, 3) := by decide +kernel
theorem dX11_init_48 : decode cX11_init 48 = .ok (.aload_n 0, 1) := by decide +kernel
theorem dX11_init_49 : decode cX11_init 49 = .ok (.sipush 220, 3) := by decide +kernel
theorem dX11_init_52 : decode cX11_init 52 = .ok (.newarray .byte, 2) := by decide +kernel
theorem dX11_init_54 : decode cX11_init 54 = .ok (.putfield 28, 3) := by decide +kernel
theorem dX11_init_57 : decode cX11_init 57 = .ok (.aload_n 0, 1) := by decide +kernel
theorem dX11_init_58 : decode cX11_init 58 = .ok (.sipush 220, 3) := by decide +kernel
theorem dX11_init_61 : decode cX11_init 61 = .ok (.newarray .int, 2) := by decide +kernel
theorem dX11_init_63 : decode cX11_init 63 = .ok (.putfield 32, 3) := by decide +kernel
theorem dX11_init_66 : decode cX11_init 66 = .ok (.aload_n 0, 1) := by decide +kernel
theorem dX11_init_67 : decode cX11_init 67 = .ok (.sipush 220, 3) := by decide +kernel
theorem dX11_init_70 : decode cX11_init 70 = .ok (.newarray .int, 2) := by decide +kernel
theorem dX11_init_72 : decode cX11_init 72 = .ok (.putfield 35, 3) := by decide +kernel
theorem dX11_init_75 : decode cX11_init 75 = .ok (.aload_n 0, 1) := by decide +kernel
theorem dX11_init_76 : decode cX11_init 76 = .ok (.bipush 14, 2) := by decide +kernel
theorem dX11_init_78 : decode cX11_init 78 = .ok (.newarray .int, 2) := by decide +kernel
theorem dX11_init_80 : decode cX11_init 80 = .ok (.putfield 38, 3) := by decide +kernel
theorem dX11_init_83 : decode cX11_init 83 = .ok (.aload_n 0, 1) := by decide +kernel
theorem dX11_init_84 : decode cX11_init 84 = .ok (.bipush 14, 2) := by decide +kernel
theorem dX11_init_86 : decode cX11_init 86 = .ok (.newarray .int, 2) := by decide +kernel
theorem dX11_init_88 : decode cX11_init 88 = .ok (.putfield 41, 3) := by decide +kernel
theorem dX11_init_91 : decode cX11_init 91 = .ok (.aload_n 0, 1) := by decide +kernel
theorem dX11_init_92 : decode cX11_init 92 = .ok (.bipush 14, 2) := by decide +kernel
theorem dX11_init_94 : decode cX11_init 94 = .ok (.newarray .int, 2) := by decide +kernel
theorem dX11_init_96 : decode cX11_init 96 = .ok (.putfield 44, 3) := by decide +kernel
theorem dX11_init_99 : decode cX11_init 99 = .ok (.aload_n 0, 1) := by decide +kernel
theorem dX11_init_100 : decode cX11_init 100 = .ok (.bipush 14, 2) := by decide +kernel
theorem dX11_init_102 : decode cX11_init 102 = .ok (.newarray .int, 2) := by decide +kernel
theorem dX11_init_104 : decode cX11_init 104 = .ok (.putfield 47, 3) := by decide +kernel
theorem dX11_init_107 : decode cX11_init 107 = .ok (.aload_n 0, 1) := by decide +kernel
theorem dX11_init_108 : decode cX11_init 108 = .ok (.sipush 220, 3) := by decide +kernel
theorem dX11_init_111 : decode cX11_init 111 = .ok (.newarray .int, 2) := by decide +kernel
theorem dX11_init_113 : decode cX11_init 113 = .ok (.putfield 50, 3) := by decide +kernel
theorem dX11_init_116 : decode cX11_init 116 = .ok (.aload_n 0, 1) := by decide +kernel
theorem dX11_init_117 : decode cX11_init 117 = .ok (.bipush 14, 2) := by decide +kernel
theorem dX11_init_119 : decode cX11_init 119 = .ok (.newarray .int, 2) := by decide +kernel
theorem dX11_init_121 : decode cX11_init 121 = .ok (.putfield 53, 3) := by decide +kernel
theorem dX11_init_124 : decode cX11_init 124 = .ok (.aload_n 0, 1) := by decide +kernel
theorem dX11_init_125 : decode cX11_init 125 = .ok (.bipush 14, 2) := by decide +kernel
theorem dX11_init_127 : decode cX11_init 127 = .ok (.newarray .int, 2) := by decide +kernel
theorem dX11_init_129 : decode cX11_init 129 = .ok (.putfield 56, 3) := by decide +kernel
theorem dX11_init_132 : decode cX11_init 132 = .ok (.aload_n 0, 1) := by decide +kernel
theorem dX11_init_133 : decode cX11_init 133 = .ok (.bipush 14, 2) := by decide +kernel
theorem dX11_init_135 : decode cX11_init 135 = .ok (.newarray .int, 2) := by decide +kernel
theorem dX11_init_137 : decode cX11_init 137 = .ok (.putfield 59, 3) := by decide +kernel
theorem dX11_init_140 : decode cX11_init 140 = .ok (.aload_n 0, 1) := by decide +kernel
theorem dX11_init_141 : decode cX11_init 141 = .ok (.bipush 14, 2) := by decide +kernel
theorem dX11_init_143 : decode cX11_init 143 = .ok (.newarray .int, 2) := by decide +kernel
theorem dX11_init_145 : decode cX11_init 145 = .ok (.putfield 62, 3) := by decide +kernel
theorem dX11_init_148 : decode cX11_init 148 = .ok (.aload_n 0, 1) := by decide +kernel
theorem dX11_init_149 : decode cX11_init 149 = .ok (.sipush 220, 3) := by decide +kernel
theorem dX11_init_152 : decode cX11_init 152 = .ok (.newarray .int, 2) := by decide +kernel
theorem dX11_init_154 : decode cX11_init 154 = .ok (.putfield 65, 3) := by decide +kernel
theorem dX11_init_157 : decode cX11_init 157 = .ok (.aload_n 0, 1) := by decide +kernel
theorem dX11_init_158 : decode cX11_init 158 = .ok (.bipush 8, 2) := by decide +kernel
theorem dX11_init_160 : decode cX11_init 160 = .ok (.newarray .int, 2) := by decide +kernel
theorem dX11_init_162 : decode cX11_init 162 = .ok (.putfield 68, 3) := by decide +kernel
theorem dX11_init_165 : decode cX11_init 165 = .ok (.aload_n 0, 1) := by decide +kernel
theorem dX11_init_166 : decode cX11_init 166 = .ok (.sipush 1053, 3) := by decide +kernel
theorem dX11_init_169 : decode cX11_init 169 = .ok (.newarray .long, 2) := by decide +kernel
theorem dX11_init_171 : decode cX11_init 171 = .ok (.putfield 71, 3) := by decide +kernel
theorem dX11_init_174 : decode cX11_init 174 = .ok (.aload_n 0, 1) := by decide +kernel
theorem dX11_init_175 : decode cX11_init 175 = .ok (.sipush 1053, 3) := by decide +kernel
theorem dX11_init_178 : decode cX11_init 178 = .ok (.newarray .long, 2) := by decide +kernel
theorem dX11_init_180 : decode cX11_init 180 = .ok (.putfield 75, 3) := by decide +kernel
theorem dX11_init_183 : decode cX11_init 183 = .ok (.aload_n 0, 1) := by decide +kernel
theorem dX11_init_184 : decode cX11_init 184 = .ok (.bipush 11, 2) := by decide +kernel
theorem dX11_init_186 : decode cX11_init 186 = .ok (.newarray .long, 2) := by decide +kernel
theorem dX11_init_188 : decode cX11_init 188 = .ok (.putfield 78, 3) := by decide +kernel
theorem dX11_init_191 : decode cX11_init 191 = .ok (.aload_n 0, 1) := by decide +kernel
theorem dX11_init_192 : decode cX11_init 192 = .ok (.bipush 11, 2) := by decide +kernel
theorem dX11_init_194 : decode cX11_init 194 = .ok (.newarray .long, 2) := by decide +kernel
theorem dX11_init_196 : decode cX11_init 196 = .ok (.putfield 81, 3) := by decide +kernel
theorem dX11_init_199 : decode cX11_init 199 = .ok (.aload_n 0, 1) := by decide +kernel
theorem dX11_init_200 : decode cX11_init 200 = .ok (.ldc 84, 2) := by decide +kernel
theorem dX11_init_202 : decode cX11_init 202 = .ok (.newarray .boolean, 2) := by decide +kernel
theorem dX11_init_204 : decode cX11_init 204 = .ok (.putfield 85, 3) := by decide +kernel
theorem dX11_init_207 : decode cX11_init 207 = .ok (.aload_n 0, 1) := by decide +kernel
theorem dX11_init_208 : decode cX11_init 208 = .ok (.ldc 84, 2) := by decide +kernel
theorem dX11_init_210 : decode cX11_init 210 = .ok (.newarray .long, 2) := by decide +kernel
theorem dX11_init_212 : decode cX11_init 212 = .ok (.putfield 89, 3) := by decide +kernel
theorem dX11_init_215 : decode cX11_init 215 = .ok (.aload_n 0, 1) := by decide +kernel
theorem dX11_init_216 : decode cX11_init 216 = .ok (.ldc 84, 2) := by decide +kernel
theorem dX11_init_218 : decode cX11_init 218 = .ok (.newarray .byte, 2) := by decide +kernel
theorem dX11_init_220 : decode cX11_init 220 = .ok (.putfield 92, 3) := by decide +kernel
theorem dX11_init_223 : decode cX11_init 223 = .ok (.aload_n 0, 1) := by decide +kernel
theorem dX11_init_224 : decode cX11_init 224 = .ok (.iconst 3, 1) := by decide +kernel
theorem dX11_init_225 : decode cX11_init 225 = .ok (.newarray .int, 2) := by decide +kernel
theorem dX11_init_227 : decode cX11_init 227 = .ok (.putfield 95, 3) := by decide +kernel
theorem dX11_init_230 : decode cX11_init 230 = .ok (.aload_n 0, 1) := by decide +kernel
theorem dX11_init_231 : decode cX11_init 231 = .ok (.iconst 3, 1) := by decide +kernel
theorem dX11_init_232 : decode cX11_init 232 = .ok (.newarray .int, 2) := by decide +kernel
theorem dX11_init_234 : decode cX11_init 234 = .ok (.putfield 98, 3) := by decide +kernel
theorem dX11_init_237 : decode cX11_init 237 = .ok (.aload_n 0, 1) := by decide +kernel
theorem dX11_init_238 : decode cX11_init 238 = .ok (.iconst 3, 1) := by decide +kernel
theorem dX11_init_239 : decode cX11_init 239 = .ok (.newarray .int, 2) := by decide +kernel
theorem dX11_init_241 : decode cX11_init 241 = .ok (.putfield 101, 3) := by decide +kernel
theorem dX11_init_244 : decode cX11_init 244 = .ok (.aload_n 0, 1) := by decide +kernel
theorem dX11_init_245 : decode cX11_init 245 = .ok (.iconst 3, 1) := by decide +kernel
theorem dX11_init_246 : decode cX11_init 246 = .ok (.newarray .int, 2) := by decide +kernel
theorem dX11_init_248 : decode cX11_init 248 = .ok (.putfield 104, 3) := by decide +kernel
theorem dX11_init_251 : decode cX11_init 251 = .ok (.aload_n 0, 1) := by decide +kernel
theorem dX11_init_252 : decode cX11_init 252 = .ok (.bipush 25, 2) := by decide +kernel
theorem dX11_init_254 : decode cX11_init 254 = .ok (.newarray .int, 2) := by decide +kernel
theorem dX11_init_256 : decode cX11_init 256 = .ok (.putfield 107, 3) := by decide +kernel
theorem dX11_init_259 : decode cX11_init 259 = .ok (.aload_n 0, 1) := by decide +kernel
theorem dX11_init_260 : decode cX11_init 260 = .ok (.iconst 5, 1) := by decide +kernel
theorem dX11_init_261 : decode cX11_init 261 = .ok (.newarray .int, 2) := by decide +kernel
theorem dX11_init_263 : decode cX11_init 263 = .ok (.putfield 110, 3) := by decide +kernel
theorem dX11_init_266 : decode cX11_init 266 = .ok (.aload_n 0, 1) := by decide +kernel
theorem dX11_init_267 : decode cX11_init 267 = .ok (.iconst 5, 1) := by decide +kernel
theorem dX11_init_268 : decode cX11_init 268 = .ok (.newarray .int, 2) := by decide +kernel
theorem dX11_init_270 : decode cX11_init 270 = .ok (.putfield 113, 3) := by decide +kernel
theorem dX11_init_273 : decode cX11_init 273 = .ok (.aload_n 0, 1) := by decide +kernel
theorem dX11_init_274 : decode cX11_init 274 = .ok (.bipush 40, 2) := by decide +kernel
theorem dX11_init_276 : decode cX11_init 276 = .ok (.newarray .int, 2) := by decide +kernel
theorem dX11_init_278 : decode cX11_init 278 = .ok (.putfield 116, 3) := by decide +kernel
theorem dX11_init_281 : decode cX11_init 281 = .ok (.aload_n 0, 1) := by decide +kernel
theorem dX11_init_282 : decode cX11_init 282 = .ok (.bipush 40, 2) := by decide +kernel
theorem dX11_init_284 : decode cX11_init 284 = .ok (.newarray .int, 2) := by decide +kernel
theorem dX11_init_286 : decode cX11_init 286 = .ok (.putfield 119, 3) := by decide +kernel
theorem dX11_init_289 : decode cX11_init 289 = .ok (.aload_n 0, 1) := by decide +kernel
theorem dX11_init_290 : decode cX11_init 290 = .ok (.bipush 40, 2) := by decide +kernel
theorem dX11_init_292 : decode cX11_init 292 = .ok (.newarray .int, 2) := by decide +kernel
theorem dX11_init_294 : decode cX11_init 294 = .ok (.putfield 122, 3) := by decide +kernel
theorem dX11_init_297 : decode cX11_init 297 = .ok (.aload_n 0, 1) := by decide +kernel
theorem dX11_init_298 : decode cX11_init 298 = .ok (.iconst 5, 1) := by decide +kernel
theorem dX11_init_299 : decode cX11_init 299 = .ok (.newarray .int, 2) := by decide +kernel
theorem dX11_init_301 : decode cX11_init 301 = .ok (.putfield 125, 3) := by decide +kernel
theorem dX11_init_304 : decode cX11_init 304 = .ok (.aload_n 0, 1) := by decide +kernel
theorem dX11_init_305 : decode cX11_init 305 = .ok (.iconst 5, 1) := by decide +kernel
theorem dX11_init_306 : decode cX11_init 306 = .ok (.newarray .int, 2) := by decide +kernel
theorem dX11_init_308 : decode cX11_init 308 = .ok (.putfield 128, 3) := by decide +kernel
theorem dX11_init_311 : decode cX11_init 311 = .ok (.aload_n 0, 1) := by decide +kernel
theorem dX11_init_312 : decode cX11_init 312 = .ok (.iconst 2, 1) := by decide +kernel
theorem dX11_init_313 : decode cX11_init 313 = .ok (.putfield 131, 3) := by decide +kernel
theorem dX11_init_316 : decode cX11_init 316 = .ok (.aload_n 0, 1) := by decide +kernel
theorem dX11_init_317 : decode cX11_init 317 = .ok (.iconst 1, 1) := by decide +kernel
theorem dX11_init_318 : decode cX11_init 318 = .ok (.putfield 135, 3) := by decide +kernel
theorem dX11_init_321 : decode cX11_init 321 = .ok (.return_, 1) := by decide +kernel
theorem dX11_in_0 : decode cX11_in 0 = .ok (.iload_n 0, 1) := by decide +kernel
theorem dX11_in_1 : decode cX11_in 1 = .ok (.iload_n 1, 1) := by decide +kernel
theorem dX11_in_2 : decode cX11_in 2 = .ok (.if_icmp .lt 12, 3) := by decide +kernel
theorem dX11_in_5 : decode cX11_in 5 = .ok (.iload_n 0, 1) := by decide +kernel
theorem dX11_in_6 : decode cX11_in 6 = .ok (.iload_n 2, 1) := by decide +kernel
theorem dX11_in_7 : decode cX11_in 7 = .ok (.if_icmp .gt 7, 3) := by decide +kernel
theorem dX11_in_10 : decode cX11_in 10 = .ok (.iconst 1, 1) := by decide +kernel
theorem dX11_in_11 : decode cX11_in 11 = .ok (.goto 4, 3) := by decide +kernel
theorem dX11_in_14 : decode cX11_in 14 = .ok (.iconst 0, 1) := by decide +kernel
theorem dX11_in_15 : decode cX11_in 15 = .ok (.ireturn, 1) := by decide +kernel
theorem dX11_isBand_0 : decode cX11_isBand 0 = .ok (.iload_n 1, 1) := by decide +kernel
theorem dX11_isBand_1 : decode cX11_isBand 1 = .ok (.ifCond .lt 15, 3) := by decide +kernel
theorem dX11_isBand_4 : decode cX11_isBand 4 = .ok (.iload_n 1, 1) := by decide +kernel
theorem dX11_isBand_5 : decode cX11_isBand 5 = .ok (.aload_n 0, 1) := by decide +kernel
theorem dX11_isBand_6 : decode cX11_isBand 6 = .ok (.getfield 138, 3) := by decide +kernel
theorem dX11_isBand_9 : decode cX11_isBand 9 = .ok (.if_icmp .ge 7, 3) := by decide +kernel
theorem dX11_isBand_12 : decode cX11_isBand 12 = .ok (.iconst 1, 1) := by decide +kernel
theorem dX11_isBand_13 : decode cX11_isBand 13 = .ok (.goto 4, 3) := by decide +kernel
theorem dX11_isBand_16 : decode cX11_isBand 16 = .ok (.iconst 0, 1) := by decide +kernel
theorem dX11_isBand_17 : decode cX11_isBand 17 = .ok (.ireturn, 1) := by decide +kernel
theorem dX11_isRiddle_0 : decode cX11_isRiddle 0 = .ok (.iload_n 1, 1) := by decide +kernel
theorem dX11_isRiddle_1 : decode cX11_isRiddle 1 = .ok (.ifCond .lt 15, 3) := by decide +kernel
theorem dX11_isRiddle_4 : decode cX11_isRiddle 4 = .ok (.iload_n 1, 1) := by decide +kernel
theorem dX11_isRiddle_5 : decode cX11_isRiddle 5 = .ok (.aload_n 0, 1) := by decide +kernel
theorem dX11_isRiddle_6 : decode cX11_isRiddle 6 = .ok (.getfield 141, 3) := by decide +kernel
theorem dX11_isRiddle_9 : decode cX11_isRiddle 9 = .ok (.if_icmp .ge 7, 3) := by decide +kernel
theorem dX11_isRiddle_12 : decode cX11_isRiddle 12 = .ok (.iconst 1, 1) := by decide +kernel
theorem dX11_isRiddle_13 : decode cX11_isRiddle 13 = .ok (.goto 4, 3) := by decide +kernel
theorem dX11_isRiddle_16 : decode cX11_isRiddle 16 = .ok (.iconst 0, 1) := by decide +kernel
theorem dX11_isRiddle_17 : decode cX11_isRiddle 17 = .ok (.ireturn, 1) := by decide +kernel
theorem dX11_areTwo_0 : decode cX11_areTwo 0 = .ok (.aload_n 0, 1) := by decide +kernel
theorem dX11_areTwo_1 : decode cX11_areTwo 1 = .ok (.iload_n 1, 1) := by decide +kernel
theorem dX11_areTwo_2 : decode cX11_areTwo 2 = .ok (.invokevirtual 144, 3) := by decide +kernel
theorem dX11_areTwo_5 : decode cX11_areTwo 5 = .ok (.ifCond .eq 27, 3) := by decide +kernel
theorem dX11_areTwo_8 : decode cX11_areTwo 8 = .ok (.aload_n 0, 1) := by decide +kernel
theorem dX11_areTwo_9 : decode cX11_areTwo 9 = .ok (.iload_n 2, 1) := by decide +kernel
theorem dX11_areTwo_10 : decode cX11_areTwo 10 = .ok (.invokevirtual 144, 3) := by decide +kernel
theorem dX11_areTwo_13 : decode cX11_areTwo 13 = .ok (.ifCond .eq 19, 3) := by decide +kernel
theorem dX11_areTwo_16 : decode cX11_areTwo 16 = .ok (.iload_n 1, 1) := by decide +kernel
theorem dX11_areTwo_17 : decode cX11_areTwo 17 = .ok (.iload_n 2, 1) := by decide +kernel
theorem dX11_areTwo_18 : decode cX11_areTwo 18 = .ok (.if_icmp .eq 14, 3) := by decide +kernel
theorem dX11_areTwo_21 : decode cX11_areTwo 21 = .ok (.aload_n 0, 1) := by decide +kernel
theorem dX11_areTwo_22 : decode cX11_areTwo 22 = .ok (.getfield 141, 3) := by decide +kernel
theorem dX11_areTwo_25 : decode cX11_areTwo 25 = .ok (.ifCond .le 7, 3) := by decide +kernel
theorem dX11_areTwo_28 : decode cX11_areTwo 28 = .ok (.iconst 1, 1) := by decide +kernel
theorem dX11_areTwo_29 : decode cX11_areTwo 29 = .ok (.goto 4, 3) := by decide +kernel
theorem dX11_areTwo_32 : decode cX11_areTwo 32 = .ok (.iconst 0, 1) := by decide +kernel
theorem dX11_areTwo_33 : decode cX11_areTwo 33 = .ok (.ireturn, 1) := by decide +kernel
theorem dX11_riddle_0 : decode cX11_riddle 0 = .ok (.iload_n 1, 1) := by decide +kernel
theorem dX11_riddle_1 : decode cX11_riddle 1 = .ok (.iconst 0, 1) := by decide +kernel
theorem dX11_riddle_2 : decode cX11_riddle 2 = .ok (.bipush 9, 2) := by decide +kernel
theorem dX11_riddle_4 : decode cX11_riddle 4 = .ok (.invokestatic 148, 3) := by decide +kernel
theorem dX11_riddle_7 : decode cX11_riddle 7 = .ok (.ifCond .eq 31, 3) := by decide +kernel
theorem dX11_riddle_10 : decode cX11_riddle 10 = .ok (.iload_n 2, 1) := by decide +kernel
theorem dX11_riddle_11 : decode cX11_riddle 11 = .ok (.iconst 0, 1) := by decide +kernel
theorem dX11_riddle_12 : decode cX11_riddle 12 = .ok (.bipush 30, 2) := by decide +kernel
theorem dX11_riddle_14 : decode cX11_riddle 14 = .ok (.invokestatic 148, 3) := by decide +kernel
theorem dX11_riddle_17 : decode cX11_riddle 17 = .ok (.ifCond .eq 21, 3) := by decide +kernel
theorem dX11_riddle_20 : decode cX11_riddle 20 = .ok (.iload_n 3, 1) := by decide +kernel
theorem dX11_riddle_21 : decode cX11_riddle 21 = .ok (.iconst 0, 1) := by decide +kernel
theorem dX11_riddle_22 : decode cX11_riddle 22 = .ok (.bipush 30, 2) := by decide +kernel
theorem dX11_riddle_24 : decode cX11_riddle 24 = .ok (.invokestatic 148, 3) := by decide +kernel
theorem dX11_riddle_27 : decode cX11_riddle 27 = .ok (.ifCond .eq 11, 3) := by decide +kernel
theorem dX11_riddle_30 : decode cX11_riddle 30 = .ok (.aload_n 0, 1) := by decide +kernel
theorem dX11_riddle_31 : decode cX11_riddle 31 = .ok (.getfield 141, 3) := by decide +kernel
theorem dX11_riddle_34 : decode cX11_riddle 34 = .ok (.iconst 5, 1) := by decide +kernel
theorem dX11_riddle_35 : decode cX11_riddle 35 = .ok (.if_icmp .ne 5, 3) := by decide +kernel
theorem dX11_riddle_38 : decode cX11_riddle 38 = .ok (.iconst (-1), 1) := by decide +kernel
theorem dX11_riddle_39 : decode cX11_riddle 39 = .ok (.ireturn, 1) := by decide +kernel
theorem dX11_riddle_40 : decode cX11_riddle 40 = .ok (.aload_n 0, 1) := by decide +kernel
theorem dX11_riddle_41 : decode cX11_riddle 41 = .ok (.getfield 7, 3) := by decide +kernel
theorem dX11_riddle_44 : decode cX11_riddle 44 = .ok (.aload_n 0, 1) := by decide +kernel
theorem dX11_riddle_45 : decode cX11_riddle 45 = .ok (.getfield 141, 3) := by decide +kernel
theorem dX11_riddle_48 : decode cX11_riddle 48 = .ok (.iload_n 1, 1) := by decide +kernel
theorem dX11_riddle_49 : decode cX11_riddle 49 = .ok (.iastore, 1) := by decide +kernel
theorem dX11_riddle_50 : decode cX11_riddle 50 = .ok (.aload_n 0, 1) := by decide +kernel
theorem dX11_riddle_51 : decode cX11_riddle 51 = .ok (.getfield 13, 3) := by decide +kernel
theorem dX11_riddle_54 : decode cX11_riddle 54 = .ok (.aload_n 0, 1) := by decide +kernel
theorem dX11_riddle_55 : decode cX11_riddle 55 = .ok (.getfield 141, 3) := by decide +kernel
theorem dX11_riddle_58 : decode cX11_riddle 58 = .ok (.iconst 1, 1) := by decide +kernel
theorem dX11_riddle_59 : decode cX11_riddle 59 = .ok (.iadd, 1) := by decide +kernel
theorem dX11_riddle_60 : decode cX11_riddle 60 = .ok (.iload_n 2, 1) := by decide +kernel
theorem dX11_riddle_61 : decode cX11_riddle 61 = .ok (.iastore, 1) := by decide +kernel
theorem dX11_riddle_62 : decode cX11_riddle 62 = .ok (.aload_n 0, 1) := by decide +kernel
theorem dX11_riddle_63 : decode cX11_riddle 63 = .ok (.getfield 16, 3) := by decide +kernel
theorem dX11_riddle_66 : decode cX11_riddle 66 = .ok (.aload_n 0, 1) := by decide +kernel
theorem dX11_riddle_67 : decode cX11_riddle 67 = .ok (.getfield 141, 3) := by decide +kernel
theorem dX11_riddle_70 : decode cX11_riddle 70 = .ok (.iconst 1, 1) := by decide +kernel
theorem dX11_riddle_71 : decode cX11_riddle 71 = .ok (.iadd, 1) := by decide +kernel
theorem dX11_riddle_72 : decode cX11_riddle 72 = .ok (.iload_n 3, 1) := by decide +kernel
theorem dX11_riddle_73 : decode cX11_riddle 73 = .ok (.iastore, 1) := by decide +kernel
theorem dX11_riddle_74 : decode cX11_riddle 74 = .ok (.aload_n 0, 1) := by decide +kernel
theorem dX11_riddle_75 : decode cX11_riddle 75 = .ok (.aload_n 0, 1) := by decide +kernel
theorem dX11_riddle_76 : decode cX11_riddle 76 = .ok (.getfield 141, 3) := by decide +kernel
theorem dX11_riddle_79 : decode cX11_riddle 79 = .ok (.iconst 1, 1) := by decide +kernel
theorem dX11_riddle_80 : decode cX11_riddle 80 = .ok (.iadd, 1) := by decide +kernel
theorem dX11_riddle_81 : decode cX11_riddle 81 = .ok (.putfield 141, 3) := by decide +kernel
theorem dX11_riddle_84 : decode cX11_riddle 84 = .ok (.aload_n 0, 1) := by decide +kernel
theorem dX11_riddle_85 : decode cX11_riddle 85 = .ok (.iconst 0, 1) := by decide +kernel
theorem dX11_riddle_86 : decode cX11_riddle 86 = .ok (.putfield 152, 3) := by decide +kernel
theorem dX11_riddle_89 : decode cX11_riddle 89 = .ok (.aload_n 0, 1) := by decide +kernel
theorem dX11_riddle_90 : decode cX11_riddle 90 = .ok (.invokevirtual 155, 3) := by decide +kernel
theorem dX11_riddle_93 : decode cX11_riddle 93 = .ok (.pop, 1) := by decide +kernel
theorem dX11_riddle_94 : decode cX11_riddle 94 = .ok (.aload_n 0, 1) := by decide +kernel
theorem dX11_riddle_95 : decode cX11_riddle 95 = .ok (.getfield 141, 3) := by decide +kernel
theorem dX11_riddle_98 : decode cX11_riddle 98 = .ok (.iconst 1, 1) := by decide +kernel
theorem dX11_riddle_99 : decode cX11_riddle 99 = .ok (.isub, 1) := by decide +kernel
theorem dX11_riddle_100 : decode cX11_riddle 100 = .ok (.ireturn, 1) := by decide +kernel
theorem dX11_band_0 : decode cX11_band 0 = .ok (.iload_n 1, 1) := by decide +kernel
theorem dX11_band_1 : decode cX11_band 1 = .ok (.iconst 0, 1) := by decide +kernel
theorem dX11_band_2 : decode cX11_band 2 = .ok (.bipush 9, 2) := by decide +kernel
theorem dX11_band_4 : decode cX11_band 4 = .ok (.invokestatic 148, 3) := by decide +kernel
theorem dX11_band_7 : decode cX11_band 7 = .ok (.ifCond .eq 30, 3) := by decide +kernel
theorem dX11_band_10 : decode cX11_band 10 = .ok (.iload_n 2, 1) := by decide +kernel
theorem dX11_band_11 : decode cX11_band 11 = .ok (.iconst 1, 1) := by decide +kernel
theorem dX11_band_12 : decode cX11_band 12 = .ok (.bipush 9, 2) := by decide +kernel
theorem dX11_band_14 : decode cX11_band 14 = .ok (.invokestatic 148, 3) := by decide +kernel
theorem dX11_band_17 : decode cX11_band 17 = .ok (.ifCond .eq 20, 3) := by decide +kernel
theorem dX11_band_20 : decode cX11_band 20 = .ok (.iload_n 3, 1) := by decide +kernel
theorem dX11_band_21 : decode cX11_band 21 = .ok (.iconst 0, 1) := by decide +kernel
theorem dX11_band_22 : decode cX11_band 22 = .ok (.iconst 1, 1) := by decide +kernel
theorem dX11_band_23 : decode cX11_band 23 = .ok (.invokestatic 148, 3) := by decide +kernel
theorem dX11_band_26 : decode cX11_band 26 = .ok (.ifCond .eq 11, 3) := by decide +kernel
theorem dX11_band_29 : decode cX11_band 29 = .ok (.aload_n 0, 1) := by decide +kernel
theorem dX11_band_30 : decode cX11_band 30 = .ok (.getfield 138, 3) := by decide +kernel
theorem dX11_band_33 : decode cX11_band 33 = .ok (.iconst 5, 1) := by decide +kernel
theorem dX11_band_34 : decode cX11_band 34 = .ok (.if_icmp .ne 5, 3) := by decide +kernel
theorem dX11_band_37 : decode cX11_band 37 = .ok (.iconst (-1), 1) := by decide +kernel
theorem dX11_band_38 : decode cX11_band 38 = .ok (.ireturn, 1) := by decide +kernel
theorem dX11_band_39 : decode cX11_band 39 = .ok (.aload_n 0, 1) := by decide +kernel
theorem dX11_band_40 : decode cX11_band 40 = .ok (.getfield 19, 3) := by decide +kernel
theorem dX11_band_43 : decode cX11_band 43 = .ok (.aload_n 0, 1) := by decide +kernel
theorem dX11_band_44 : decode cX11_band 44 = .ok (.getfield 138, 3) := by decide +kernel
theorem dX11_band_47 : decode cX11_band 47 = .ok (.iload_n 1, 1) := by decide +kernel
theorem dX11_band_48 : decode cX11_band 48 = .ok (.iastore, 1) := by decide +kernel
theorem dX11_band_49 : decode cX11_band 49 = .ok (.aload_n 0, 1) := by decide +kernel
theorem dX11_band_50 : decode cX11_band 50 = .ok (.getfield 22, 3) := by decide +kernel
theorem dX11_band_53 : decode cX11_band 53 = .ok (.aload_n 0, 1) := by decide +kernel
theorem dX11_band_54 : decode cX11_band 54 = .ok (.getfield 138, 3) := by decide +kernel
theorem dX11_band_57 : decode cX11_band 57 = .ok (.iload_n 2, 1) := by decide +kernel
theorem dX11_band_58 : decode cX11_band 58 = .ok (.iastore, 1) := by decide +kernel
theorem dX11_band_59 : decode cX11_band 59 = .ok (.aload_n 0, 1) := by decide +kernel
theorem dX11_band_60 : decode cX11_band 60 = .ok (.getfield 25, 3) := by decide +kernel
theorem dX11_band_63 : decode cX11_band 63 = .ok (.aload_n 0, 1) := by decide +kernel
theorem dX11_band_64 : decode cX11_band 64 = .ok (.getfield 138, 3) := by decide +kernel
theorem dX11_band_67 : decode cX11_band 67 = .ok (.iload_n 3, 1) := by decide +kernel
theorem dX11_band_68 : decode cX11_band 68 = .ok (.iastore, 1) := by decide +kernel
theorem dX11_band_69 : decode cX11_band 69 = .ok (.aload_n 0, 1) := by decide +kernel
theorem dX11_band_70 : decode cX11_band 70 = .ok (.aload_n 0, 1) := by decide +kernel
theorem dX11_band_71 : decode cX11_band 71 = .ok (.getfield 138, 3) := by decide +kernel
theorem dX11_band_74 : decode cX11_band 74 = .ok (.iconst 1, 1) := by decide +kernel
theorem dX11_band_75 : decode cX11_band 75 = .ok (.iadd, 1) := by decide +kernel
theorem dX11_band_76 : decode cX11_band 76 = .ok (.putfield 138, 3) := by decide +kernel
theorem dX11_band_79 : decode cX11_band 79 = .ok (.aload_n 0, 1) := by decide +kernel
theorem dX11_band_80 : decode cX11_band 80 = .ok (.invokevirtual 155, 3) := by decide +kernel
theorem dX11_band_83 : decode cX11_band 83 = .ok (.pop, 1) := by decide +kernel
theorem dX11_band_84 : decode cX11_band 84 = .ok (.aload_n 0, 1) := by decide +kernel
theorem dX11_band_85 : decode cX11_band 85 = .ok (.getfield 138, 3) := by decide +kernel
theorem dX11_band_88 : decode cX11_band 88 = .ok (.iconst 1, 1) := by decide +kernel
theorem dX11_band_89 : decode cX11_band 89 = .ok (.isub, 1) := by decide +kernel
theorem dX11_band_90 : decode cX11_band 90 = .ok (.ireturn, 1) := by decide +kernel
theorem dX11_weather_0 : decode cX11_weather 0 = .ok (.iload_n 1, 1) := by decide +kernel
theorem dX11_weather_1 : decode cX11_weather 1 = .ok (.iconst 1, 1) := by decide +kernel
theorem dX11_weather_2 : decode cX11_weather 2 = .ok (.iconst 4, 1) := by decide +kernel
theorem dX11_weather_3 : decode cX11_weather 3 = .ok (.invokestatic 148, 3) := by decide +kernel
theorem dX11_weather_6 : decode cX11_weather 6 = .ok (.ifCond .eq 12, 3) := by decide +kernel
theorem dX11_weather_9 : decode cX11_weather 9 = .ok (.iload_n 2, 1) := by decide +kernel
theorem dX11_weather_10 : decode cX11_weather 10 = .ok (.iconst 0, 1) := by decide +kernel
theorem dX11_weather_11 : decode cX11_weather 11 = .ok (.iconst 1, 1) := by decide +kernel
theorem dX11_weather_12 : decode cX11_weather 12 = .ok (.invokestatic 148, 3) := by decide +kernel
theorem dX11_weather_15 : decode cX11_weather 15 = .ok (.ifCond .ne 5, 3) := by decide +kernel
theorem dX11_weather_18 : decode cX11_weather 18 = .ok (.iconst 0, 1) := by decide +kernel
theorem dX11_weather_19 : decode cX11_weather 19 = .ok (.ireturn, 1) := by decide +kernel
theorem dX11_weather_20 : decode cX11_weather 20 = .ok (.aload_n 0, 1) := by decide +kernel
theorem dX11_weather_21 : decode cX11_weather 21 = .ok (.iload_n 1, 1) := by decide +kernel
theorem dX11_weather_22 : decode cX11_weather 22 = .ok (.putfield 131, 3) := by decide +kernel
theorem dX11_weather_25 : decode cX11_weather 25 = .ok (.aload_n 0, 1) := by decide +kernel
theorem dX11_weather_26 : decode cX11_weather 26 = .ok (.iload_n 2, 1) := by decide +kernel
theorem dX11_weather_27 : decode cX11_weather 27 = .ok (.putfield 159, 3) := by decide +kernel
theorem dX11_weather_30 : decode cX11_weather 30 = .ok (.iconst 1, 1) := by decide +kernel
theorem dX11_weather_31 : decode cX11_weather 31 = .ok (.ireturn, 1) := by decide +kernel
theorem dX11_apart_0 : decode cX11_apart 0 = .ok (.iload_n 0, 1) := by decide +kernel
theorem dX11_apart_1 : decode cX11_apart 1 = .ok (.iload_n 1, 1) := by decide +kernel
theorem dX11_apart_2 : decode cX11_apart 2 = .ok (.if_icmp .ge 9, 3) := by decide +kernel
theorem dX11_apart_5 : decode cX11_apart 5 = .ok (.iload_n 1, 1) := by decide +kernel
theorem dX11_apart_6 : decode cX11_apart 6 = .ok (.iload_n 0, 1) := by decide +kernel
theorem dX11_apart_7 : decode cX11_apart 7 = .ok (.isub, 1) := by decide +kernel
theorem dX11_apart_8 : decode cX11_apart 8 = .ok (.goto 6, 3) := by decide +kernel
theorem dX11_apart_11 : decode cX11_apart 11 = .ok (.iload_n 0, 1) := by decide +kernel
theorem dX11_apart_12 : decode cX11_apart 12 = .ok (.iload_n 1, 1) := by decide +kernel
theorem dX11_apart_13 : decode cX11_apart 13 = .ok (.isub, 1) := by decide +kernel
theorem dX11_apart_14 : decode cX11_apart 14 = .ok (.ireturn, 1) := by decide +kernel
theorem dX11_walkOf_0 : decode cX11_walkOf 0 = .ok (.aload_n 0, 1) := by decide +kernel
theorem dX11_walkOf_1 : decode cX11_walkOf 1 = .ok (.getfield 13, 3) := by decide +kernel
theorem dX11_walkOf_4 : decode cX11_walkOf 4 = .ok (.iload_n 2, 1) := by decide +kernel
theorem dX11_walkOf_5 : decode cX11_walkOf 5 = .ok (.iaload, 1) := by decide +kernel
theorem dX11_walkOf_6 : decode cX11_walkOf 6 = .ok (.aload_n 0, 1) := by decide +kernel
theorem dX11_walkOf_7 : decode cX11_walkOf 7 = .ok (.getfield 13, 3) := by decide +kernel
theorem dX11_walkOf_10 : decode cX11_walkOf 10 = .ok (.iload_n 2, 1) := by decide +kernel
theorem dX11_walkOf_11 : decode cX11_walkOf 11 = .ok (.iconst 1, 1) := by decide +kernel
theorem dX11_walkOf_12 : decode cX11_walkOf 12 = .ok (.iadd, 1) := by decide +kernel
theorem dX11_walkOf_13 : decode cX11_walkOf 13 = .ok (.iaload, 1) := by decide +kernel
theorem dX11_walkOf_14 : decode cX11_walkOf 14 = .ok (.invokestatic 162, 3) := by decide +kernel
theorem dX11_walkOf_17 : decode cX11_walkOf 17 = .ok (.aload_n 0, 1) := by decide +kernel
theorem dX11_walkOf_18 : decode cX11_walkOf 18 = .ok (.getfield 16, 3) := by decide +kernel
theorem dX11_walkOf_21 : decode cX11_walkOf 21 = .ok (.iload_n 2, 1) := by decide +kernel
theorem dX11_walkOf_22 : decode cX11_walkOf 22 = .ok (.iaload, 1) := by decide +kernel
theorem dX11_walkOf_23 : decode cX11_walkOf 23 = .ok (.aload_n 0, 1) := by decide +kernel
theorem dX11_walkOf_24 : decode cX11_walkOf 24 = .ok (.getfield 16, 3) := by decide +kernel
theorem dX11_walkOf_27 : decode cX11_walkOf 27 = .ok (.iload_n 2, 1) := by decide +kernel
theorem dX11_walkOf_28 : decode cX11_walkOf 28 = .ok (.iconst 1, 1) := by decide +kernel
theorem dX11_walkOf_29 : decode cX11_walkOf 29 = .ok (.iadd, 1) := by decide +kernel
theorem dX11_walkOf_30 : decode cX11_walkOf 30 = .ok (.iaload, 1) := by decide +kernel
theorem dX11_walkOf_31 : decode cX11_walkOf 31 = .ok (.invokestatic 162, 3) := by decide +kernel
theorem dX11_walkOf_34 : decode cX11_walkOf 34 = .ok (.iadd, 1) := by decide +kernel
theorem dX11_walkOf_35 : decode cX11_walkOf 35 = .ok (.istore_n 3, 1) := by decide +kernel
theorem dX11_walkOf_36 : decode cX11_walkOf 36 = .ok (.iload_n 3, 1) := by decide +kernel
theorem dX11_walkOf_37 : decode cX11_walkOf 37 = .ok (.aload_n 0, 1) := by decide +kernel
theorem dX11_walkOf_38 : decode cX11_walkOf 38 = .ok (.getfield 22, 3) := by decide +kernel
theorem dX11_walkOf_41 : decode cX11_walkOf 41 = .ok (.iload_n 1, 1) := by decide +kernel
theorem dX11_walkOf_42 : decode cX11_walkOf 42 = .ok (.iaload, 1) := by decide +kernel
theorem dX11_walkOf_43 : decode cX11_walkOf 43 = .ok (.iadd, 1) := by decide +kernel
theorem dX11_walkOf_44 : decode cX11_walkOf 44 = .ok (.iconst 1, 1) := by decide +kernel
theorem dX11_walkOf_45 : decode cX11_walkOf 45 = .ok (.isub, 1) := by decide +kernel
theorem dX11_walkOf_46 : decode cX11_walkOf 46 = .ok (.aload_n 0, 1) := by decide +kernel
theorem dX11_walkOf_47 : decode cX11_walkOf 47 = .ok (.getfield 22, 3) := by decide +kernel
theorem dX11_walkOf_50 : decode cX11_walkOf 50 = .ok (.iload_n 1, 1) := by decide +kernel
theorem dX11_walkOf_51 : decode cX11_walkOf 51 = .ok (.iaload, 1) := by decide +kernel
theorem dX11_walkOf_52 : decode cX11_walkOf 52 = .ok (.idiv, 1) := by decide +kernel
theorem dX11_walkOf_53 : decode cX11_walkOf 53 = .ok (.istore 4, 2) := by decide +kernel
theorem dX11_walkOf_55 : decode cX11_walkOf 55 = .ok (.iload 4, 2) := by decide +kernel
theorem dX11_walkOf_57 : decode cX11_walkOf 57 = .ok (.iconst 1, 1) := by decide +kernel
theorem dX11_walkOf_58 : decode cX11_walkOf 58 = .ok (.if_icmp .ge 7, 3) := by decide +kernel
theorem dX11_walkOf_61 : decode cX11_walkOf 61 = .ok (.iconst 1, 1) := by decide +kernel
theorem dX11_walkOf_62 : decode cX11_walkOf 62 = .ok (.goto 17, 3) := by decide +kernel
theorem dX11_walkOf_65 : decode cX11_walkOf 65 = .ok (.iload 4, 2) := by decide +kernel
theorem dX11_walkOf_67 : decode cX11_walkOf 67 = .ok (.bipush 6, 2) := by decide +kernel
theorem dX11_walkOf_69 : decode cX11_walkOf 69 = .ok (.if_icmp .le 8, 3) := by decide +kernel
theorem dX11_walkOf_72 : decode cX11_walkOf 72 = .ok (.bipush 6, 2) := by decide +kernel
theorem dX11_walkOf_74 : decode cX11_walkOf 74 = .ok (.goto 5, 3) := by decide +kernel
theorem dX11_walkOf_77 : decode cX11_walkOf 77 = .ok (.iload 4, 2) := by decide +kernel
theorem dX11_walkOf_79 : decode cX11_walkOf 79 = .ok (.ireturn, 1) := by decide +kernel
theorem dX11_walk_0 : decode cX11_walk 0 = .ok (.aload_n 0, 1) := by decide +kernel
theorem dX11_walk_1 : decode cX11_walk 1 = .ok (.iload_n 1, 1) := by decide +kernel
theorem dX11_walk_2 : decode cX11_walk 2 = .ok (.invokevirtual 144, 3) := by decide +kernel
theorem dX11_walk_5 : decode cX11_walk 5 = .ok (.ifCond .eq 20, 3) := by decide +kernel
theorem dX11_walk_8 : decode cX11_walk 8 = .ok (.aload_n 0, 1) := by decide +kernel
theorem dX11_walk_9 : decode cX11_walk 9 = .ok (.iload_n 2, 1) := by decide +kernel
theorem dX11_walk_10 : decode cX11_walk 10 = .ok (.invokevirtual 166, 3) := by decide +kernel
theorem dX11_walk_13 : decode cX11_walk 13 = .ok (.ifCond .eq 12, 3) := by decide +kernel
theorem dX11_walk_16 : decode cX11_walk 16 = .ok (.aload_n 0, 1) := by decide +kernel
theorem dX11_walk_17 : decode cX11_walk 17 = .ok (.iload_n 1, 1) := by decide +kernel
theorem dX11_walk_18 : decode cX11_walk 18 = .ok (.iload_n 2, 1) := by decide +kernel
theorem dX11_walk_19 : decode cX11_walk 19 = .ok (.invokevirtual 169, 3) := by decide +kernel
theorem dX11_walk_22 : decode cX11_walk 22 = .ok (.goto 4, 3) := by decide +kernel
theorem dX11_walk_25 : decode cX11_walk 25 = .ok (.iconst (-1), 1) := by decide +kernel
theorem dX11_walk_26 : decode cX11_walk 26 = .ok (.ireturn, 1) := by decide +kernel
theorem dX11_types_0 : decode cX11_types 0 = .ok (.iconst 3, 1) := by decide +kernel
theorem dX11_types_1 : decode cX11_types 1 = .ok (.istore_n 2, 1) := by decide +kernel
theorem dX11_types_2 : decode cX11_types 2 = .ok (.iload_n 2, 1) := by decide +kernel
theorem dX11_types_3 : decode cX11_types 3 = .ok (.ifCond .lt 35, 3) := by decide +kernel
theorem dX11_types_6 : decode cX11_types 6 = .ok (.aload_n 0, 1) := by decide +kernel
theorem dX11_types_7 : decode cX11_types 7 = .ok (.getfield 28, 3) := by decide +kernel
theorem dX11_types_10 : decode cX11_types 10 = .ok (.aload_n 0, 1) := by decide +kernel
theorem dX11_types_11 : decode cX11_types 11 = .ok (.getfield 172, 3) := by decide +kernel
theorem dX11_types_14 : decode cX11_types 14 = .ok (.iload_n 1, 1) := by decide +kernel
theorem dX11_types_15 : decode cX11_types 15 = .ok (.bipush 8, 2) := by decide +kernel
theorem dX11_types_17 : decode cX11_types 17 = .ok (.iload_n 2, 1) := by decide +kernel
theorem dX11_types_18 : decode cX11_types 18 = .ok (.imul, 1) := by decide +kernel
theorem dX11_types_19 : decode cX11_types 19 = .ok (.ishr, 1) := by decide +kernel
theorem dX11_types_20 : decode cX11_types 20 = .ok (.i2b, 1) := by decide +kernel
theorem dX11_types_21 : decode cX11_types 21 = .ok (.bastore, 1) := by decide +kernel
theorem dX11_types_22 : decode cX11_types 22 = .ok (.aload_n 0, 1) := by decide +kernel
theorem dX11_types_23 : decode cX11_types 23 = .ok (.aload_n 0, 1) := by decide +kernel
theorem dX11_types_24 : decode cX11_types 24 = .ok (.getfield 172, 3) := by decide +kernel
theorem dX11_types_27 : decode cX11_types 27 = .ok (.iconst 1, 1) := by decide +kernel
theorem dX11_types_28 : decode cX11_types 28 = .ok (.iadd, 1) := by decide +kernel
theorem dX11_types_29 : decode cX11_types 29 = .ok (.putfield 172, 3) := by decide +kernel
theorem dX11_types_32 : decode cX11_types 32 = .ok (.iinc 2 (-1), 3) := by decide +kernel
theorem dX11_types_35 : decode cX11_types 35 = .ok (.goto (-33), 3) := by decide +kernel
theorem dX11_types_38 : decode cX11_types 38 = .ok (.return_, 1) := by decide +kernel
theorem dX11_feed_0 : decode cX11_feed 0 = .ok (.aload_n 0, 1) := by decide +kernel
theorem dX11_feed_1 : decode cX11_feed 1 = .ok (.getfield 172, 3) := by decide +kernel
theorem dX11_feed_4 : decode cX11_feed 4 = .ok (.bipush 20, 2) := by decide +kernel
theorem dX11_feed_6 : decode cX11_feed 6 = .ok (.iadd, 1) := by decide +kernel
theorem dX11_feed_7 : decode cX11_feed 7 = .ok (.sipush 220, 3) := by decide +kernel
theorem dX11_feed_10 : decode cX11_feed 10 = .ok (.if_icmp .le 5, 3) := by decide +kernel
theorem dX11_feed_13 : decode cX11_feed 13 = .ok (.iconst (-1), 1) := by decide +kernel
theorem dX11_feed_14 : decode cX11_feed 14 = .ok (.ireturn, 1) := by decide +kernel
theorem dX11_feed_15 : decode cX11_feed 15 = .ok (.aload_n 0, 1) := by decide +kernel
theorem dX11_feed_16 : decode cX11_feed 16 = .ok (.iload_n 1, 1) := by decide +kernel
theorem dX11_feed_17 : decode cX11_feed 17 = .ok (.invokevirtual 175, 3) := by decide +kernel
theorem dX11_feed_20 : decode cX11_feed 20 = .ok (.aload_n 0, 1) := by decide +kernel
theorem dX11_feed_21 : decode cX11_feed 21 = .ok (.iload_n 2, 1) := by decide +kernel
theorem dX11_feed_22 : decode cX11_feed 22 = .ok (.invokevirtual 175, 3) := by decide +kernel
theorem dX11_feed_25 : decode cX11_feed 25 = .ok (.aload_n 0, 1) := by decide +kernel
theorem dX11_feed_26 : decode cX11_feed 26 = .ok (.iload_n 3, 1) := by decide +kernel
theorem dX11_feed_27 : decode cX11_feed 27 = .ok (.invokevirtual 175, 3) := by decide +kernel
theorem dX11_feed_30 : decode cX11_feed 30 = .ok (.aload_n 0, 1) := by decide +kernel
theorem dX11_feed_31 : decode cX11_feed 31 = .ok (.iload 4, 2) := by decide +kernel
theorem dX11_feed_33 : decode cX11_feed 33 = .ok (.invokevirtual 175, 3) := by decide +kernel
theorem dX11_feed_36 : decode cX11_feed 36 = .ok (.aload_n 0, 1) := by decide +kernel
theorem dX11_feed_37 : decode cX11_feed 37 = .ok (.iload 5, 2) := by decide +kernel
theorem dX11_feed_39 : decode cX11_feed 39 = .ok (.invokevirtual 175, 3) := by decide +kernel
theorem dX11_feed_42 : decode cX11_feed 42 = .ok (.aload_n 0, 1) := by decide +kernel
theorem dX11_feed_43 : decode cX11_feed 43 = .ok (.getfield 172, 3) := by decide +kernel
theorem dX11_feed_46 : decode cX11_feed 46 = .ok (.ireturn, 1) := by decide +kernel
theorem dX11_here_0 : decode cX11_here 0 = .ok (.aload_n 0, 1) := by decide +kernel
theorem dX11_here_1 : decode cX11_here 1 = .ok (.getfield 179, 3) := by decide +kernel
theorem dX11_here_4 : decode cX11_here 4 = .ok (.aload_n 0, 1) := by decide +kernel
theorem dX11_here_5 : decode cX11_here 5 = .ok (.getfield 182, 3) := by decide +kernel
theorem dX11_here_8 : decode cX11_here 8 = .ok (.if_icmp .ge 19, 3) := by decide +kernel
theorem dX11_here_11 : decode cX11_here 11 = .ok (.aload_n 0, 1) := by decide +kernel
theorem dX11_here_12 : decode cX11_here 12 = .ok (.getfield 28, 3) := by decide +kernel
theorem dX11_here_15 : decode cX11_here 15 = .ok (.aload_n 0, 1) := by decide +kernel
theorem dX11_here_16 : decode cX11_here 16 = .ok (.getfield 179, 3) := by decide +kernel
theorem dX11_here_19 : decode cX11_here 19 = .ok (.baload, 1) := by decide +kernel
theorem dX11_here_20 : decode cX11_here 20 = .ok (.sipush 255, 3) := by decide +kernel
theorem dX11_here_23 : decode cX11_here 23 = .ok (.iand, 1) := by decide +kernel
theorem dX11_here_24 : decode cX11_here 24 = .ok (.goto 4, 3) := by decide +kernel
theorem dX11_here_27 : decode cX11_here 27 = .ok (.iconst (-1), 1) := by decide +kernel
theorem dX11_here_28 : decode cX11_here 28 = .ok (.ireturn, 1) := by decide +kernel
theorem dX11_isDigit_0 : decode cX11_isDigit 0 = .ok (.aload_n 0, 1) := by decide +kernel
theorem dX11_isDigit_1 : decode cX11_isDigit 1 = .ok (.invokevirtual 185, 3) := by decide +kernel
theorem dX11_isDigit_4 : decode cX11_isDigit 4 = .ok (.bipush 48, 2) := by decide +kernel
theorem dX11_isDigit_6 : decode cX11_isDigit 6 = .ok (.if_icmp .lt 16, 3) := by decide +kernel
theorem dX11_isDigit_9 : decode cX11_isDigit 9 = .ok (.aload_n 0, 1) := by decide +kernel
theorem dX11_isDigit_10 : decode cX11_isDigit 10 = .ok (.invokevirtual 185, 3) := by decide +kernel
theorem dX11_isDigit_13 : decode cX11_isDigit 13 = .ok (.bipush 57, 2) := by decide +kernel
theorem dX11_isDigit_15 : decode cX11_isDigit 15 = .ok (.if_icmp .gt 7, 3) := by decide +kernel
theorem dX11_isDigit_18 : decode cX11_isDigit 18 = .ok (.iconst 1, 1) := by decide +kernel
theorem dX11_isDigit_19 : decode cX11_isDigit 19 = .ok (.goto 4, 3) := by decide +kernel
theorem dX11_isDigit_22 : decode cX11_isDigit 22 = .ok (.iconst 0, 1) := by decide +kernel
theorem dX11_isDigit_23 : decode cX11_isDigit 23 = .ok (.ireturn, 1) := by decide +kernel
theorem dX11_wrong_0 : decode cX11_wrong 0 = .ok (.aload_n 0, 1) := by decide +kernel
theorem dX11_wrong_1 : decode cX11_wrong 1 = .ok (.sipush (-1000), 3) := by decide +kernel
theorem dX11_wrong_4 : decode cX11_wrong 4 = .ok (.iload_n 1, 1) := by decide +kernel
theorem dX11_wrong_5 : decode cX11_wrong 5 = .ok (.imul, 1) := by decide +kernel
theorem dX11_wrong_6 : decode cX11_wrong 6 = .ok (.iload_n 2, 1) := by decide +kernel
theorem dX11_wrong_7 : decode cX11_wrong 7 = .ok (.isub, 1) := by decide +kernel
theorem dX11_wrong_8 : decode cX11_wrong 8 = .ok (.putfield 188, 3) := by decide +kernel
theorem dX11_wrong_11 : decode cX11_wrong 11 = .ok (.iconst 0, 1) := by decide +kernel
theorem dX11_wrong_12 : decode cX11_wrong 12 = .ok (.ireturn, 1) := by decide +kernel
theorem dX11_takes_0 : decode cX11_takes 0 = .ok (.aload_n 0, 1) := by decide +kernel
theorem dX11_takes_1 : decode cX11_takes 1 = .ok (.invokevirtual 185, 3) := by decide +kernel
theorem dX11_takes_4 : decode cX11_takes 4 = .ok (.iload_n 1, 1) := by decide +kernel
theorem dX11_takes_5 : decode cX11_takes 5 = .ok (.if_icmp .eq 13, 3) := by decide +kernel
theorem dX11_takes_8 : decode cX11_takes 8 = .ok (.aload_n 0, 1) := by decide +kernel
theorem dX11_takes_9 : decode cX11_takes 9 = .ok (.iconst 1, 1) := by decide +kernel
theorem dX11_takes_10 : decode cX11_takes 10 = .ok (.aload_n 0, 1) := by decide +kernel
theorem dX11_takes_11 : decode cX11_takes 11 = .ok (.getfield 179, 3) := by decide +kernel
theorem dX11_takes_14 : decode cX11_takes 14 = .ok (.invokevirtual 191, 3) := by decide +kernel
theorem dX11_takes_17 : decode cX11_takes 17 = .ok (.ireturn, 1) := by decide +kernel
theorem dX11_takes_18 : decode cX11_takes 18 = .ok (.aload_n 0, 1) := by decide +kernel
theorem dX11_takes_19 : decode cX11_takes 19 = .ok (.aload_n 0, 1) := by decide +kernel
theorem dX11_takes_20 : decode cX11_takes 20 = .ok (.getfield 179, 3) := by decide +kernel
theorem dX11_takes_23 : decode cX11_takes 23 = .ok (.iconst 1, 1) := by decide +kernel
theorem dX11_takes_24 : decode cX11_takes 24 = .ok (.iadd, 1) := by decide +kernel
theorem dX11_takes_25 : decode cX11_takes 25 = .ok (.putfield 179, 3) := by decide +kernel
theorem dX11_takes_28 : decode cX11_takes 28 = .ok (.iconst 1, 1) := by decide +kernel
theorem dX11_takes_29 : decode cX11_takes 29 = .ok (.ireturn, 1) := by decide +kernel
theorem dX11_readsNumber_0 : decode cX11_readsNumber 0 = .ok (.aload_n 0, 1) := by decide +kernel
theorem dX11_readsNumber_1 : decode cX11_readsNumber 1 = .ok (.getfield 179, 3) := by decide +kernel
theorem dX11_readsNumber_4 : decode cX11_readsNumber 4 = .ok (.istore_n 1, 1) := by decide +kernel
theorem dX11_readsNumber_5 : decode cX11_readsNumber 5 = .ok (.aload_n 0, 1) := by decide +kernel
theorem dX11_readsNumber_6 : decode cX11_readsNumber 6 = .ok (.iconst 0, 1) := by decide +kernel
theorem dX11_readsNumber_7 : decode cX11_readsNumber 7 = .ok (.putfield 195, 3) := by decide +kernel
theorem dX11_readsNumber_10 : decode cX11_readsNumber 10 = .ok (.aload_n 0, 1) := by decide +kernel
theorem dX11_readsNumber_11 : decode cX11_readsNumber 11 = .ok (.invokevirtual 198, 3) := by decide +kernel
theorem dX11_readsNumber_14 : decode cX11_readsNumber 14 = .ok (.ifCond .eq 55, 3) := by decide +kernel
theorem dX11_readsNumber_17 : decode cX11_readsNumber 17 = .ok (.aload_n 0, 1) := by decide +kernel
theorem dX11_readsNumber_18 : decode cX11_readsNumber 18 = .ok (.getfield 179, 3) := by decide +kernel
theorem dX11_readsNumber_21 : decode cX11_readsNumber 21 = .ok (.iload_n 1, 1) := by decide +kernel
theorem dX11_readsNumber_22 : decode cX11_readsNumber 22 = .ok (.iconst 5, 1) := by decide +kernel
theorem dX11_readsNumber_23 : decode cX11_readsNumber 23 = .ok (.iadd, 1) := by decide +kernel
theorem dX11_readsNumber_24 : decode cX11_readsNumber 24 = .ok (.if_icmp .ne 13, 3) := by decide +kernel
theorem dX11_readsNumber_27 : decode cX11_readsNumber 27 = .ok (.aload_n 0, 1) := by decide +kernel
theorem dX11_readsNumber_28 : decode cX11_readsNumber 28 = .ok (.iconst 2, 1) := by decide +kernel
theorem dX11_readsNumber_29 : decode cX11_readsNumber 29 = .ok (.aload_n 0, 1) := by decide +kernel
theorem dX11_readsNumber_30 : decode cX11_readsNumber 30 = .ok (.getfield 179, 3) := by decide +kernel
theorem dX11_readsNumber_33 : decode cX11_readsNumber 33 = .ok (.invokevirtual 191, 3) := by decide +kernel
theorem dX11_readsNumber_36 : decode cX11_readsNumber 36 = .ok (.ireturn, 1) := by decide +kernel
theorem dX11_readsNumber_37 : decode cX11_readsNumber 37 = .ok (.aload_n 0, 1) := by decide +kernel
theorem dX11_readsNumber_38 : decode cX11_readsNumber 38 = .ok (.bipush 10, 2) := by decide +kernel
theorem dX11_readsNumber_40 : decode cX11_readsNumber 40 = .ok (.aload_n 0, 1) := by decide +kernel
theorem dX11_readsNumber_41 : decode cX11_readsNumber 41 = .ok (.getfield 195, 3) := by decide +kernel
theorem dX11_readsNumber_44 : decode cX11_readsNumber 44 = .ok (.imul, 1) := by decide +kernel
theorem dX11_readsNumber_45 : decode cX11_readsNumber 45 = .ok (.aload_n 0, 1) := by decide +kernel
theorem dX11_readsNumber_46 : decode cX11_readsNumber 46 = .ok (.invokevirtual 185, 3) := by decide +kernel
theorem dX11_readsNumber_49 : decode cX11_readsNumber 49 = .ok (.iadd, 1) := by decide +kernel
theorem dX11_readsNumber_50 : decode cX11_readsNumber 50 = .ok (.bipush 48, 2) := by decide +kernel
theorem dX11_readsNumber_52 : decode cX11_readsNumber 52 = .ok (.isub, 1) := by decide +kernel
theorem dX11_readsNumber_53 : decode cX11_readsNumber 53 = .ok (.putfield 195, 3) := by decide +kernel
theorem dX11_readsNumber_56 : decode cX11_readsNumber 56 = .ok (.aload_n 0, 1) := by decide +kernel
theorem dX11_readsNumber_57 : decode cX11_readsNumber 57 = .ok (.aload_n 0, 1) := by decide +kernel
theorem dX11_readsNumber_58 : decode cX11_readsNumber 58 = .ok (.getfield 179, 3) := by decide +kernel
theorem dX11_readsNumber_61 : decode cX11_readsNumber 61 = .ok (.iconst 1, 1) := by decide +kernel
theorem dX11_readsNumber_62 : decode cX11_readsNumber 62 = .ok (.iadd, 1) := by decide +kernel
theorem dX11_readsNumber_63 : decode cX11_readsNumber 63 = .ok (.putfield 179, 3) := by decide +kernel
theorem dX11_readsNumber_66 : decode cX11_readsNumber 66 = .ok (.goto (-56), 3) := by decide +kernel
theorem dX11_readsNumber_69 : decode cX11_readsNumber 69 = .ok (.iconst 1, 1) := by decide +kernel
theorem dX11_readsNumber_70 : decode cX11_readsNumber 70 = .ok (.ireturn, 1) := by decide +kernel
theorem dX11_notes_0 : decode cX11_notes 0 = .ok (.aload_n 0, 1) := by decide +kernel
theorem dX11_notes_1 : decode cX11_notes 1 = .ok (.getfield 32, 3) := by decide +kernel
theorem dX11_notes_4 : decode cX11_notes 4 = .ok (.aload_n 0, 1) := by decide +kernel
theorem dX11_notes_5 : decode cX11_notes 5 = .ok (.getfield 202, 3) := by decide +kernel
theorem dX11_notes_8 : decode cX11_notes 8 = .ok (.ldc 205, 2) := by decide +kernel
theorem dX11_notes_10 : decode cX11_notes 10 = .ok (.iload_n 1, 1) := by decide +kernel
theorem dX11_notes_11 : decode cX11_notes 11 = .ok (.imul, 1) := by decide +kernel
theorem dX11_notes_12 : decode cX11_notes 12 = .ok (.iload_n 2, 1) := by decide +kernel
theorem dX11_notes_13 : decode cX11_notes 13 = .ok (.iadd, 1) := by decide +kernel
theorem dX11_notes_14 : decode cX11_notes 14 = .ok (.iastore, 1) := by decide +kernel
theorem dX11_notes_15 : decode cX11_notes 15 = .ok (.aload_n 0, 1) := by decide +kernel
theorem dX11_notes_16 : decode cX11_notes 16 = .ok (.aload_n 0, 1) := by decide +kernel
theorem dX11_notes_17 : decode cX11_notes 17 = .ok (.getfield 202, 3) := by decide +kernel
theorem dX11_notes_20 : decode cX11_notes 20 = .ok (.iconst 1, 1) := by decide +kernel
theorem dX11_notes_21 : decode cX11_notes 21 = .ok (.iadd, 1) := by decide +kernel
theorem dX11_notes_22 : decode cX11_notes 22 = .ok (.putfield 202, 3) := by decide +kernel
theorem dX11_notes_25 : decode cX11_notes 25 = .ok (.return_, 1) := by decide +kernel
theorem dX11_opens_0 : decode cX11_opens 0 = .ok (.aload_n 0, 1) := by decide +kernel
theorem dX11_opens_1 : decode cX11_opens 1 = .ok (.getfield 206, 3) := by decide +kernel
theorem dX11_opens_4 : decode cX11_opens 4 = .ok (.bipush 6, 2) := by decide +kernel
theorem dX11_opens_6 : decode cX11_opens 6 = .ok (.if_icmp .ne 13, 3) := by decide +kernel
theorem dX11_opens_9 : decode cX11_opens 9 = .ok (.aload_n 0, 1) := by decide +kernel
theorem dX11_opens_10 : decode cX11_opens 10 = .ok (.iconst 5, 1) := by decide +kernel
theorem dX11_opens_11 : decode cX11_opens 11 = .ok (.aload_n 0, 1) := by decide +kernel
theorem dX11_opens_12 : decode cX11_opens 12 = .ok (.getfield 179, 3) := by decide +kernel
theorem dX11_opens_15 : decode cX11_opens 15 = .ok (.invokevirtual 191, 3) := by decide +kernel
theorem dX11_opens_18 : decode cX11_opens 18 = .ok (.ireturn, 1) := by decide +kernel
theorem dX11_opens_19 : decode cX11_opens 19 = .ok (.aload_n 0, 1) := by decide +kernel
theorem dX11_opens_20 : decode cX11_opens 20 = .ok (.aload_n 0, 1) := by decide +kernel
theorem dX11_opens_21 : decode cX11_opens 21 = .ok (.getfield 206, 3) := by decide +kernel
theorem dX11_opens_24 : decode cX11_opens 24 = .ok (.iconst 1, 1) := by decide +kernel
theorem dX11_opens_25 : decode cX11_opens 25 = .ok (.iadd, 1) := by decide +kernel
theorem dX11_opens_26 : decode cX11_opens 26 = .ok (.putfield 206, 3) := by decide +kernel
theorem dX11_opens_29 : decode cX11_opens 29 = .ok (.aload_n 0, 1) := by decide +kernel
theorem dX11_opens_30 : decode cX11_opens 30 = .ok (.getfield 35, 3) := by decide +kernel
theorem dX11_opens_33 : decode cX11_opens 33 = .ok (.aload_n 0, 1) := by decide +kernel
theorem dX11_opens_34 : decode cX11_opens 34 = .ok (.getfield 209, 3) := by decide +kernel
theorem dX11_opens_37 : decode cX11_opens 37 = .ok (.ldc 205, 2) := by decide +kernel
theorem dX11_opens_39 : decode cX11_opens 39 = .ok (.iload_n 1, 1) := by decide +kernel
theorem dX11_opens_40 : decode cX11_opens 40 = .ok (.imul, 1) := by decide +kernel
theorem dX11_opens_41 : decode cX11_opens 41 = .ok (.iastore, 1) := by decide +kernel
theorem dX11_opens_42 : decode cX11_opens 42 = .ok (.aload_n 0, 1) := by decide +kernel
theorem dX11_opens_43 : decode cX11_opens 43 = .ok (.aload_n 0, 1) := by decide +kernel
theorem dX11_opens_44 : decode cX11_opens 44 = .ok (.getfield 209, 3) := by decide +kernel
theorem dX11_opens_47 : decode cX11_opens 47 = .ok (.iconst 1, 1) := by decide +kernel
theorem dX11_opens_48 : decode cX11_opens 48 = .ok (.iadd, 1) := by decide +kernel
theorem dX11_opens_49 : decode cX11_opens 49 = .ok (.putfield 209, 3) := by decide +kernel
theorem dX11_opens_52 : decode cX11_opens 52 = .ok (.aload_n 0, 1) := by decide +kernel
theorem dX11_opens_53 : decode cX11_opens 53 = .ok (.aload_n 0, 1) := by decide +kernel
theorem dX11_opens_54 : decode cX11_opens 54 = .ok (.getfield 179, 3) := by decide +kernel
theorem dX11_opens_57 : decode cX11_opens 57 = .ok (.iconst 1, 1) := by decide +kernel
theorem dX11_opens_58 : decode cX11_opens 58 = .ok (.iadd, 1) := by decide +kernel
theorem dX11_opens_59 : decode cX11_opens 59 = .ok (.putfield 179, 3) := by decide +kernel
theorem dX11_opens_62 : decode cX11_opens 62 = .ok (.iconst 1, 1) := by decide +kernel
theorem dX11_opens_63 : decode cX11_opens 63 = .ok (.ireturn, 1) := by decide +kernel
theorem dX11_top_0 : decode cX11_top 0 = .ok (.aload_n 0, 1) := by decide +kernel
theorem dX11_top_1 : decode cX11_top 1 = .ok (.getfield 209, 3) := by decide +kernel
theorem dX11_top_4 : decode cX11_top 4 = .ok (.ifCond .ne 7, 3) := by decide +kernel
theorem dX11_top_7 : decode cX11_top 7 = .ok (.iconst (-1), 1) := by decide +kernel
theorem dX11_top_8 : decode cX11_top 8 = .ok (.goto 17, 3) := by decide +kernel
theorem dX11_top_11 : decode cX11_top 11 = .ok (.aload_n 0, 1) := by decide +kernel
theorem dX11_top_12 : decode cX11_top 12 = .ok (.getfield 35, 3) := by decide +kernel
theorem dX11_top_15 : decode cX11_top 15 = .ok (.aload_n 0, 1) := by decide +kernel
theorem dX11_top_16 : decode cX11_top 16 = .ok (.getfield 209, 3) := by decide +kernel
theorem dX11_top_19 : decode cX11_top 19 = .ok (.iconst 1, 1) := by decide +kernel
theorem dX11_top_20 : decode cX11_top 20 = .ok (.isub, 1) := by decide +kernel
theorem dX11_top_21 : decode cX11_top 21 = .ok (.iaload, 1) := by decide +kernel
theorem dX11_top_22 : decode cX11_top 22 = .ok (.ldc 205, 2) := by decide +kernel
theorem dX11_top_24 : decode cX11_top 24 = .ok (.idiv, 1) := by decide +kernel
theorem dX11_top_25 : decode cX11_top 25 = .ok (.ireturn, 1) := by decide +kernel
theorem dX11_factOf_0 : decode cX11_factOf 0 = .ok (.iload_n 0, 1) := by decide +kernel
theorem dX11_factOf_1 : decode cX11_factOf 1 = .ok (.tableswitch 109 98 116 #[99, 91, 109, 109, 103, 109, 93, 109, 109, 109, 109, 109, 101, 109, 109, 106, 97, 109, 95], 91) := by decide +kernel
theorem dX11_factOf_92 : decode cX11_factOf 92 = .ok (.iconst 0, 1) := by decide +kernel
theorem dX11_factOf_93 : decode cX11_factOf 93 = .ok (.ireturn, 1) := by decide +kernel
theorem dX11_factOf_94 : decode cX11_factOf 94 = .ok (.iconst 1, 1) := by decide +kernel
theorem dX11_factOf_95 : decode cX11_factOf 95 = .ok (.ireturn, 1) := by decide +kernel
theorem dX11_factOf_96 : decode cX11_factOf 96 = .ok (.iconst 2, 1) := by decide +kernel
theorem dX11_factOf_97 : decode cX11_factOf 97 = .ok (.ireturn, 1) := by decide +kernel
theorem dX11_factOf_98 : decode cX11_factOf 98 = .ok (.iconst 3, 1) := by decide +kernel
theorem dX11_factOf_99 : decode cX11_factOf 99 = .ok (.ireturn, 1) := by decide +kernel
theorem dX11_factOf_100 : decode cX11_factOf 100 = .ok (.iconst 4, 1) := by decide +kernel
theorem dX11_factOf_101 : decode cX11_factOf 101 = .ok (.ireturn, 1) := by decide +kernel
theorem dX11_factOf_102 : decode cX11_factOf 102 = .ok (.iconst 5, 1) := by decide +kernel
theorem dX11_factOf_103 : decode cX11_factOf 103 = .ok (.ireturn, 1) := by decide +kernel
theorem dX11_factOf_104 : decode cX11_factOf 104 = .ok (.bipush 6, 2) := by decide +kernel
theorem dX11_factOf_106 : decode cX11_factOf 106 = .ok (.ireturn, 1) := by decide +kernel
theorem dX11_factOf_107 : decode cX11_factOf 107 = .ok (.bipush 7, 2) := by decide +kernel
theorem dX11_factOf_109 : decode cX11_factOf 109 = .ok (.ireturn, 1) := by decide +kernel
theorem dX11_factOf_110 : decode cX11_factOf 110 = .ok (.iconst (-1), 1) := by decide +kernel
theorem dX11_factOf_111 : decode cX11_factOf 111 = .ok (.ireturn, 1) := by decide +kernel
theorem dX11_sumSign_0 : decode cX11_sumSign 0 = .ok (.iload_n 0, 1) := by decide +kernel
theorem dX11_sumSign_1 : decode cX11_sumSign 1 = .ok (.bipush 43, 2) := by decide +kernel
theorem dX11_sumSign_3 : decode cX11_sumSign 3 = .ok (.if_icmp .ne 7, 3) := by decide +kernel
theorem dX11_sumSign_6 : decode cX11_sumSign 6 = .ok (.iconst 2, 1) := by decide +kernel
theorem dX11_sumSign_7 : decode cX11_sumSign 7 = .ok (.goto 45, 3) := by decide +kernel
theorem dX11_sumSign_10 : decode cX11_sumSign 10 = .ok (.iload_n 0, 1) := by decide +kernel
theorem dX11_sumSign_11 : decode cX11_sumSign 11 = .ok (.bipush 45, 2) := by decide +kernel
theorem dX11_sumSign_13 : decode cX11_sumSign 13 = .ok (.if_icmp .ne 7, 3) := by decide +kernel
theorem dX11_sumSign_16 : decode cX11_sumSign 16 = .ok (.iconst 3, 1) := by decide +kernel
theorem dX11_sumSign_17 : decode cX11_sumSign 17 = .ok (.goto 35, 3) := by decide +kernel
theorem dX11_sumSign_20 : decode cX11_sumSign 20 = .ok (.iload_n 0, 1) := by decide +kernel
theorem dX11_sumSign_21 : decode cX11_sumSign 21 = .ok (.bipush 42, 2) := by decide +kernel
theorem dX11_sumSign_23 : decode cX11_sumSign 23 = .ok (.if_icmp .ne 7, 3) := by decide +kernel
theorem dX11_sumSign_26 : decode cX11_sumSign 26 = .ok (.iconst 4, 1) := by decide +kernel
theorem dX11_sumSign_27 : decode cX11_sumSign 27 = .ok (.goto 25, 3) := by decide +kernel
theorem dX11_sumSign_30 : decode cX11_sumSign 30 = .ok (.iload_n 0, 1) := by decide +kernel
theorem dX11_sumSign_31 : decode cX11_sumSign 31 = .ok (.bipush 47, 2) := by decide +kernel
theorem dX11_sumSign_33 : decode cX11_sumSign 33 = .ok (.if_icmp .ne 7, 3) := by decide +kernel
theorem dX11_sumSign_36 : decode cX11_sumSign 36 = .ok (.iconst 5, 1) := by decide +kernel
theorem dX11_sumSign_37 : decode cX11_sumSign 37 = .ok (.goto 15, 3) := by decide +kernel
theorem dX11_sumSign_40 : decode cX11_sumSign 40 = .ok (.iload_n 0, 1) := by decide +kernel
theorem dX11_sumSign_41 : decode cX11_sumSign 41 = .ok (.bipush 37, 2) := by decide +kernel
theorem dX11_sumSign_43 : decode cX11_sumSign 43 = .ok (.if_icmp .ne 8, 3) := by decide +kernel
theorem dX11_sumSign_46 : decode cX11_sumSign 46 = .ok (.bipush 6, 2) := by decide +kernel
theorem dX11_sumSign_48 : decode cX11_sumSign 48 = .ok (.goto 4, 3) := by decide +kernel
theorem dX11_sumSign_51 : decode cX11_sumSign 51 = .ok (.iconst (-1), 1) := by decide +kernel
theorem dX11_sumSign_52 : decode cX11_sumSign 52 = .ok (.ireturn, 1) := by decide +kernel
theorem dX11_closesSums_0 : decode cX11_closesSums 0 = .ok (.aload_n 0, 1) := by decide +kernel
theorem dX11_closesSums_1 : decode cX11_closesSums 1 = .ok (.invokevirtual 212, 3) := by decide +kernel
theorem dX11_closesSums_4 : decode cX11_closesSums 4 = .ok (.iconst 4, 1) := by decide +kernel
theorem dX11_closesSums_5 : decode cX11_closesSums 5 = .ok (.if_icmp .lt 12, 3) := by decide +kernel
theorem dX11_closesSums_8 : decode cX11_closesSums 8 = .ok (.aload_n 0, 1) := by decide +kernel
theorem dX11_closesSums_9 : decode cX11_closesSums 9 = .ok (.invokevirtual 212, 3) := by decide +kernel
theorem dX11_closesSums_12 : decode cX11_closesSums 12 = .ok (.bipush 6, 2) := by decide +kernel
theorem dX11_closesSums_14 : decode cX11_closesSums 14 = .ok (.if_icmp .le 23, 3) := by decide +kernel
theorem dX11_closesSums_17 : decode cX11_closesSums 17 = .ok (.iload_n 1, 1) := by decide +kernel
theorem dX11_closesSums_18 : decode cX11_closesSums 18 = .ok (.ifCond .eq 41, 3) := by decide +kernel
theorem dX11_closesSums_21 : decode cX11_closesSums 21 = .ok (.aload_n 0, 1) := by decide +kernel
theorem dX11_closesSums_22 : decode cX11_closesSums 22 = .ok (.invokevirtual 212, 3) := by decide +kernel
theorem dX11_closesSums_25 : decode cX11_closesSums 25 = .ok (.iconst 2, 1) := by decide +kernel
theorem dX11_closesSums_26 : decode cX11_closesSums 26 = .ok (.if_icmp .eq 11, 3) := by decide +kernel
theorem dX11_closesSums_29 : decode cX11_closesSums 29 = .ok (.aload_n 0, 1) := by decide +kernel
theorem dX11_closesSums_30 : decode cX11_closesSums 30 = .ok (.invokevirtual 212, 3) := by decide +kernel
theorem dX11_closesSums_33 : decode cX11_closesSums 33 = .ok (.iconst 3, 1) := by decide +kernel
theorem dX11_closesSums_34 : decode cX11_closesSums 34 = .ok (.if_icmp .ne 25, 3) := by decide +kernel
theorem dX11_closesSums_37 : decode cX11_closesSums 37 = .ok (.aload_n 0, 1) := by decide +kernel
theorem dX11_closesSums_38 : decode cX11_closesSums 38 = .ok (.aload_n 0, 1) := by decide +kernel
theorem dX11_closesSums_39 : decode cX11_closesSums 39 = .ok (.invokevirtual 212, 3) := by decide +kernel
theorem dX11_closesSums_42 : decode cX11_closesSums 42 = .ok (.iconst 0, 1) := by decide +kernel
theorem dX11_closesSums_43 : decode cX11_closesSums 43 = .ok (.invokevirtual 215, 3) := by decide +kernel
theorem dX11_closesSums_46 : decode cX11_closesSums 46 = .ok (.aload_n 0, 1) := by decide +kernel
theorem dX11_closesSums_47 : decode cX11_closesSums 47 = .ok (.aload_n 0, 1) := by decide +kernel
theorem dX11_closesSums_48 : decode cX11_closesSums 48 = .ok (.getfield 209, 3) := by decide +kernel
theorem dX11_closesSums_51 : decode cX11_closesSums 51 = .ok (.iconst 1, 1) := by decide +kernel
theorem dX11_closesSums_52 : decode cX11_closesSums 52 = .ok (.isub, 1) := by decide +kernel
theorem dX11_closesSums_53 : decode cX11_closesSums 53 = .ok (.putfield 209, 3) := by decide +kernel
theorem dX11_closesSums_56 : decode cX11_closesSums 56 = .ok (.goto (-56), 3) := by decide +kernel
theorem dX11_closesSums_59 : decode cX11_closesSums 59 = .ok (.return_, 1) := by decide +kernel
theorem dX11_readsFactor_0 : decode cX11_readsFactor 0 = .ok (.aload_n 0, 1) := by decide +kernel
theorem dX11_readsFactor_1 : decode cX11_readsFactor 1 = .ok (.invokevirtual 185, 3) := by decide +kernel
theorem dX11_readsFactor_4 : decode cX11_readsFactor 4 = .ok (.bipush 91, 2) := by decide +kernel
theorem dX11_readsFactor_6 : decode cX11_readsFactor 6 = .ok (.if_icmp .ne 14, 3) := by decide +kernel
theorem dX11_readsFactor_9 : decode cX11_readsFactor 9 = .ok (.aload_n 0, 1) := by decide +kernel
theorem dX11_readsFactor_10 : decode cX11_readsFactor 10 = .ok (.bipush 14, 2) := by decide +kernel
theorem dX11_readsFactor_12 : decode cX11_readsFactor 12 = .ok (.invokevirtual 219, 3) := by decide +kernel
theorem dX11_readsFactor_15 : decode cX11_readsFactor 15 = .ok (.ifCond .ne (-15), 3) := by decide +kernel
theorem dX11_readsFactor_18 : decode cX11_readsFactor 18 = .ok (.iconst 0, 1) := by decide +kernel
theorem dX11_readsFactor_19 : decode cX11_readsFactor 19 = .ok (.ireturn, 1) := by decide +kernel
theorem dX11_readsFactor_20 : decode cX11_readsFactor 20 = .ok (.aload_n 0, 1) := by decide +kernel
theorem dX11_readsFactor_21 : decode cX11_readsFactor 21 = .ok (.invokevirtual 198, 3) := by decide +kernel
theorem dX11_readsFactor_24 : decode cX11_readsFactor 24 = .ok (.ifCond .eq 23, 3) := by decide +kernel
theorem dX11_readsFactor_27 : decode cX11_readsFactor 27 = .ok (.aload_n 0, 1) := by decide +kernel
theorem dX11_readsFactor_28 : decode cX11_readsFactor 28 = .ok (.invokevirtual 222, 3) := by decide +kernel
theorem dX11_readsFactor_31 : decode cX11_readsFactor 31 = .ok (.ifCond .ne 5, 3) := by decide +kernel
theorem dX11_readsFactor_34 : decode cX11_readsFactor 34 = .ok (.iconst 0, 1) := by decide +kernel
theorem dX11_readsFactor_35 : decode cX11_readsFactor 35 = .ok (.ireturn, 1) := by decide +kernel
theorem dX11_readsFactor_36 : decode cX11_readsFactor 36 = .ok (.aload_n 0, 1) := by decide +kernel
theorem dX11_readsFactor_37 : decode cX11_readsFactor 37 = .ok (.iconst 0, 1) := by decide +kernel
theorem dX11_readsFactor_38 : decode cX11_readsFactor 38 = .ok (.aload_n 0, 1) := by decide +kernel
theorem dX11_readsFactor_39 : decode cX11_readsFactor 39 = .ok (.getfield 195, 3) := by decide +kernel
theorem dX11_readsFactor_42 : decode cX11_readsFactor 42 = .ok (.invokevirtual 215, 3) := by decide +kernel
theorem dX11_readsFactor_45 : decode cX11_readsFactor 45 = .ok (.iconst 1, 1) := by decide +kernel
theorem dX11_readsFactor_46 : decode cX11_readsFactor 46 = .ok (.ireturn, 1) := by decide +kernel
theorem dX11_readsFactor_47 : decode cX11_readsFactor 47 = .ok (.aload_n 0, 1) := by decide +kernel
theorem dX11_readsFactor_48 : decode cX11_readsFactor 48 = .ok (.invokevirtual 185, 3) := by decide +kernel
theorem dX11_readsFactor_51 : decode cX11_readsFactor 51 = .ok (.invokestatic 225, 3) := by decide +kernel
theorem dX11_readsFactor_54 : decode cX11_readsFactor 54 = .ok (.istore_n 1, 1) := by decide +kernel
theorem dX11_readsFactor_55 : decode cX11_readsFactor 55 = .ok (.iload_n 1, 1) := by decide +kernel
theorem dX11_readsFactor_56 : decode cX11_readsFactor 56 = .ok (.iconst (-1), 1) := by decide +kernel
theorem dX11_readsFactor_57 : decode cX11_readsFactor 57 = .ok (.if_icmp .ne 13, 3) := by decide +kernel
theorem dX11_readsFactor_60 : decode cX11_readsFactor 60 = .ok (.aload_n 0, 1) := by decide +kernel
theorem dX11_readsFactor_61 : decode cX11_readsFactor 61 = .ok (.iconst 1, 1) := by decide +kernel
theorem dX11_readsFactor_62 : decode cX11_readsFactor 62 = .ok (.aload_n 0, 1) := by decide +kernel
theorem dX11_readsFactor_63 : decode cX11_readsFactor 63 = .ok (.getfield 179, 3) := by decide +kernel
theorem dX11_readsFactor_66 : decode cX11_readsFactor 66 = .ok (.invokevirtual 191, 3) := by decide +kernel
theorem dX11_readsFactor_69 : decode cX11_readsFactor 69 = .ok (.ireturn, 1) := by decide +kernel
theorem dX11_readsFactor_70 : decode cX11_readsFactor 70 = .ok (.aload_n 0, 1) := by decide +kernel
theorem dX11_readsFactor_71 : decode cX11_readsFactor 71 = .ok (.iconst 1, 1) := by decide +kernel
theorem dX11_readsFactor_72 : decode cX11_readsFactor 72 = .ok (.iload_n 1, 1) := by decide +kernel
theorem dX11_readsFactor_73 : decode cX11_readsFactor 73 = .ok (.invokevirtual 215, 3) := by decide +kernel
theorem dX11_readsFactor_76 : decode cX11_readsFactor 76 = .ok (.aload_n 0, 1) := by decide +kernel
theorem dX11_readsFactor_77 : decode cX11_readsFactor 77 = .ok (.aload_n 0, 1) := by decide +kernel
theorem dX11_readsFactor_78 : decode cX11_readsFactor 78 = .ok (.getfield 179, 3) := by decide +kernel
theorem dX11_readsFactor_81 : decode cX11_readsFactor 81 = .ok (.iconst 1, 1) := by decide +kernel
theorem dX11_readsFactor_82 : decode cX11_readsFactor 82 = .ok (.iadd, 1) := by decide +kernel
theorem dX11_readsFactor_83 : decode cX11_readsFactor 83 = .ok (.putfield 179, 3) := by decide +kernel
theorem dX11_readsFactor_86 : decode cX11_readsFactor 86 = .ok (.iconst 1, 1) := by decide +kernel
theorem dX11_readsFactor_87 : decode cX11_readsFactor 87 = .ok (.ireturn, 1) := by decide +kernel
theorem dX11_hasOpenSum_0 : decode cX11_hasOpenSum 0 = .ok (.iload_n 1, 1) := by decide +kernel
theorem dX11_hasOpenSum_1 : decode cX11_hasOpenSum 1 = .ok (.istore_n 2, 1) := by decide +kernel
theorem dX11_hasOpenSum_2 : decode cX11_hasOpenSum 2 = .ok (.iload_n 2, 1) := by decide +kernel
theorem dX11_hasOpenSum_3 : decode cX11_hasOpenSum 3 = .ok (.aload_n 0, 1) := by decide +kernel
theorem dX11_hasOpenSum_4 : decode cX11_hasOpenSum 4 = .ok (.getfield 209, 3) := by decide +kernel
theorem dX11_hasOpenSum_7 : decode cX11_hasOpenSum 7 = .ok (.if_icmp .ge 25, 3) := by decide +kernel
theorem dX11_hasOpenSum_10 : decode cX11_hasOpenSum 10 = .ok (.aload_n 0, 1) := by decide +kernel
theorem dX11_hasOpenSum_11 : decode cX11_hasOpenSum 11 = .ok (.getfield 35, 3) := by decide +kernel
theorem dX11_hasOpenSum_14 : decode cX11_hasOpenSum 14 = .ok (.iload_n 2, 1) := by decide +kernel
theorem dX11_hasOpenSum_15 : decode cX11_hasOpenSum 15 = .ok (.iaload, 1) := by decide +kernel
theorem dX11_hasOpenSum_16 : decode cX11_hasOpenSum 16 = .ok (.ldc 205, 2) := by decide +kernel
theorem dX11_hasOpenSum_18 : decode cX11_hasOpenSum 18 = .ok (.idiv, 1) := by decide +kernel
theorem dX11_hasOpenSum_19 : decode cX11_hasOpenSum 19 = .ok (.bipush 14, 2) := by decide +kernel
theorem dX11_hasOpenSum_21 : decode cX11_hasOpenSum 21 = .ok (.if_icmp .ne 5, 3) := by decide +kernel
theorem dX11_hasOpenSum_24 : decode cX11_hasOpenSum 24 = .ok (.iconst 1, 1) := by decide +kernel
theorem dX11_hasOpenSum_25 : decode cX11_hasOpenSum 25 = .ok (.ireturn, 1) := by decide +kernel
theorem dX11_hasOpenSum_26 : decode cX11_hasOpenSum 26 = .ok (.iinc 2 1, 3) := by decide +kernel
theorem dX11_hasOpenSum_29 : decode cX11_hasOpenSum 29 = .ok (.goto (-27), 3) := by decide +kernel
theorem dX11_hasOpenSum_32 : decode cX11_hasOpenSum 32 = .ok (.iconst 0, 1) := by decide +kernel
theorem dX11_hasOpenSum_33 : decode cX11_hasOpenSum 33 = .ok (.ireturn, 1) := by decide +kernel
theorem dX11_readsSum_0 : decode cX11_readsSum 0 = .ok (.aload_n 0, 1) := by decide +kernel
theorem dX11_readsSum_1 : decode cX11_readsSum 1 = .ok (.getfield 209, 3) := by decide +kernel
theorem dX11_readsSum_4 : decode cX11_readsSum 4 = .ok (.istore_n 1, 1) := by decide +kernel
theorem dX11_readsSum_5 : decode cX11_readsSum 5 = .ok (.aload_n 0, 1) := by decide +kernel
theorem dX11_readsSum_6 : decode cX11_readsSum 6 = .ok (.invokevirtual 229, 3) := by decide +kernel
theorem dX11_readsSum_9 : decode cX11_readsSum 9 = .ok (.ifCond .ne 5, 3) := by decide +kernel
theorem dX11_readsSum_12 : decode cX11_readsSum 12 = .ok (.iconst 0, 1) := by decide +kernel
theorem dX11_readsSum_13 : decode cX11_readsSum 13 = .ok (.ireturn, 1) := by decide +kernel
theorem dX11_readsSum_14 : decode cX11_readsSum 14 = .ok (.aload_n 0, 1) := by decide +kernel
theorem dX11_readsSum_15 : decode cX11_readsSum 15 = .ok (.invokevirtual 185, 3) := by decide +kernel
theorem dX11_readsSum_18 : decode cX11_readsSum 18 = .ok (.invokestatic 232, 3) := by decide +kernel
theorem dX11_readsSum_21 : decode cX11_readsSum 21 = .ok (.istore_n 2, 1) := by decide +kernel
theorem dX11_readsSum_22 : decode cX11_readsSum 22 = .ok (.iload_n 2, 1) := by decide +kernel
theorem dX11_readsSum_23 : decode cX11_readsSum 23 = .ok (.iconst (-1), 1) := by decide +kernel
theorem dX11_readsSum_24 : decode cX11_readsSum 24 = .ok (.if_icmp .eq 59, 3) := by decide +kernel
theorem dX11_readsSum_27 : decode cX11_readsSum 27 = .ok (.aload_n 0, 1) := by decide +kernel
theorem dX11_readsSum_28 : decode cX11_readsSum 28 = .ok (.iload_n 2, 1) := by decide +kernel
theorem dX11_readsSum_29 : decode cX11_readsSum 29 = .ok (.iconst 4, 1) := by decide +kernel
theorem dX11_readsSum_30 : decode cX11_readsSum 30 = .ok (.if_icmp .ge 7, 3) := by decide +kernel
theorem dX11_readsSum_33 : decode cX11_readsSum 33 = .ok (.iconst 1, 1) := by decide +kernel
theorem dX11_readsSum_34 : decode cX11_readsSum 34 = .ok (.goto 4, 3) := by decide +kernel
theorem dX11_readsSum_37 : decode cX11_readsSum 37 = .ok (.iconst 0, 1) := by decide +kernel
theorem dX11_readsSum_38 : decode cX11_readsSum 38 = .ok (.invokevirtual 235, 3) := by decide +kernel
theorem dX11_readsSum_41 : decode cX11_readsSum 41 = .ok (.aload_n 0, 1) := by decide +kernel
theorem dX11_readsSum_42 : decode cX11_readsSum 42 = .ok (.getfield 35, 3) := by decide +kernel
theorem dX11_readsSum_45 : decode cX11_readsSum 45 = .ok (.aload_n 0, 1) := by decide +kernel
theorem dX11_readsSum_46 : decode cX11_readsSum 46 = .ok (.getfield 209, 3) := by decide +kernel
theorem dX11_readsSum_49 : decode cX11_readsSum 49 = .ok (.ldc 205, 2) := by decide +kernel
theorem dX11_readsSum_51 : decode cX11_readsSum 51 = .ok (.iload_n 2, 1) := by decide +kernel
theorem dX11_readsSum_52 : decode cX11_readsSum 52 = .ok (.imul, 1) := by decide +kernel
theorem dX11_readsSum_53 : decode cX11_readsSum 53 = .ok (.iastore, 1) := by decide +kernel
theorem dX11_readsSum_54 : decode cX11_readsSum 54 = .ok (.aload_n 0, 1) := by decide +kernel
theorem dX11_readsSum_55 : decode cX11_readsSum 55 = .ok (.aload_n 0, 1) := by decide +kernel
theorem dX11_readsSum_56 : decode cX11_readsSum 56 = .ok (.getfield 209, 3) := by decide +kernel
theorem dX11_readsSum_59 : decode cX11_readsSum 59 = .ok (.iconst 1, 1) := by decide +kernel
theorem dX11_readsSum_60 : decode cX11_readsSum 60 = .ok (.iadd, 1) := by decide +kernel
theorem dX11_readsSum_61 : decode cX11_readsSum 61 = .ok (.putfield 209, 3) := by decide +kernel
theorem dX11_readsSum_64 : decode cX11_readsSum 64 = .ok (.aload_n 0, 1) := by decide +kernel
theorem dX11_readsSum_65 : decode cX11_readsSum 65 = .ok (.aload_n 0, 1) := by decide +kernel
theorem dX11_readsSum_66 : decode cX11_readsSum 66 = .ok (.getfield 179, 3) := by decide +kernel
theorem dX11_readsSum_69 : decode cX11_readsSum 69 = .ok (.iconst 1, 1) := by decide +kernel
theorem dX11_readsSum_70 : decode cX11_readsSum 70 = .ok (.iadd, 1) := by decide +kernel
theorem dX11_readsSum_71 : decode cX11_readsSum 71 = .ok (.putfield 179, 3) := by decide +kernel
theorem dX11_readsSum_74 : decode cX11_readsSum 74 = .ok (.aload_n 0, 1) := by decide +kernel
theorem dX11_readsSum_75 : decode cX11_readsSum 75 = .ok (.invokevirtual 229, 3) := by decide +kernel
theorem dX11_readsSum_78 : decode cX11_readsSum 78 = .ok (.ifCond .ne 85, 3) := by decide +kernel
theorem dX11_readsSum_81 : decode cX11_readsSum 81 = .ok (.iconst 0, 1) := by decide +kernel
theorem dX11_readsSum_82 : decode cX11_readsSum 82 = .ok (.ireturn, 1) := by decide +kernel
theorem dX11_readsSum_83 : decode cX11_readsSum 83 = .ok (.aload_n 0, 1) := by decide +kernel
theorem dX11_readsSum_84 : decode cX11_readsSum 84 = .ok (.invokevirtual 185, 3) := by decide +kernel
theorem dX11_readsSum_87 : decode cX11_readsSum 87 = .ok (.bipush 93, 2) := by decide +kernel
theorem dX11_readsSum_89 : decode cX11_readsSum 89 = .ok (.if_icmp .ne 49, 3) := by decide +kernel
theorem dX11_readsSum_92 : decode cX11_readsSum 92 = .ok (.aload_n 0, 1) := by decide +kernel
theorem dX11_readsSum_93 : decode cX11_readsSum 93 = .ok (.iload_n 1, 1) := by decide +kernel
theorem dX11_readsSum_94 : decode cX11_readsSum 94 = .ok (.invokevirtual 239, 3) := by decide +kernel
theorem dX11_readsSum_97 : decode cX11_readsSum 97 = .ok (.ifCond .eq 41, 3) := by decide +kernel
theorem dX11_readsSum_100 : decode cX11_readsSum 100 = .ok (.aload_n 0, 1) := by decide +kernel
theorem dX11_readsSum_101 : decode cX11_readsSum 101 = .ok (.iconst 1, 1) := by decide +kernel
theorem dX11_readsSum_102 : decode cX11_readsSum 102 = .ok (.invokevirtual 235, 3) := by decide +kernel
theorem dX11_readsSum_105 : decode cX11_readsSum 105 = .ok (.aload_n 0, 1) := by decide +kernel
theorem dX11_readsSum_106 : decode cX11_readsSum 106 = .ok (.aload_n 0, 1) := by decide +kernel
theorem dX11_readsSum_107 : decode cX11_readsSum 107 = .ok (.getfield 209, 3) := by decide +kernel
theorem dX11_readsSum_110 : decode cX11_readsSum 110 = .ok (.iconst 1, 1) := by decide +kernel
theorem dX11_readsSum_111 : decode cX11_readsSum 111 = .ok (.isub, 1) := by decide +kernel
theorem dX11_readsSum_112 : decode cX11_readsSum 112 = .ok (.putfield 209, 3) := by decide +kernel
theorem dX11_readsSum_115 : decode cX11_readsSum 115 = .ok (.aload_n 0, 1) := by decide +kernel
theorem dX11_readsSum_116 : decode cX11_readsSum 116 = .ok (.aload_n 0, 1) := by decide +kernel
theorem dX11_readsSum_117 : decode cX11_readsSum 117 = .ok (.getfield 206, 3) := by decide +kernel
theorem dX11_readsSum_120 : decode cX11_readsSum 120 = .ok (.iconst 1, 1) := by decide +kernel
theorem dX11_readsSum_121 : decode cX11_readsSum 121 = .ok (.isub, 1) := by decide +kernel
theorem dX11_readsSum_122 : decode cX11_readsSum 122 = .ok (.putfield 206, 3) := by decide +kernel
theorem dX11_readsSum_125 : decode cX11_readsSum 125 = .ok (.aload_n 0, 1) := by decide +kernel
theorem dX11_readsSum_126 : decode cX11_readsSum 126 = .ok (.aload_n 0, 1) := by decide +kernel
theorem dX11_readsSum_127 : decode cX11_readsSum 127 = .ok (.getfield 179, 3) := by decide +kernel
theorem dX11_readsSum_130 : decode cX11_readsSum 130 = .ok (.iconst 1, 1) := by decide +kernel
theorem dX11_readsSum_131 : decode cX11_readsSum 131 = .ok (.iadd, 1) := by decide +kernel
theorem dX11_readsSum_132 : decode cX11_readsSum 132 = .ok (.putfield 179, 3) := by decide +kernel
theorem dX11_readsSum_135 : decode cX11_readsSum 135 = .ok (.goto 28, 3) := by decide +kernel
theorem dX11_readsSum_138 : decode cX11_readsSum 138 = .ok (.aload_n 0, 1) := by decide +kernel
theorem dX11_readsSum_139 : decode cX11_readsSum 139 = .ok (.iload_n 1, 1) := by decide +kernel
theorem dX11_readsSum_140 : decode cX11_readsSum 140 = .ok (.invokevirtual 239, 3) := by decide +kernel
theorem dX11_readsSum_143 : decode cX11_readsSum 143 = .ok (.ifCond .eq 13, 3) := by decide +kernel
theorem dX11_readsSum_146 : decode cX11_readsSum 146 = .ok (.aload_n 0, 1) := by decide +kernel
theorem dX11_readsSum_147 : decode cX11_readsSum 147 = .ok (.iconst 1, 1) := by decide +kernel
theorem dX11_readsSum_148 : decode cX11_readsSum 148 = .ok (.aload_n 0, 1) := by decide +kernel
theorem dX11_readsSum_149 : decode cX11_readsSum 149 = .ok (.getfield 179, 3) := by decide +kernel
theorem dX11_readsSum_152 : decode cX11_readsSum 152 = .ok (.invokevirtual 191, 3) := by decide +kernel
theorem dX11_readsSum_155 : decode cX11_readsSum 155 = .ok (.ireturn, 1) := by decide +kernel
theorem dX11_readsSum_156 : decode cX11_readsSum 156 = .ok (.aload_n 0, 1) := by decide +kernel
theorem dX11_readsSum_157 : decode cX11_readsSum 157 = .ok (.iconst 1, 1) := by decide +kernel
theorem dX11_readsSum_158 : decode cX11_readsSum 158 = .ok (.invokevirtual 235, 3) := by decide +kernel
theorem dX11_readsSum_161 : decode cX11_readsSum 161 = .ok (.iconst 1, 1) := by decide +kernel
theorem dX11_readsSum_162 : decode cX11_readsSum 162 = .ok (.ireturn, 1) := by decide +kernel
theorem dX11_readsSum_163 : decode cX11_readsSum 163 = .ok (.goto (-149), 3) := by decide +kernel
theorem dX11_endsPiece_0 : decode cX11_endsPiece 0 = .ok (.aload_n 0, 1) := by decide +kernel
theorem dX11_endsPiece_1 : decode cX11_endsPiece 1 = .ok (.invokevirtual 212, 3) := by decide +kernel
theorem dX11_endsPiece_4 : decode cX11_endsPiece 4 = .ok (.bipush 10, 2) := by decide +kernel
theorem dX11_endsPiece_6 : decode cX11_endsPiece 6 = .ok (.if_icmp .ne 33, 3) := by decide +kernel
theorem dX11_endsPiece_9 : decode cX11_endsPiece 9 = .ok (.aload_n 0, 1) := by decide +kernel
theorem dX11_endsPiece_10 : decode cX11_endsPiece 10 = .ok (.bipush 10, 2) := by decide +kernel
theorem dX11_endsPiece_12 : decode cX11_endsPiece 12 = .ok (.iconst 0, 1) := by decide +kernel
theorem dX11_endsPiece_13 : decode cX11_endsPiece 13 = .ok (.invokevirtual 215, 3) := by decide +kernel
theorem dX11_endsPiece_16 : decode cX11_endsPiece 16 = .ok (.aload_n 0, 1) := by decide +kernel
theorem dX11_endsPiece_17 : decode cX11_endsPiece 17 = .ok (.aload_n 0, 1) := by decide +kernel
theorem dX11_endsPiece_18 : decode cX11_endsPiece 18 = .ok (.getfield 209, 3) := by decide +kernel
theorem dX11_endsPiece_21 : decode cX11_endsPiece 21 = .ok (.iconst 1, 1) := by decide +kernel
theorem dX11_endsPiece_22 : decode cX11_endsPiece 22 = .ok (.isub, 1) := by decide +kernel
theorem dX11_endsPiece_23 : decode cX11_endsPiece 23 = .ok (.putfield 209, 3) := by decide +kernel
theorem dX11_endsPiece_26 : decode cX11_endsPiece 26 = .ok (.aload_n 0, 1) := by decide +kernel
theorem dX11_endsPiece_27 : decode cX11_endsPiece 27 = .ok (.aload_n 0, 1) := by decide +kernel
theorem dX11_endsPiece_28 : decode cX11_endsPiece 28 = .ok (.getfield 206, 3) := by decide +kernel
theorem dX11_endsPiece_31 : decode cX11_endsPiece 31 = .ok (.iconst 1, 1) := by decide +kernel
theorem dX11_endsPiece_32 : decode cX11_endsPiece 32 = .ok (.isub, 1) := by decide +kernel
theorem dX11_endsPiece_33 : decode cX11_endsPiece 33 = .ok (.putfield 206, 3) := by decide +kernel
theorem dX11_endsPiece_36 : decode cX11_endsPiece 36 = .ok (.goto (-36), 3) := by decide +kernel
theorem dX11_endsPiece_39 : decode cX11_endsPiece 39 = .ok (.return_, 1) := by decide +kernel
theorem dX11_lands_0 : decode cX11_lands 0 = .ok (.aload_n 0, 1) := by decide +kernel
theorem dX11_lands_1 : decode cX11_lands 1 = .ok (.invokevirtual 212, 3) := by decide +kernel
theorem dX11_lands_4 : decode cX11_lands 4 = .ok (.bipush 11, 2) := by decide +kernel
theorem dX11_lands_6 : decode cX11_lands 6 = .ok (.if_icmp .eq 16, 3) := by decide +kernel
theorem dX11_lands_9 : decode cX11_lands 9 = .ok (.iload_n 1, 1) := by decide +kernel
theorem dX11_lands_10 : decode cX11_lands 10 = .ok (.ifCond .eq 63, 3) := by decide +kernel
theorem dX11_lands_13 : decode cX11_lands 13 = .ok (.aload_n 0, 1) := by decide +kernel
theorem dX11_lands_14 : decode cX11_lands 14 = .ok (.invokevirtual 212, 3) := by decide +kernel
theorem dX11_lands_17 : decode cX11_lands 17 = .ok (.bipush 12, 2) := by decide +kernel
theorem dX11_lands_19 : decode cX11_lands 19 = .ok (.if_icmp .ne 54, 3) := by decide +kernel
theorem dX11_lands_22 : decode cX11_lands 22 = .ok (.aload_n 0, 1) := by decide +kernel
theorem dX11_lands_23 : decode cX11_lands 23 = .ok (.getfield 35, 3) := by decide +kernel
theorem dX11_lands_26 : decode cX11_lands 26 = .ok (.aload_n 0, 1) := by decide +kernel
theorem dX11_lands_27 : decode cX11_lands 27 = .ok (.getfield 209, 3) := by decide +kernel
theorem dX11_lands_30 : decode cX11_lands 30 = .ok (.iconst 1, 1) := by decide +kernel
theorem dX11_lands_31 : decode cX11_lands 31 = .ok (.isub, 1) := by decide +kernel
theorem dX11_lands_32 : decode cX11_lands 32 = .ok (.iaload, 1) := by decide +kernel
theorem dX11_lands_33 : decode cX11_lands 33 = .ok (.ldc 205, 2) := by decide +kernel
theorem dX11_lands_35 : decode cX11_lands 35 = .ok (.irem, 1) := by decide +kernel
theorem dX11_lands_36 : decode cX11_lands 36 = .ok (.istore_n 2, 1) := by decide +kernel
theorem dX11_lands_37 : decode cX11_lands 37 = .ok (.aload_n 0, 1) := by decide +kernel
theorem dX11_lands_38 : decode cX11_lands 38 = .ok (.getfield 32, 3) := by decide +kernel
theorem dX11_lands_41 : decode cX11_lands 41 = .ok (.iload_n 2, 1) := by decide +kernel
theorem dX11_lands_42 : decode cX11_lands 42 = .ok (.ldc 205, 2) := by decide +kernel
theorem dX11_lands_44 : decode cX11_lands 44 = .ok (.aload_n 0, 1) := by decide +kernel
theorem dX11_lands_45 : decode cX11_lands 45 = .ok (.getfield 32, 3) := by decide +kernel
theorem dX11_lands_48 : decode cX11_lands 48 = .ok (.iload_n 2, 1) := by decide +kernel
theorem dX11_lands_49 : decode cX11_lands 49 = .ok (.iaload, 1) := by decide +kernel
theorem dX11_lands_50 : decode cX11_lands 50 = .ok (.ldc 205, 2) := by decide +kernel
theorem dX11_lands_52 : decode cX11_lands 52 = .ok (.idiv, 1) := by decide +kernel
theorem dX11_lands_53 : decode cX11_lands 53 = .ok (.imul, 1) := by decide +kernel
theorem dX11_lands_54 : decode cX11_lands 54 = .ok (.aload_n 0, 1) := by decide +kernel
theorem dX11_lands_55 : decode cX11_lands 55 = .ok (.getfield 202, 3) := by decide +kernel
theorem dX11_lands_58 : decode cX11_lands 58 = .ok (.iadd, 1) := by decide +kernel
theorem dX11_lands_59 : decode cX11_lands 59 = .ok (.iastore, 1) := by decide +kernel
theorem dX11_lands_60 : decode cX11_lands 60 = .ok (.aload_n 0, 1) := by decide +kernel
theorem dX11_lands_61 : decode cX11_lands 61 = .ok (.aload_n 0, 1) := by decide +kernel
theorem dX11_lands_62 : decode cX11_lands 62 = .ok (.getfield 209, 3) := by decide +kernel
theorem dX11_lands_65 : decode cX11_lands 65 = .ok (.iconst 1, 1) := by decide +kernel
theorem dX11_lands_66 : decode cX11_lands 66 = .ok (.isub, 1) := by decide +kernel
theorem dX11_lands_67 : decode cX11_lands 67 = .ok (.putfield 209, 3) := by decide +kernel
theorem dX11_lands_70 : decode cX11_lands 70 = .ok (.goto (-70), 3) := by decide +kernel
theorem dX11_lands_73 : decode cX11_lands 73 = .ok (.return_, 1) := by decide +kernel
theorem dX11_jumps_0 : decode cX11_jumps 0 = .ok (.aload_n 0, 1) := by decide +kernel
theorem dX11_jumps_1 : decode cX11_jumps 1 = .ok (.getfield 35, 3) := by decide +kernel
theorem dX11_jumps_4 : decode cX11_jumps 4 = .ok (.aload_n 0, 1) := by decide +kernel
theorem dX11_jumps_5 : decode cX11_jumps 5 = .ok (.getfield 209, 3) := by decide +kernel
theorem dX11_jumps_8 : decode cX11_jumps 8 = .ok (.ldc 205, 2) := by decide +kernel
theorem dX11_jumps_10 : decode cX11_jumps 10 = .ok (.iload_n 1, 1) := by decide +kernel
theorem dX11_jumps_11 : decode cX11_jumps 11 = .ok (.imul, 1) := by decide +kernel
theorem dX11_jumps_12 : decode cX11_jumps 12 = .ok (.aload_n 0, 1) := by decide +kernel
theorem dX11_jumps_13 : decode cX11_jumps 13 = .ok (.getfield 202, 3) := by decide +kernel
theorem dX11_jumps_16 : decode cX11_jumps 16 = .ok (.iadd, 1) := by decide +kernel
theorem dX11_jumps_17 : decode cX11_jumps 17 = .ok (.iastore, 1) := by decide +kernel
theorem dX11_jumps_18 : decode cX11_jumps 18 = .ok (.aload_n 0, 1) := by decide +kernel
theorem dX11_jumps_19 : decode cX11_jumps 19 = .ok (.aload_n 0, 1) := by decide +kernel
theorem dX11_jumps_20 : decode cX11_jumps 20 = .ok (.getfield 209, 3) := by decide +kernel
theorem dX11_jumps_23 : decode cX11_jumps 23 = .ok (.iconst 1, 1) := by decide +kernel
theorem dX11_jumps_24 : decode cX11_jumps 24 = .ok (.iadd, 1) := by decide +kernel
theorem dX11_jumps_25 : decode cX11_jumps 25 = .ok (.putfield 209, 3) := by decide +kernel
theorem dX11_jumps_28 : decode cX11_jumps 28 = .ok (.aload_n 0, 1) := by decide +kernel
theorem dX11_jumps_29 : decode cX11_jumps 29 = .ok (.iload_n 1, 1) := by decide +kernel
theorem dX11_jumps_30 : decode cX11_jumps 30 = .ok (.iconst 0, 1) := by decide +kernel
theorem dX11_jumps_31 : decode cX11_jumps 31 = .ok (.invokevirtual 215, 3) := by decide +kernel
theorem dX11_jumps_34 : decode cX11_jumps 34 = .ok (.aload_n 0, 1) := by decide +kernel
theorem dX11_jumps_35 : decode cX11_jumps 35 = .ok (.aload_n 0, 1) := by decide +kernel
theorem dX11_jumps_36 : decode cX11_jumps 36 = .ok (.getfield 179, 3) := by decide +kernel
theorem dX11_jumps_39 : decode cX11_jumps 39 = .ok (.iconst 1, 1) := by decide +kernel
theorem dX11_jumps_40 : decode cX11_jumps 40 = .ok (.iadd, 1) := by decide +kernel
theorem dX11_jumps_41 : decode cX11_jumps 41 = .ok (.putfield 179, 3) := by decide +kernel
theorem dX11_jumps_44 : decode cX11_jumps 44 = .ok (.return_, 1) := by decide +kernel
theorem dX11_readsCompared_0 : decode cX11_readsCompared 0 = .ok (.aload_n 0, 1) := by decide +kernel
theorem dX11_readsCompared_1 : decode cX11_readsCompared 1 = .ok (.invokevirtual 242, 3) := by decide +kernel
theorem dX11_readsCompared_4 : decode cX11_readsCompared 4 = .ok (.ifCond .ne 5, 3) := by decide +kernel
theorem dX11_readsCompared_7 : decode cX11_readsCompared 7 = .ok (.iconst 0, 1) := by decide +kernel
theorem dX11_readsCompared_8 : decode cX11_readsCompared 8 = .ok (.ireturn, 1) := by decide +kernel
theorem dX11_readsCompared_9 : decode cX11_readsCompared 9 = .ok (.aload_n 0, 1) := by decide +kernel
theorem dX11_readsCompared_10 : decode cX11_readsCompared 10 = .ok (.invokevirtual 185, 3) := by decide +kernel
theorem dX11_readsCompared_13 : decode cX11_readsCompared 13 = .ok (.bipush 60, 2) := by decide +kernel
theorem dX11_readsCompared_15 : decode cX11_readsCompared 15 = .ok (.if_icmp .ne 8, 3) := by decide +kernel
theorem dX11_readsCompared_18 : decode cX11_readsCompared 18 = .ok (.bipush 7, 2) := by decide +kernel
theorem dX11_readsCompared_20 : decode cX11_readsCompared 20 = .ok (.goto 32, 3) := by decide +kernel
theorem dX11_readsCompared_23 : decode cX11_readsCompared 23 = .ok (.aload_n 0, 1) := by decide +kernel
theorem dX11_readsCompared_24 : decode cX11_readsCompared 24 = .ok (.invokevirtual 185, 3) := by decide +kernel
theorem dX11_readsCompared_27 : decode cX11_readsCompared 27 = .ok (.bipush 62, 2) := by decide +kernel
theorem dX11_readsCompared_29 : decode cX11_readsCompared 29 = .ok (.if_icmp .ne 8, 3) := by decide +kernel
theorem dX11_readsCompared_32 : decode cX11_readsCompared 32 = .ok (.bipush 8, 2) := by decide +kernel
theorem dX11_readsCompared_34 : decode cX11_readsCompared 34 = .ok (.goto 18, 3) := by decide +kernel
theorem dX11_readsCompared_37 : decode cX11_readsCompared 37 = .ok (.aload_n 0, 1) := by decide +kernel
theorem dX11_readsCompared_38 : decode cX11_readsCompared 38 = .ok (.invokevirtual 185, 3) := by decide +kernel
theorem dX11_readsCompared_41 : decode cX11_readsCompared 41 = .ok (.bipush 61, 2) := by decide +kernel
theorem dX11_readsCompared_43 : decode cX11_readsCompared 43 = .ok (.if_icmp .ne 8, 3) := by decide +kernel
theorem dX11_readsCompared_46 : decode cX11_readsCompared 46 = .ok (.bipush 9, 2) := by decide +kernel
theorem dX11_readsCompared_48 : decode cX11_readsCompared 48 = .ok (.goto 4, 3) := by decide +kernel
theorem dX11_readsCompared_51 : decode cX11_readsCompared 51 = .ok (.iconst (-1), 1) := by decide +kernel
theorem dX11_readsCompared_52 : decode cX11_readsCompared 52 = .ok (.istore_n 1, 1) := by decide +kernel
theorem dX11_readsCompared_53 : decode cX11_readsCompared 53 = .ok (.iload_n 1, 1) := by decide +kernel
theorem dX11_readsCompared_54 : decode cX11_readsCompared 54 = .ok (.iconst (-1), 1) := by decide +kernel
theorem dX11_readsCompared_55 : decode cX11_readsCompared 55 = .ok (.if_icmp .ne 13, 3) := by decide +kernel
theorem dX11_readsCompared_58 : decode cX11_readsCompared 58 = .ok (.aload_n 0, 1) := by decide +kernel
theorem dX11_readsCompared_59 : decode cX11_readsCompared 59 = .ok (.iconst 1, 1) := by decide +kernel
theorem dX11_readsCompared_60 : decode cX11_readsCompared 60 = .ok (.aload_n 0, 1) := by decide +kernel
theorem dX11_readsCompared_61 : decode cX11_readsCompared 61 = .ok (.getfield 179, 3) := by decide +kernel
theorem dX11_readsCompared_64 : decode cX11_readsCompared 64 = .ok (.invokevirtual 191, 3) := by decide +kernel
theorem dX11_readsCompared_67 : decode cX11_readsCompared 67 = .ok (.ireturn, 1) := by decide +kernel
theorem dX11_readsCompared_68 : decode cX11_readsCompared 68 = .ok (.aload_n 0, 1) := by decide +kernel
theorem dX11_readsCompared_69 : decode cX11_readsCompared 69 = .ok (.aload_n 0, 1) := by decide +kernel
theorem dX11_readsCompared_70 : decode cX11_readsCompared 70 = .ok (.getfield 179, 3) := by decide +kernel
theorem dX11_readsCompared_73 : decode cX11_readsCompared 73 = .ok (.iconst 1, 1) := by decide +kernel
theorem dX11_readsCompared_74 : decode cX11_readsCompared 74 = .ok (.iadd, 1) := by decide +kernel
theorem dX11_readsCompared_75 : decode cX11_readsCompared 75 = .ok (.putfield 179, 3) := by decide +kernel
theorem dX11_readsCompared_78 : decode cX11_readsCompared 78 = .ok (.aload_n 0, 1) := by decide +kernel
theorem dX11_readsCompared_79 : decode cX11_readsCompared 79 = .ok (.invokevirtual 242, 3) := by decide +kernel
theorem dX11_readsCompared_82 : decode cX11_readsCompared 82 = .ok (.ifCond .ne 5, 3) := by decide +kernel
theorem dX11_readsCompared_85 : decode cX11_readsCompared 85 = .ok (.iconst 0, 1) := by decide +kernel
theorem dX11_readsCompared_86 : decode cX11_readsCompared 86 = .ok (.ireturn, 1) := by decide +kernel
theorem dX11_readsCompared_87 : decode cX11_readsCompared 87 = .ok (.aload_n 0, 1) := by decide +kernel
theorem dX11_readsCompared_88 : decode cX11_readsCompared 88 = .ok (.iload_n 1, 1) := by decide +kernel
theorem dX11_readsCompared_89 : decode cX11_readsCompared 89 = .ok (.iconst 0, 1) := by decide +kernel
theorem dX11_readsCompared_90 : decode cX11_readsCompared 90 = .ok (.invokevirtual 215, 3) := by decide +kernel
theorem dX11_readsCompared_93 : decode cX11_readsCompared 93 = .ok (.aload_n 0, 1) := by decide +kernel
theorem dX11_readsCompared_94 : decode cX11_readsCompared 94 = .ok (.invokevirtual 245, 3) := by decide +kernel
theorem dX11_readsCompared_97 : decode cX11_readsCompared 97 = .ok (.iconst 1, 1) := by decide +kernel
theorem dX11_readsCompared_98 : decode cX11_readsCompared 98 = .ok (.ireturn, 1) := by decide +kernel
theorem dX11_readsCondition_0 : decode cX11_readsCondition 0 = .ok (.aload_n 0, 1) := by decide +kernel
theorem dX11_readsCondition_1 : decode cX11_readsCondition 1 = .ok (.invokevirtual 185, 3) := by decide +kernel
theorem dX11_readsCondition_4 : decode cX11_readsCondition 4 = .ok (.bipush 40, 2) := by decide +kernel
theorem dX11_readsCondition_6 : decode cX11_readsCondition 6 = .ok (.if_icmp .eq 13, 3) := by decide +kernel
theorem dX11_readsCondition_9 : decode cX11_readsCondition 9 = .ok (.aload_n 0, 1) := by decide +kernel
theorem dX11_readsCondition_10 : decode cX11_readsCondition 10 = .ok (.iconst 1, 1) := by decide +kernel
theorem dX11_readsCondition_11 : decode cX11_readsCondition 11 = .ok (.aload_n 0, 1) := by decide +kernel
theorem dX11_readsCondition_12 : decode cX11_readsCondition 12 = .ok (.getfield 179, 3) := by decide +kernel
theorem dX11_readsCondition_15 : decode cX11_readsCondition 15 = .ok (.invokevirtual 191, 3) := by decide +kernel
theorem dX11_readsCondition_18 : decode cX11_readsCondition 18 = .ok (.ireturn, 1) := by decide +kernel
theorem dX11_readsCondition_19 : decode cX11_readsCondition 19 = .ok (.aload_n 0, 1) := by decide +kernel
theorem dX11_readsCondition_20 : decode cX11_readsCondition 20 = .ok (.iconst 0, 1) := by decide +kernel
theorem dX11_readsCondition_21 : decode cX11_readsCondition 21 = .ok (.putfield 206, 3) := by decide +kernel
theorem dX11_readsCondition_24 : decode cX11_readsCondition 24 = .ok (.aload_n 0, 1) := by decide +kernel
theorem dX11_readsCondition_25 : decode cX11_readsCondition 25 = .ok (.iconst 0, 1) := by decide +kernel
theorem dX11_readsCondition_26 : decode cX11_readsCondition 26 = .ok (.putfield 209, 3) := by decide +kernel
theorem dX11_readsCondition_29 : decode cX11_readsCondition 29 = .ok (.aload_n 0, 1) := by decide +kernel
theorem dX11_readsCondition_30 : decode cX11_readsCondition 30 = .ok (.bipush 13, 2) := by decide +kernel
theorem dX11_readsCondition_32 : decode cX11_readsCondition 32 = .ok (.invokevirtual 219, 3) := by decide +kernel
theorem dX11_readsCondition_35 : decode cX11_readsCondition 35 = .ok (.ifCond .ne 5, 3) := by decide +kernel
theorem dX11_readsCondition_38 : decode cX11_readsCondition 38 = .ok (.iconst 0, 1) := by decide +kernel
theorem dX11_readsCondition_39 : decode cX11_readsCondition 39 = .ok (.ireturn, 1) := by decide +kernel
theorem dX11_readsCondition_40 : decode cX11_readsCondition 40 = .ok (.aload_n 0, 1) := by decide +kernel
theorem dX11_readsCondition_41 : decode cX11_readsCondition 41 = .ok (.invokevirtual 185, 3) := by decide +kernel
theorem dX11_readsCondition_44 : decode cX11_readsCondition 44 = .ok (.bipush 33, 2) := by decide +kernel
theorem dX11_readsCondition_46 : decode cX11_readsCondition 46 = .ok (.if_icmp .eq 12, 3) := by decide +kernel
theorem dX11_readsCondition_49 : decode cX11_readsCondition 49 = .ok (.aload_n 0, 1) := by decide +kernel
theorem dX11_readsCondition_50 : decode cX11_readsCondition 50 = .ok (.invokevirtual 185, 3) := by decide +kernel
theorem dX11_readsCondition_53 : decode cX11_readsCondition 53 = .ok (.bipush 40, 2) := by decide +kernel
theorem dX11_readsCondition_55 : decode cX11_readsCondition 55 = .ok (.if_icmp .ne 28, 3) := by decide +kernel
theorem dX11_readsCondition_58 : decode cX11_readsCondition 58 = .ok (.aload_n 0, 1) := by decide +kernel
theorem dX11_readsCondition_59 : decode cX11_readsCondition 59 = .ok (.aload_n 0, 1) := by decide +kernel
theorem dX11_readsCondition_60 : decode cX11_readsCondition 60 = .ok (.invokevirtual 185, 3) := by decide +kernel
theorem dX11_readsCondition_63 : decode cX11_readsCondition 63 = .ok (.bipush 33, 2) := by decide +kernel
theorem dX11_readsCondition_65 : decode cX11_readsCondition 65 = .ok (.if_icmp .ne 8, 3) := by decide +kernel
theorem dX11_readsCondition_68 : decode cX11_readsCondition 68 = .ok (.bipush 10, 2) := by decide +kernel
theorem dX11_readsCondition_70 : decode cX11_readsCondition 70 = .ok (.goto 5, 3) := by decide +kernel
theorem dX11_readsCondition_73 : decode cX11_readsCondition 73 = .ok (.bipush 13, 2) := by decide +kernel
theorem dX11_readsCondition_75 : decode cX11_readsCondition 75 = .ok (.invokevirtual 219, 3) := by decide +kernel
theorem dX11_readsCondition_78 : decode cX11_readsCondition 78 = .ok (.ifCond .ne (-38), 3) := by decide +kernel
theorem dX11_readsCondition_81 : decode cX11_readsCondition 81 = .ok (.iconst 0, 1) := by decide +kernel
theorem dX11_readsCondition_82 : decode cX11_readsCondition 82 = .ok (.ireturn, 1) := by decide +kernel
theorem dX11_readsCondition_83 : decode cX11_readsCondition 83 = .ok (.aload_n 0, 1) := by decide +kernel
theorem dX11_readsCondition_84 : decode cX11_readsCondition 84 = .ok (.invokevirtual 248, 3) := by decide +kernel
theorem dX11_readsCondition_87 : decode cX11_readsCondition 87 = .ok (.ifCond .ne 5, 3) := by decide +kernel
theorem dX11_readsCondition_90 : decode cX11_readsCondition 90 = .ok (.iconst 0, 1) := by decide +kernel
theorem dX11_readsCondition_91 : decode cX11_readsCondition 91 = .ok (.ireturn, 1) := by decide +kernel
theorem dX11_readsCondition_92 : decode cX11_readsCondition 92 = .ok (.aload_n 0, 1) := by decide +kernel
theorem dX11_readsCondition_93 : decode cX11_readsCondition 93 = .ok (.invokevirtual 185, 3) := by decide +kernel
theorem dX11_readsCondition_96 : decode cX11_readsCondition 96 = .ok (.bipush 41, 2) := by decide +kernel
theorem dX11_readsCondition_98 : decode cX11_readsCondition 98 = .ok (.if_icmp .ne 54, 3) := by decide +kernel
theorem dX11_readsCondition_101 : decode cX11_readsCondition 101 = .ok (.aload_n 0, 1) := by decide +kernel
theorem dX11_readsCondition_102 : decode cX11_readsCondition 102 = .ok (.iconst 1, 1) := by decide +kernel
theorem dX11_readsCondition_103 : decode cX11_readsCondition 103 = .ok (.invokevirtual 251, 3) := by decide +kernel
theorem dX11_readsCondition_106 : decode cX11_readsCondition 106 = .ok (.aload_n 0, 1) := by decide +kernel
theorem dX11_readsCondition_107 : decode cX11_readsCondition 107 = .ok (.aload_n 0, 1) := by decide +kernel
theorem dX11_readsCondition_108 : decode cX11_readsCondition 108 = .ok (.getfield 209, 3) := by decide +kernel
theorem dX11_readsCondition_111 : decode cX11_readsCondition 111 = .ok (.iconst 1, 1) := by decide +kernel
theorem dX11_readsCondition_112 : decode cX11_readsCondition 112 = .ok (.isub, 1) := by decide +kernel
theorem dX11_readsCondition_113 : decode cX11_readsCondition 113 = .ok (.putfield 209, 3) := by decide +kernel
theorem dX11_readsCondition_116 : decode cX11_readsCondition 116 = .ok (.aload_n 0, 1) := by decide +kernel
theorem dX11_readsCondition_117 : decode cX11_readsCondition 117 = .ok (.aload_n 0, 1) := by decide +kernel
theorem dX11_readsCondition_118 : decode cX11_readsCondition 118 = .ok (.getfield 206, 3) := by decide +kernel
theorem dX11_readsCondition_121 : decode cX11_readsCondition 121 = .ok (.iconst 1, 1) := by decide +kernel
theorem dX11_readsCondition_122 : decode cX11_readsCondition 122 = .ok (.isub, 1) := by decide +kernel
theorem dX11_readsCondition_123 : decode cX11_readsCondition 123 = .ok (.putfield 206, 3) := by decide +kernel
theorem dX11_readsCondition_126 : decode cX11_readsCondition 126 = .ok (.aload_n 0, 1) := by decide +kernel
theorem dX11_readsCondition_127 : decode cX11_readsCondition 127 = .ok (.aload_n 0, 1) := by decide +kernel
theorem dX11_readsCondition_128 : decode cX11_readsCondition 128 = .ok (.getfield 179, 3) := by decide +kernel
theorem dX11_readsCondition_131 : decode cX11_readsCondition 131 = .ok (.iconst 1, 1) := by decide +kernel
theorem dX11_readsCondition_132 : decode cX11_readsCondition 132 = .ok (.iadd, 1) := by decide +kernel
theorem dX11_readsCondition_133 : decode cX11_readsCondition 133 = .ok (.putfield 179, 3) := by decide +kernel
theorem dX11_readsCondition_136 : decode cX11_readsCondition 136 = .ok (.aload_n 0, 1) := by decide +kernel
theorem dX11_readsCondition_137 : decode cX11_readsCondition 137 = .ok (.getfield 209, 3) := by decide +kernel
theorem dX11_readsCondition_140 : decode cX11_readsCondition 140 = .ok (.ifCond .ne 5, 3) := by decide +kernel
theorem dX11_readsCondition_143 : decode cX11_readsCondition 143 = .ok (.iconst 1, 1) := by decide +kernel
theorem dX11_readsCondition_144 : decode cX11_readsCondition 144 = .ok (.ireturn, 1) := by decide +kernel
theorem dX11_readsCondition_145 : decode cX11_readsCondition 145 = .ok (.aload_n 0, 1) := by decide +kernel
theorem dX11_readsCondition_146 : decode cX11_readsCondition 146 = .ok (.invokevirtual 245, 3) := by decide +kernel
theorem dX11_readsCondition_149 : decode cX11_readsCondition 149 = .ok (.goto (-57), 3) := by decide +kernel
theorem dX11_readsCondition_152 : decode cX11_readsCondition 152 = .ok (.aload_n 0, 1) := by decide +kernel
theorem dX11_readsCondition_153 : decode cX11_readsCondition 153 = .ok (.invokevirtual 185, 3) := by decide +kernel
theorem dX11_readsCondition_156 : decode cX11_readsCondition 156 = .ok (.bipush 38, 2) := by decide +kernel
theorem dX11_readsCondition_158 : decode cX11_readsCondition 158 = .ok (.if_icmp .eq 22, 3) := by decide +kernel
theorem dX11_readsCondition_161 : decode cX11_readsCondition 161 = .ok (.aload_n 0, 1) := by decide +kernel
theorem dX11_readsCondition_162 : decode cX11_readsCondition 162 = .ok (.invokevirtual 185, 3) := by decide +kernel
theorem dX11_readsCondition_165 : decode cX11_readsCondition 165 = .ok (.bipush 124, 2) := by decide +kernel
theorem dX11_readsCondition_167 : decode cX11_readsCondition 167 = .ok (.if_icmp .eq 13, 3) := by decide +kernel
theorem dX11_readsCondition_170 : decode cX11_readsCondition 170 = .ok (.aload_n 0, 1) := by decide +kernel
theorem dX11_readsCondition_171 : decode cX11_readsCondition 171 = .ok (.iconst 1, 1) := by decide +kernel
theorem dX11_readsCondition_172 : decode cX11_readsCondition 172 = .ok (.aload_n 0, 1) := by decide +kernel
theorem dX11_readsCondition_173 : decode cX11_readsCondition 173 = .ok (.getfield 179, 3) := by decide +kernel
theorem dX11_readsCondition_176 : decode cX11_readsCondition 176 = .ok (.invokevirtual 191, 3) := by decide +kernel
theorem dX11_readsCondition_179 : decode cX11_readsCondition 179 = .ok (.ireturn, 1) := by decide +kernel
theorem dX11_readsCondition_180 : decode cX11_readsCondition 180 = .ok (.aload_n 0, 1) := by decide +kernel
theorem dX11_readsCondition_181 : decode cX11_readsCondition 181 = .ok (.aload_n 0, 1) := by decide +kernel
theorem dX11_readsCondition_182 : decode cX11_readsCondition 182 = .ok (.invokevirtual 185, 3) := by decide +kernel
theorem dX11_readsCondition_185 : decode cX11_readsCondition 185 = .ok (.bipush 124, 2) := by decide +kernel
theorem dX11_readsCondition_187 : decode cX11_readsCondition 187 = .ok (.if_icmp .ne 7, 3) := by decide +kernel
theorem dX11_readsCondition_190 : decode cX11_readsCondition 190 = .ok (.iconst 1, 1) := by decide +kernel
theorem dX11_readsCondition_191 : decode cX11_readsCondition 191 = .ok (.goto 4, 3) := by decide +kernel
theorem dX11_readsCondition_194 : decode cX11_readsCondition 194 = .ok (.iconst 0, 1) := by decide +kernel
theorem dX11_readsCondition_195 : decode cX11_readsCondition 195 = .ok (.invokevirtual 251, 3) := by decide +kernel
theorem dX11_readsCondition_198 : decode cX11_readsCondition 198 = .ok (.aload_n 0, 1) := by decide +kernel
theorem dX11_readsCondition_199 : decode cX11_readsCondition 199 = .ok (.aload_n 0, 1) := by decide +kernel
theorem dX11_readsCondition_200 : decode cX11_readsCondition 200 = .ok (.invokevirtual 185, 3) := by decide +kernel
theorem dX11_readsCondition_203 : decode cX11_readsCondition 203 = .ok (.bipush 38, 2) := by decide +kernel
theorem dX11_readsCondition_205 : decode cX11_readsCondition 205 = .ok (.if_icmp .ne 8, 3) := by decide +kernel
theorem dX11_readsCondition_208 : decode cX11_readsCondition 208 = .ok (.bipush 11, 2) := by decide +kernel
theorem dX11_readsCondition_210 : decode cX11_readsCondition 210 = .ok (.goto 5, 3) := by decide +kernel
theorem dX11_readsCondition_213 : decode cX11_readsCondition 213 = .ok (.bipush 12, 2) := by decide +kernel
theorem dX11_readsCondition_215 : decode cX11_readsCondition 215 = .ok (.invokevirtual 254, 3) := by decide +kernel
theorem dX11_readsCondition_218 : decode cX11_readsCondition 218 = .ok (.goto (-178), 3) := by decide +kernel
theorem dX11_readsClause_0 : decode cX11_readsClause 0 = .ok (.aload_n 0, 1) := by decide +kernel
theorem dX11_readsClause_1 : decode cX11_readsClause 1 = .ok (.invokevirtual 185, 3) := by decide +kernel
theorem dX11_readsClause_4 : decode cX11_readsClause 4 = .ok (.istore_n 1, 1) := by decide +kernel
theorem dX11_readsClause_5 : decode cX11_readsClause 5 = .ok (.iload_n 1, 1) := by decide +kernel
theorem dX11_readsClause_6 : decode cX11_readsClause 6 = .ok (.bipush 115, 2) := by decide +kernel
theorem dX11_readsClause_8 : decode cX11_readsClause 8 = .ok (.if_icmp .eq 19, 3) := by decide +kernel
theorem dX11_readsClause_11 : decode cX11_readsClause 11 = .ok (.iload_n 1, 1) := by decide +kernel
theorem dX11_readsClause_12 : decode cX11_readsClause 12 = .ok (.bipush 101, 2) := by decide +kernel
theorem dX11_readsClause_14 : decode cX11_readsClause 14 = .ok (.if_icmp .eq 13, 3) := by decide +kernel
theorem dX11_readsClause_17 : decode cX11_readsClause 17 = .ok (.aload_n 0, 1) := by decide +kernel
theorem dX11_readsClause_18 : decode cX11_readsClause 18 = .ok (.iconst 1, 1) := by decide +kernel
theorem dX11_readsClause_19 : decode cX11_readsClause 19 = .ok (.aload_n 0, 1) := by decide +kernel
theorem dX11_readsClause_20 : decode cX11_readsClause 20 = .ok (.getfield 179, 3) := by decide +kernel
theorem dX11_readsClause_23 : decode cX11_readsClause 23 = .ok (.invokevirtual 191, 3) := by decide +kernel
theorem dX11_readsClause_26 : decode cX11_readsClause 26 = .ok (.ireturn, 1) := by decide +kernel
theorem dX11_readsClause_27 : decode cX11_readsClause 27 = .ok (.aload_n 0, 1) := by decide +kernel
theorem dX11_readsClause_28 : decode cX11_readsClause 28 = .ok (.getfield 257, 3) := by decide +kernel
theorem dX11_readsClause_31 : decode cX11_readsClause 31 = .ok (.bipush 14, 2) := by decide +kernel
theorem dX11_readsClause_33 : decode cX11_readsClause 33 = .ok (.if_icmp .ne 13, 3) := by decide +kernel
theorem dX11_readsClause_36 : decode cX11_readsClause 36 = .ok (.aload_n 0, 1) := by decide +kernel
theorem dX11_readsClause_37 : decode cX11_readsClause 37 = .ok (.iconst 4, 1) := by decide +kernel
theorem dX11_readsClause_38 : decode cX11_readsClause 38 = .ok (.aload_n 0, 1) := by decide +kernel
theorem dX11_readsClause_39 : decode cX11_readsClause 39 = .ok (.getfield 179, 3) := by decide +kernel
theorem dX11_readsClause_42 : decode cX11_readsClause 42 = .ok (.invokevirtual 191, 3) := by decide +kernel
theorem dX11_readsClause_45 : decode cX11_readsClause 45 = .ok (.ireturn, 1) := by decide +kernel
theorem dX11_readsClause_46 : decode cX11_readsClause 46 = .ok (.aload_n 0, 1) := by decide +kernel
theorem dX11_readsClause_47 : decode cX11_readsClause 47 = .ok (.getfield 38, 3) := by decide +kernel
theorem dX11_readsClause_50 : decode cX11_readsClause 50 = .ok (.aload_n 0, 1) := by decide +kernel
theorem dX11_readsClause_51 : decode cX11_readsClause 51 = .ok (.getfield 257, 3) := by decide +kernel
theorem dX11_readsClause_54 : decode cX11_readsClause 54 = .ok (.iload_n 1, 1) := by decide +kernel
theorem dX11_readsClause_55 : decode cX11_readsClause 55 = .ok (.iastore, 1) := by decide +kernel
theorem dX11_readsClause_56 : decode cX11_readsClause 56 = .ok (.aload_n 0, 1) := by decide +kernel
theorem dX11_readsClause_57 : decode cX11_readsClause 57 = .ok (.aload_n 0, 1) := by decide +kernel
theorem dX11_readsClause_58 : decode cX11_readsClause 58 = .ok (.getfield 179, 3) := by decide +kernel
theorem dX11_readsClause_61 : decode cX11_readsClause 61 = .ok (.iconst 1, 1) := by decide +kernel
theorem dX11_readsClause_62 : decode cX11_readsClause 62 = .ok (.iadd, 1) := by decide +kernel
theorem dX11_readsClause_63 : decode cX11_readsClause 63 = .ok (.putfield 179, 3) := by decide +kernel
theorem dX11_readsClause_66 : decode cX11_readsClause 66 = .ok (.aload_n 0, 1) := by decide +kernel
theorem dX11_readsClause_67 : decode cX11_readsClause 67 = .ok (.getfield 41, 3) := by decide +kernel
theorem dX11_readsClause_70 : decode cX11_readsClause 70 = .ok (.aload_n 0, 1) := by decide +kernel
theorem dX11_readsClause_71 : decode cX11_readsClause 71 = .ok (.getfield 257, 3) := by decide +kernel
theorem dX11_readsClause_74 : decode cX11_readsClause 74 = .ok (.aload_n 0, 1) := by decide +kernel
theorem dX11_readsClause_75 : decode cX11_readsClause 75 = .ok (.getfield 202, 3) := by decide +kernel
theorem dX11_readsClause_78 : decode cX11_readsClause 78 = .ok (.iastore, 1) := by decide +kernel
theorem dX11_readsClause_79 : decode cX11_readsClause 79 = .ok (.aload_n 0, 1) := by decide +kernel
theorem dX11_readsClause_80 : decode cX11_readsClause 80 = .ok (.iconst 0, 1) := by decide +kernel
theorem dX11_readsClause_81 : decode cX11_readsClause 81 = .ok (.putfield 206, 3) := by decide +kernel
theorem dX11_readsClause_84 : decode cX11_readsClause 84 = .ok (.aload_n 0, 1) := by decide +kernel
theorem dX11_readsClause_85 : decode cX11_readsClause 85 = .ok (.iconst 0, 1) := by decide +kernel
theorem dX11_readsClause_86 : decode cX11_readsClause 86 = .ok (.putfield 209, 3) := by decide +kernel
theorem dX11_readsClause_89 : decode cX11_readsClause 89 = .ok (.aload_n 0, 1) := by decide +kernel
theorem dX11_readsClause_90 : decode cX11_readsClause 90 = .ok (.invokevirtual 242, 3) := by decide +kernel
theorem dX11_readsClause_93 : decode cX11_readsClause 93 = .ok (.ifCond .ne 5, 3) := by decide +kernel
theorem dX11_readsClause_96 : decode cX11_readsClause 96 = .ok (.iconst 0, 1) := by decide +kernel
theorem dX11_readsClause_97 : decode cX11_readsClause 97 = .ok (.ireturn, 1) := by decide +kernel
theorem dX11_readsClause_98 : decode cX11_readsClause 98 = .ok (.aload_n 0, 1) := by decide +kernel
theorem dX11_readsClause_99 : decode cX11_readsClause 99 = .ok (.getfield 44, 3) := by decide +kernel
theorem dX11_readsClause_102 : decode cX11_readsClause 102 = .ok (.aload_n 0, 1) := by decide +kernel
theorem dX11_readsClause_103 : decode cX11_readsClause 103 = .ok (.getfield 257, 3) := by decide +kernel
theorem dX11_readsClause_106 : decode cX11_readsClause 106 = .ok (.aload_n 0, 1) := by decide +kernel
theorem dX11_readsClause_107 : decode cX11_readsClause 107 = .ok (.getfield 202, 3) := by decide +kernel
theorem dX11_readsClause_110 : decode cX11_readsClause 110 = .ok (.iastore, 1) := by decide +kernel
theorem dX11_readsClause_111 : decode cX11_readsClause 111 = .ok (.aload_n 0, 1) := by decide +kernel
theorem dX11_readsClause_112 : decode cX11_readsClause 112 = .ok (.invokevirtual 260, 3) := by decide +kernel
theorem dX11_readsClause_115 : decode cX11_readsClause 115 = .ok (.ifCond .ne 5, 3) := by decide +kernel
theorem dX11_readsClause_118 : decode cX11_readsClause 118 = .ok (.iconst 0, 1) := by decide +kernel
theorem dX11_readsClause_119 : decode cX11_readsClause 119 = .ok (.ireturn, 1) := by decide +kernel
theorem dX11_readsClause_120 : decode cX11_readsClause 120 = .ok (.aload_n 0, 1) := by decide +kernel
theorem dX11_readsClause_121 : decode cX11_readsClause 121 = .ok (.getfield 47, 3) := by decide +kernel
theorem dX11_readsClause_124 : decode cX11_readsClause 124 = .ok (.aload_n 0, 1) := by decide +kernel
theorem dX11_readsClause_125 : decode cX11_readsClause 125 = .ok (.getfield 257, 3) := by decide +kernel
theorem dX11_readsClause_128 : decode cX11_readsClause 128 = .ok (.aload_n 0, 1) := by decide +kernel
theorem dX11_readsClause_129 : decode cX11_readsClause 129 = .ok (.getfield 202, 3) := by decide +kernel
theorem dX11_readsClause_132 : decode cX11_readsClause 132 = .ok (.iastore, 1) := by decide +kernel
theorem dX11_readsClause_133 : decode cX11_readsClause 133 = .ok (.aload_n 0, 1) := by decide +kernel
theorem dX11_readsClause_134 : decode cX11_readsClause 134 = .ok (.aload_n 0, 1) := by decide +kernel
theorem dX11_readsClause_135 : decode cX11_readsClause 135 = .ok (.getfield 257, 3) := by decide +kernel
theorem dX11_readsClause_138 : decode cX11_readsClause 138 = .ok (.iconst 1, 1) := by decide +kernel
theorem dX11_readsClause_139 : decode cX11_readsClause 139 = .ok (.iadd, 1) := by decide +kernel
theorem dX11_readsClause_140 : decode cX11_readsClause 140 = .ok (.putfield 257, 3) := by decide +kernel
theorem dX11_readsClause_143 : decode cX11_readsClause 143 = .ok (.iconst 1, 1) := by decide +kernel
theorem dX11_readsClause_144 : decode cX11_readsClause 144 = .ok (.ireturn, 1) := by decide +kernel
theorem dX11_law_0 : decode cX11_law 0 = .ok (.iload_n 1, 1) := by decide +kernel
theorem dX11_law_1 : decode cX11_law 1 = .ok (.iconst 1, 1) := by decide +kernel
theorem dX11_law_2 : decode cX11_law 2 = .ok (.sipush 200, 3) := by decide +kernel
theorem dX11_law_5 : decode cX11_law 5 = .ok (.invokestatic 148, 3) := by decide +kernel
theorem dX11_law_8 : decode cX11_law 8 = .ok (.ifCond .eq 11, 3) := by decide +kernel
theorem dX11_law_11 : decode cX11_law 11 = .ok (.iload_n 1, 1) := by decide +kernel
theorem dX11_law_12 : decode cX11_law 12 = .ok (.aload_n 0, 1) := by decide +kernel
theorem dX11_law_13 : decode cX11_law 13 = .ok (.getfield 172, 3) := by decide +kernel
theorem dX11_law_16 : decode cX11_law 16 = .ok (.if_icmp .le 5, 3) := by decide +kernel
theorem dX11_law_19 : decode cX11_law 19 = .ok (.iconst (-1), 1) := by decide +kernel
theorem dX11_law_20 : decode cX11_law 20 = .ok (.ireturn, 1) := by decide +kernel
theorem dX11_law_21 : decode cX11_law 21 = .ok (.aload_n 0, 1) := by decide +kernel
theorem dX11_law_22 : decode cX11_law 22 = .ok (.iconst 0, 1) := by decide +kernel
theorem dX11_law_23 : decode cX11_law 23 = .ok (.putfield 179, 3) := by decide +kernel
theorem dX11_law_26 : decode cX11_law 26 = .ok (.aload_n 0, 1) := by decide +kernel
theorem dX11_law_27 : decode cX11_law 27 = .ok (.iload_n 1, 1) := by decide +kernel
theorem dX11_law_28 : decode cX11_law 28 = .ok (.putfield 182, 3) := by decide +kernel
theorem dX11_law_31 : decode cX11_law 31 = .ok (.aload_n 0, 1) := by decide +kernel
theorem dX11_law_32 : decode cX11_law 32 = .ok (.iconst 0, 1) := by decide +kernel
theorem dX11_law_33 : decode cX11_law 33 = .ok (.putfield 202, 3) := by decide +kernel
theorem dX11_law_36 : decode cX11_law 36 = .ok (.aload_n 0, 1) := by decide +kernel
theorem dX11_law_37 : decode cX11_law 37 = .ok (.iconst 0, 1) := by decide +kernel
theorem dX11_law_38 : decode cX11_law 38 = .ok (.putfield 257, 3) := by decide +kernel
theorem dX11_law_41 : decode cX11_law 41 = .ok (.aload_n 0, 1) := by decide +kernel
theorem dX11_law_42 : decode cX11_law 42 = .ok (.invokevirtual 263, 3) := by decide +kernel
theorem dX11_law_45 : decode cX11_law 45 = .ok (.istore_n 2, 1) := by decide +kernel
theorem dX11_law_46 : decode cX11_law 46 = .ok (.iload_n 2, 1) := by decide +kernel
theorem dX11_law_47 : decode cX11_law 47 = .ok (.ifCond .eq 39, 3) := by decide +kernel
theorem dX11_law_50 : decode cX11_law 50 = .ok (.aload_n 0, 1) := by decide +kernel
theorem dX11_law_51 : decode cX11_law 51 = .ok (.getfield 179, 3) := by decide +kernel
theorem dX11_law_54 : decode cX11_law 54 = .ok (.aload_n 0, 1) := by decide +kernel
theorem dX11_law_55 : decode cX11_law 55 = .ok (.getfield 182, 3) := by decide +kernel
theorem dX11_law_58 : decode cX11_law 58 = .ok (.if_icmp .ge 28, 3) := by decide +kernel
theorem dX11_law_61 : decode cX11_law 61 = .ok (.aload_n 0, 1) := by decide +kernel
theorem dX11_law_62 : decode cX11_law 62 = .ok (.bipush 59, 2) := by decide +kernel
theorem dX11_law_64 : decode cX11_law 64 = .ok (.invokevirtual 266, 3) := by decide +kernel
theorem dX11_law_67 : decode cX11_law 67 = .ok (.ifCond .eq 14, 3) := by decide +kernel
theorem dX11_law_70 : decode cX11_law 70 = .ok (.aload_n 0, 1) := by decide +kernel
theorem dX11_law_71 : decode cX11_law 71 = .ok (.invokevirtual 263, 3) := by decide +kernel
theorem dX11_law_74 : decode cX11_law 74 = .ok (.ifCond .eq 7, 3) := by decide +kernel
theorem dX11_law_77 : decode cX11_law 77 = .ok (.iconst 1, 1) := by decide +kernel
theorem dX11_law_78 : decode cX11_law 78 = .ok (.goto 4, 3) := by decide +kernel
theorem dX11_law_81 : decode cX11_law 81 = .ok (.iconst 0, 1) := by decide +kernel
theorem dX11_law_82 : decode cX11_law 82 = .ok (.istore_n 2, 1) := by decide +kernel
theorem dX11_law_83 : decode cX11_law 83 = .ok (.goto (-37), 3) := by decide +kernel
theorem dX11_law_86 : decode cX11_law 86 = .ok (.aload_n 0, 1) := by decide +kernel
theorem dX11_law_87 : decode cX11_law 87 = .ok (.iconst 0, 1) := by decide +kernel
theorem dX11_law_88 : decode cX11_law 88 = .ok (.putfield 172, 3) := by decide +kernel
theorem dX11_law_91 : decode cX11_law 91 = .ok (.iload_n 2, 1) := by decide +kernel
theorem dX11_law_92 : decode cX11_law 92 = .ok (.ifCond .ne 8, 3) := by decide +kernel
theorem dX11_law_95 : decode cX11_law 95 = .ok (.aload_n 0, 1) := by decide +kernel
theorem dX11_law_96 : decode cX11_law 96 = .ok (.getfield 188, 3) := by decide +kernel
theorem dX11_law_99 : decode cX11_law 99 = .ok (.ireturn, 1) := by decide +kernel
theorem dX11_law_100 : decode cX11_law 100 = .ok (.aload_n 0, 1) := by decide +kernel
theorem dX11_law_101 : decode cX11_law 101 = .ok (.aload_n 0, 1) := by decide +kernel
theorem dX11_law_102 : decode cX11_law 102 = .ok (.getfield 257, 3) := by decide +kernel
theorem dX11_law_105 : decode cX11_law 105 = .ok (.putfield 269, 3) := by decide +kernel
theorem dX11_law_108 : decode cX11_law 108 = .ok (.iconst 0, 1) := by decide +kernel
theorem dX11_law_109 : decode cX11_law 109 = .ok (.istore_n 3, 1) := by decide +kernel
theorem dX11_law_110 : decode cX11_law 110 = .ok (.iload_n 3, 1) := by decide +kernel
theorem dX11_law_111 : decode cX11_law 111 = .ok (.aload_n 0, 1) := by decide +kernel
theorem dX11_law_112 : decode cX11_law 112 = .ok (.getfield 202, 3) := by decide +kernel
theorem dX11_law_115 : decode cX11_law 115 = .ok (.if_icmp .ge 21, 3) := by decide +kernel
theorem dX11_law_118 : decode cX11_law 118 = .ok (.aload_n 0, 1) := by decide +kernel
theorem dX11_law_119 : decode cX11_law 119 = .ok (.getfield 50, 3) := by decide +kernel
theorem dX11_law_122 : decode cX11_law 122 = .ok (.iload_n 3, 1) := by decide +kernel
theorem dX11_law_123 : decode cX11_law 123 = .ok (.aload_n 0, 1) := by decide +kernel
theorem dX11_law_124 : decode cX11_law 124 = .ok (.getfield 32, 3) := by decide +kernel
theorem dX11_law_127 : decode cX11_law 127 = .ok (.iload_n 3, 1) := by decide +kernel
theorem dX11_law_128 : decode cX11_law 128 = .ok (.iaload, 1) := by decide +kernel
theorem dX11_law_129 : decode cX11_law 129 = .ok (.iastore, 1) := by decide +kernel
theorem dX11_law_130 : decode cX11_law 130 = .ok (.iinc 3 1, 3) := by decide +kernel
theorem dX11_law_133 : decode cX11_law 133 = .ok (.goto (-23), 3) := by decide +kernel
theorem dX11_law_136 : decode cX11_law 136 = .ok (.iconst 0, 1) := by decide +kernel
theorem dX11_law_137 : decode cX11_law 137 = .ok (.istore_n 3, 1) := by decide +kernel
theorem dX11_law_138 : decode cX11_law 138 = .ok (.iload_n 3, 1) := by decide +kernel
theorem dX11_law_139 : decode cX11_law 139 = .ok (.aload_n 0, 1) := by decide +kernel
theorem dX11_law_140 : decode cX11_law 140 = .ok (.getfield 257, 3) := by decide +kernel
theorem dX11_law_143 : decode cX11_law 143 = .ok (.if_icmp .ge 57, 3) := by decide +kernel
theorem dX11_law_146 : decode cX11_law 146 = .ok (.aload_n 0, 1) := by decide +kernel
theorem dX11_law_147 : decode cX11_law 147 = .ok (.getfield 53, 3) := by decide +kernel
theorem dX11_law_150 : decode cX11_law 150 = .ok (.iload_n 3, 1) := by decide +kernel
theorem dX11_law_151 : decode cX11_law 151 = .ok (.aload_n 0, 1) := by decide +kernel
theorem dX11_law_152 : decode cX11_law 152 = .ok (.getfield 38, 3) := by decide +kernel
theorem dX11_law_155 : decode cX11_law 155 = .ok (.iload_n 3, 1) := by decide +kernel
theorem dX11_law_156 : decode cX11_law 156 = .ok (.iaload, 1) := by decide +kernel
theorem dX11_law_157 : decode cX11_law 157 = .ok (.iastore, 1) := by decide +kernel
theorem dX11_law_158 : decode cX11_law 158 = .ok (.aload_n 0, 1) := by decide +kernel
theorem dX11_law_159 : decode cX11_law 159 = .ok (.getfield 56, 3) := by decide +kernel
theorem dX11_law_162 : decode cX11_law 162 = .ok (.iload_n 3, 1) := by decide +kernel
theorem dX11_law_163 : decode cX11_law 163 = .ok (.aload_n 0, 1) := by decide +kernel
theorem dX11_law_164 : decode cX11_law 164 = .ok (.getfield 41, 3) := by decide +kernel
theorem dX11_law_167 : decode cX11_law 167 = .ok (.iload_n 3, 1) := by decide +kernel
theorem dX11_law_168 : decode cX11_law 168 = .ok (.iaload, 1) := by decide +kernel
theorem dX11_law_169 : decode cX11_law 169 = .ok (.iastore, 1) := by decide +kernel
theorem dX11_law_170 : decode cX11_law 170 = .ok (.aload_n 0, 1) := by decide +kernel
theorem dX11_law_171 : decode cX11_law 171 = .ok (.getfield 59, 3) := by decide +kernel
theorem dX11_law_174 : decode cX11_law 174 = .ok (.iload_n 3, 1) := by decide +kernel
theorem dX11_law_175 : decode cX11_law 175 = .ok (.aload_n 0, 1) := by decide +kernel
theorem dX11_law_176 : decode cX11_law 176 = .ok (.getfield 44, 3) := by decide +kernel
theorem dX11_law_179 : decode cX11_law 179 = .ok (.iload_n 3, 1) := by decide +kernel
theorem dX11_law_180 : decode cX11_law 180 = .ok (.iaload, 1) := by decide +kernel
theorem dX11_law_181 : decode cX11_law 181 = .ok (.iastore, 1) := by decide +kernel
theorem dX11_law_182 : decode cX11_law 182 = .ok (.aload_n 0, 1) := by decide +kernel
theorem dX11_law_183 : decode cX11_law 183 = .ok (.getfield 62, 3) := by decide +kernel
theorem dX11_law_186 : decode cX11_law 186 = .ok (.iload_n 3, 1) := by decide +kernel
theorem dX11_law_187 : decode cX11_law 187 = .ok (.aload_n 0, 1) := by decide +kernel
theorem dX11_law_188 : decode cX11_law 188 = .ok (.getfield 47, 3) := by decide +kernel
theorem dX11_law_191 : decode cX11_law 191 = .ok (.iload_n 3, 1) := by decide +kernel
theorem dX11_law_192 : decode cX11_law 192 = .ok (.iaload, 1) := by decide +kernel
theorem dX11_law_193 : decode cX11_law 193 = .ok (.iastore, 1) := by decide +kernel
theorem dX11_law_194 : decode cX11_law 194 = .ok (.iinc 3 1, 3) := by decide +kernel
theorem dX11_law_197 : decode cX11_law 197 = .ok (.goto (-59), 3) := by decide +kernel
theorem dX11_law_200 : decode cX11_law 200 = .ok (.aload_n 0, 1) := by decide +kernel
theorem dX11_law_201 : decode cX11_law 201 = .ok (.getfield 257, 3) := by decide +kernel
theorem dX11_law_204 : decode cX11_law 204 = .ok (.ireturn, 1) := by decide +kernel
theorem dX11_reckon_0 : decode cX11_reckon 0 = .ok (.iload_n 0, 1) := by decide +kernel
theorem dX11_reckon_1 : decode cX11_reckon 1 = .ok (.tableswitch 85 2 8 #[43, 47, 51, 55, 59, 63, 74], 43) := by decide +kernel
theorem dX11_reckon_44 : decode cX11_reckon 44 = .ok (.iload_n 1, 1) := by decide +kernel
theorem dX11_reckon_45 : decode cX11_reckon 45 = .ok (.iload_n 2, 1) := by decide +kernel
theorem dX11_reckon_46 : decode cX11_reckon 46 = .ok (.iadd, 1) := by decide +kernel
theorem dX11_reckon_47 : decode cX11_reckon 47 = .ok (.ireturn, 1) := by decide +kernel
theorem dX11_reckon_48 : decode cX11_reckon 48 = .ok (.iload_n 1, 1) := by decide +kernel
theorem dX11_reckon_49 : decode cX11_reckon 49 = .ok (.iload_n 2, 1) := by decide +kernel
theorem dX11_reckon_50 : decode cX11_reckon 50 = .ok (.isub, 1) := by decide +kernel
theorem dX11_reckon_51 : decode cX11_reckon 51 = .ok (.ireturn, 1) := by decide +kernel
theorem dX11_reckon_52 : decode cX11_reckon 52 = .ok (.iload_n 1, 1) := by decide +kernel
theorem dX11_reckon_53 : decode cX11_reckon 53 = .ok (.iload_n 2, 1) := by decide +kernel
theorem dX11_reckon_54 : decode cX11_reckon 54 = .ok (.imul, 1) := by decide +kernel
theorem dX11_reckon_55 : decode cX11_reckon 55 = .ok (.ireturn, 1) := by decide +kernel
theorem dX11_reckon_56 : decode cX11_reckon 56 = .ok (.iload_n 1, 1) := by decide +kernel
theorem dX11_reckon_57 : decode cX11_reckon 57 = .ok (.iload_n 2, 1) := by decide +kernel
theorem dX11_reckon_58 : decode cX11_reckon 58 = .ok (.idiv, 1) := by decide +kernel
theorem dX11_reckon_59 : decode cX11_reckon 59 = .ok (.ireturn, 1) := by decide +kernel
theorem dX11_reckon_60 : decode cX11_reckon 60 = .ok (.iload_n 1, 1) := by decide +kernel
theorem dX11_reckon_61 : decode cX11_reckon 61 = .ok (.iload_n 2, 1) := by decide +kernel
theorem dX11_reckon_62 : decode cX11_reckon 62 = .ok (.irem, 1) := by decide +kernel
theorem dX11_reckon_63 : decode cX11_reckon 63 = .ok (.ireturn, 1) := by decide +kernel
theorem dX11_reckon_64 : decode cX11_reckon 64 = .ok (.iload_n 1, 1) := by decide +kernel
theorem dX11_reckon_65 : decode cX11_reckon 65 = .ok (.iload_n 2, 1) := by decide +kernel
theorem dX11_reckon_66 : decode cX11_reckon 66 = .ok (.if_icmp .ge 7, 3) := by decide +kernel
theorem dX11_reckon_69 : decode cX11_reckon 69 = .ok (.iconst 1, 1) := by decide +kernel
theorem dX11_reckon_70 : decode cX11_reckon 70 = .ok (.goto 4, 3) := by decide +kernel
theorem dX11_reckon_73 : decode cX11_reckon 73 = .ok (.iconst 0, 1) := by decide +kernel
theorem dX11_reckon_74 : decode cX11_reckon 74 = .ok (.ireturn, 1) := by decide +kernel
theorem dX11_reckon_75 : decode cX11_reckon 75 = .ok (.iload_n 1, 1) := by decide +kernel
theorem dX11_reckon_76 : decode cX11_reckon 76 = .ok (.iload_n 2, 1) := by decide +kernel
theorem dX11_reckon_77 : decode cX11_reckon 77 = .ok (.if_icmp .le 7, 3) := by decide +kernel
theorem dX11_reckon_80 : decode cX11_reckon 80 = .ok (.iconst 1, 1) := by decide +kernel
theorem dX11_reckon_81 : decode cX11_reckon 81 = .ok (.goto 4, 3) := by decide +kernel
theorem dX11_reckon_84 : decode cX11_reckon 84 = .ok (.iconst 0, 1) := by decide +kernel
theorem dX11_reckon_85 : decode cX11_reckon 85 = .ok (.ireturn, 1) := by decide +kernel
theorem dX11_reckon_86 : decode cX11_reckon 86 = .ok (.iload_n 1, 1) := by decide +kernel
theorem dX11_reckon_87 : decode cX11_reckon 87 = .ok (.iload_n 2, 1) := by decide +kernel
theorem dX11_reckon_88 : decode cX11_reckon 88 = .ok (.if_icmp .ne 7, 3) := by decide +kernel
theorem dX11_reckon_91 : decode cX11_reckon 91 = .ok (.iconst 1, 1) := by decide +kernel
theorem dX11_reckon_92 : decode cX11_reckon 92 = .ok (.goto 4, 3) := by decide +kernel
theorem dX11_reckon_95 : decode cX11_reckon 95 = .ok (.iconst 0, 1) := by decide +kernel
theorem dX11_reckon_96 : decode cX11_reckon 96 = .ok (.ireturn, 1) := by decide +kernel
theorem dX11_comesTo_0 : decode cX11_comesTo 0 = .ok (.iconst 0, 1) := by decide +kernel
theorem dX11_comesTo_1 : decode cX11_comesTo 1 = .ok (.istore_n 3, 1) := by decide +kernel
theorem dX11_comesTo_2 : decode cX11_comesTo 2 = .ok (.sipush 220, 3) := by decide +kernel
theorem dX11_comesTo_5 : decode cX11_comesTo 5 = .ok (.iload_n 1, 1) := by decide +kernel
theorem dX11_comesTo_6 : decode cX11_comesTo 6 = .ok (.sipush 220, 3) := by decide +kernel
theorem dX11_comesTo_9 : decode cX11_comesTo 9 = .ok (.idiv, 1) := by decide +kernel
theorem dX11_comesTo_10 : decode cX11_comesTo 10 = .ok (.imul, 1) := by decide +kernel
theorem dX11_comesTo_11 : decode cX11_comesTo 11 = .ok (.istore 4, 2) := by decide +kernel
theorem dX11_comesTo_13 : decode cX11_comesTo 13 = .ok (.iload_n 1, 1) := by decide +kernel
theorem dX11_comesTo_14 : decode cX11_comesTo 14 = .ok (.istore 5, 2) := by decide +kernel
theorem dX11_comesTo_16 : decode cX11_comesTo 16 = .ok (.iload 5, 2) := by decide +kernel
theorem dX11_comesTo_18 : decode cX11_comesTo 18 = .ok (.iload_n 2, 1) := by decide +kernel
theorem dX11_comesTo_19 : decode cX11_comesTo 19 = .ok (.if_icmp .ge 214, 3) := by decide +kernel
theorem dX11_comesTo_22 : decode cX11_comesTo 22 = .ok (.aload_n 0, 1) := by decide +kernel
theorem dX11_comesTo_23 : decode cX11_comesTo 23 = .ok (.getfield 50, 3) := by decide +kernel
theorem dX11_comesTo_26 : decode cX11_comesTo 26 = .ok (.iload 5, 2) := by decide +kernel
theorem dX11_comesTo_28 : decode cX11_comesTo 28 = .ok (.iaload, 1) := by decide +kernel
theorem dX11_comesTo_29 : decode cX11_comesTo 29 = .ok (.ldc 205, 2) := by decide +kernel
theorem dX11_comesTo_31 : decode cX11_comesTo 31 = .ok (.idiv, 1) := by decide +kernel
theorem dX11_comesTo_32 : decode cX11_comesTo 32 = .ok (.istore 6, 2) := by decide +kernel
theorem dX11_comesTo_34 : decode cX11_comesTo 34 = .ok (.aload_n 0, 1) := by decide +kernel
theorem dX11_comesTo_35 : decode cX11_comesTo 35 = .ok (.getfield 50, 3) := by decide +kernel
theorem dX11_comesTo_38 : decode cX11_comesTo 38 = .ok (.iload 5, 2) := by decide +kernel
theorem dX11_comesTo_40 : decode cX11_comesTo 40 = .ok (.iaload, 1) := by decide +kernel
theorem dX11_comesTo_41 : decode cX11_comesTo 41 = .ok (.ldc 205, 2) := by decide +kernel
theorem dX11_comesTo_43 : decode cX11_comesTo 43 = .ok (.irem, 1) := by decide +kernel
theorem dX11_comesTo_44 : decode cX11_comesTo 44 = .ok (.istore 7, 2) := by decide +kernel
theorem dX11_comesTo_46 : decode cX11_comesTo 46 = .ok (.iload 5, 2) := by decide +kernel
theorem dX11_comesTo_48 : decode cX11_comesTo 48 = .ok (.iconst 1, 1) := by decide +kernel
theorem dX11_comesTo_49 : decode cX11_comesTo 49 = .ok (.iadd, 1) := by decide +kernel
theorem dX11_comesTo_50 : decode cX11_comesTo 50 = .ok (.istore 5, 2) := by decide +kernel
theorem dX11_comesTo_52 : decode cX11_comesTo 52 = .ok (.iload 6, 2) := by decide +kernel
theorem dX11_comesTo_54 : decode cX11_comesTo 54 = .ok (.ifCond .eq 9, 3) := by decide +kernel
theorem dX11_comesTo_57 : decode cX11_comesTo 57 = .ok (.iload 6, 2) := by decide +kernel
theorem dX11_comesTo_59 : decode cX11_comesTo 59 = .ok (.iconst 1, 1) := by decide +kernel
theorem dX11_comesTo_60 : decode cX11_comesTo 60 = .ok (.if_icmp .ne 33, 3) := by decide +kernel
theorem dX11_comesTo_63 : decode cX11_comesTo 63 = .ok (.aload_n 0, 1) := by decide +kernel
theorem dX11_comesTo_64 : decode cX11_comesTo 64 = .ok (.getfield 65, 3) := by decide +kernel
theorem dX11_comesTo_67 : decode cX11_comesTo 67 = .ok (.iload_n 3, 1) := by decide +kernel
theorem dX11_comesTo_68 : decode cX11_comesTo 68 = .ok (.iload 6, 2) := by decide +kernel
theorem dX11_comesTo_70 : decode cX11_comesTo 70 = .ok (.ifCond .ne 8, 3) := by decide +kernel
theorem dX11_comesTo_73 : decode cX11_comesTo 73 = .ok (.iload 7, 2) := by decide +kernel
theorem dX11_comesTo_75 : decode cX11_comesTo 75 = .ok (.goto 10, 3) := by decide +kernel
theorem dX11_comesTo_78 : decode cX11_comesTo 78 = .ok (.aload_n 0, 1) := by decide +kernel
theorem dX11_comesTo_79 : decode cX11_comesTo 79 = .ok (.getfield 68, 3) := by decide +kernel
theorem dX11_comesTo_82 : decode cX11_comesTo 82 = .ok (.iload 7, 2) := by decide +kernel
theorem dX11_comesTo_84 : decode cX11_comesTo 84 = .ok (.iaload, 1) := by decide +kernel
theorem dX11_comesTo_85 : decode cX11_comesTo 85 = .ok (.iastore, 1) := by decide +kernel
theorem dX11_comesTo_86 : decode cX11_comesTo 86 = .ok (.iload_n 3, 1) := by decide +kernel
theorem dX11_comesTo_87 : decode cX11_comesTo 87 = .ok (.iconst 1, 1) := by decide +kernel
theorem dX11_comesTo_88 : decode cX11_comesTo 88 = .ok (.iadd, 1) := by decide +kernel
theorem dX11_comesTo_89 : decode cX11_comesTo 89 = .ok (.istore_n 3, 1) := by decide +kernel
theorem dX11_comesTo_90 : decode cX11_comesTo 90 = .ok (.goto 140, 3) := by decide +kernel
theorem dX11_comesTo_93 : decode cX11_comesTo 93 = .ok (.iload 6, 2) := by decide +kernel
theorem dX11_comesTo_95 : decode cX11_comesTo 95 = .ok (.bipush 10, 2) := by decide +kernel
theorem dX11_comesTo_97 : decode cX11_comesTo 97 = .ok (.if_icmp .ne 24, 3) := by decide +kernel
theorem dX11_comesTo_100 : decode cX11_comesTo 100 = .ok (.aload_n 0, 1) := by decide +kernel
theorem dX11_comesTo_101 : decode cX11_comesTo 101 = .ok (.getfield 65, 3) := by decide +kernel
theorem dX11_comesTo_104 : decode cX11_comesTo 104 = .ok (.iload_n 3, 1) := by decide +kernel
theorem dX11_comesTo_105 : decode cX11_comesTo 105 = .ok (.iconst 1, 1) := by decide +kernel
theorem dX11_comesTo_106 : decode cX11_comesTo 106 = .ok (.isub, 1) := by decide +kernel
theorem dX11_comesTo_107 : decode cX11_comesTo 107 = .ok (.iconst 1, 1) := by decide +kernel
theorem dX11_comesTo_108 : decode cX11_comesTo 108 = .ok (.aload_n 0, 1) := by decide +kernel
theorem dX11_comesTo_109 : decode cX11_comesTo 109 = .ok (.getfield 65, 3) := by decide +kernel
theorem dX11_comesTo_112 : decode cX11_comesTo 112 = .ok (.iload_n 3, 1) := by decide +kernel
theorem dX11_comesTo_113 : decode cX11_comesTo 113 = .ok (.iconst 1, 1) := by decide +kernel
theorem dX11_comesTo_114 : decode cX11_comesTo 114 = .ok (.isub, 1) := by decide +kernel
theorem dX11_comesTo_115 : decode cX11_comesTo 115 = .ok (.iaload, 1) := by decide +kernel
theorem dX11_comesTo_116 : decode cX11_comesTo 116 = .ok (.isub, 1) := by decide +kernel
theorem dX11_comesTo_117 : decode cX11_comesTo 117 = .ok (.iastore, 1) := by decide +kernel
theorem dX11_comesTo_118 : decode cX11_comesTo 118 = .ok (.goto 112, 3) := by decide +kernel
theorem dX11_comesTo_121 : decode cX11_comesTo 121 = .ok (.iload 6, 2) := by decide +kernel
theorem dX11_comesTo_123 : decode cX11_comesTo 123 = .ok (.bipush 11, 2) := by decide +kernel
theorem dX11_comesTo_125 : decode cX11_comesTo 125 = .ok (.if_icmp .eq 10, 3) := by decide +kernel
theorem dX11_comesTo_128 : decode cX11_comesTo 128 = .ok (.iload 6, 2) := by decide +kernel
theorem dX11_comesTo_130 : decode cX11_comesTo 130 = .ok (.bipush 12, 2) := by decide +kernel
theorem dX11_comesTo_132 : decode cX11_comesTo 132 = .ok (.if_icmp .ne 43, 3) := by decide +kernel
theorem dX11_comesTo_135 : decode cX11_comesTo 135 = .ok (.aload_n 0, 1) := by decide +kernel
theorem dX11_comesTo_136 : decode cX11_comesTo 136 = .ok (.getfield 65, 3) := by decide +kernel
theorem dX11_comesTo_139 : decode cX11_comesTo 139 = .ok (.iload_n 3, 1) := by decide +kernel
theorem dX11_comesTo_140 : decode cX11_comesTo 140 = .ok (.iconst 1, 1) := by decide +kernel
theorem dX11_comesTo_141 : decode cX11_comesTo 141 = .ok (.isub, 1) := by decide +kernel
theorem dX11_comesTo_142 : decode cX11_comesTo 142 = .ok (.iaload, 1) := by decide +kernel
theorem dX11_comesTo_143 : decode cX11_comesTo 143 = .ok (.iload 6, 2) := by decide +kernel
theorem dX11_comesTo_145 : decode cX11_comesTo 145 = .ok (.bipush 12, 2) := by decide +kernel
theorem dX11_comesTo_147 : decode cX11_comesTo 147 = .ok (.if_icmp .ne 7, 3) := by decide +kernel
theorem dX11_comesTo_150 : decode cX11_comesTo 150 = .ok (.iconst 1, 1) := by decide +kernel
theorem dX11_comesTo_151 : decode cX11_comesTo 151 = .ok (.goto 4, 3) := by decide +kernel
theorem dX11_comesTo_154 : decode cX11_comesTo 154 = .ok (.iconst 0, 1) := by decide +kernel
theorem dX11_comesTo_155 : decode cX11_comesTo 155 = .ok (.if_icmp .ne 13, 3) := by decide +kernel
theorem dX11_comesTo_158 : decode cX11_comesTo 158 = .ok (.iload 4, 2) := by decide +kernel
theorem dX11_comesTo_160 : decode cX11_comesTo 160 = .ok (.iload 7, 2) := by decide +kernel
theorem dX11_comesTo_162 : decode cX11_comesTo 162 = .ok (.iadd, 1) := by decide +kernel
theorem dX11_comesTo_163 : decode cX11_comesTo 163 = .ok (.istore 5, 2) := by decide +kernel
theorem dX11_comesTo_165 : decode cX11_comesTo 165 = .ok (.goto 65, 3) := by decide +kernel
theorem dX11_comesTo_168 : decode cX11_comesTo 168 = .ok (.iload_n 3, 1) := by decide +kernel
theorem dX11_comesTo_169 : decode cX11_comesTo 169 = .ok (.iconst 1, 1) := by decide +kernel
theorem dX11_comesTo_170 : decode cX11_comesTo 170 = .ok (.isub, 1) := by decide +kernel
theorem dX11_comesTo_171 : decode cX11_comesTo 171 = .ok (.istore_n 3, 1) := by decide +kernel
theorem dX11_comesTo_172 : decode cX11_comesTo 172 = .ok (.goto 58, 3) := by decide +kernel
theorem dX11_comesTo_175 : decode cX11_comesTo 175 = .ok (.iload_n 3, 1) := by decide +kernel
theorem dX11_comesTo_176 : decode cX11_comesTo 176 = .ok (.iconst 1, 1) := by decide +kernel
theorem dX11_comesTo_177 : decode cX11_comesTo 177 = .ok (.isub, 1) := by decide +kernel
theorem dX11_comesTo_178 : decode cX11_comesTo 178 = .ok (.istore_n 3, 1) := by decide +kernel
theorem dX11_comesTo_179 : decode cX11_comesTo 179 = .ok (.iload 6, 2) := by decide +kernel
theorem dX11_comesTo_181 : decode cX11_comesTo 181 = .ok (.iconst 5, 1) := by decide +kernel
theorem dX11_comesTo_182 : decode cX11_comesTo 182 = .ok (.if_icmp .eq 10, 3) := by decide +kernel
theorem dX11_comesTo_185 : decode cX11_comesTo 185 = .ok (.iload 6, 2) := by decide +kernel
theorem dX11_comesTo_187 : decode cX11_comesTo 187 = .ok (.bipush 6, 2) := by decide +kernel
theorem dX11_comesTo_189 : decode cX11_comesTo 189 = .ok (.if_icmp .ne 14, 3) := by decide +kernel
theorem dX11_comesTo_192 : decode cX11_comesTo 192 = .ok (.aload_n 0, 1) := by decide +kernel
theorem dX11_comesTo_193 : decode cX11_comesTo 193 = .ok (.getfield 65, 3) := by decide +kernel
theorem dX11_comesTo_196 : decode cX11_comesTo 196 = .ok (.iload_n 3, 1) := by decide +kernel
theorem dX11_comesTo_197 : decode cX11_comesTo 197 = .ok (.iaload, 1) := by decide +kernel
theorem dX11_comesTo_198 : decode cX11_comesTo 198 = .ok (.ifCond .ne 5, 3) := by decide +kernel
theorem dX11_comesTo_201 : decode cX11_comesTo 201 = .ok (.iconst 0, 1) := by decide +kernel
theorem dX11_comesTo_202 : decode cX11_comesTo 202 = .ok (.ireturn, 1) := by decide +kernel
theorem dX11_comesTo_203 : decode cX11_comesTo 203 = .ok (.aload_n 0, 1) := by decide +kernel
theorem dX11_comesTo_204 : decode cX11_comesTo 204 = .ok (.getfield 65, 3) := by decide +kernel
theorem dX11_comesTo_207 : decode cX11_comesTo 207 = .ok (.iload_n 3, 1) := by decide +kernel
theorem dX11_comesTo_208 : decode cX11_comesTo 208 = .ok (.iconst 1, 1) := by decide +kernel
theorem dX11_comesTo_209 : decode cX11_comesTo 209 = .ok (.isub, 1) := by decide +kernel
theorem dX11_comesTo_210 : decode cX11_comesTo 210 = .ok (.iload 6, 2) := by decide +kernel
theorem dX11_comesTo_212 : decode cX11_comesTo 212 = .ok (.aload_n 0, 1) := by decide +kernel
theorem dX11_comesTo_213 : decode cX11_comesTo 213 = .ok (.getfield 65, 3) := by decide +kernel
theorem dX11_comesTo_216 : decode cX11_comesTo 216 = .ok (.iload_n 3, 1) := by decide +kernel
theorem dX11_comesTo_217 : decode cX11_comesTo 217 = .ok (.iconst 1, 1) := by decide +kernel
theorem dX11_comesTo_218 : decode cX11_comesTo 218 = .ok (.isub, 1) := by decide +kernel
theorem dX11_comesTo_219 : decode cX11_comesTo 219 = .ok (.iaload, 1) := by decide +kernel
theorem dX11_comesTo_220 : decode cX11_comesTo 220 = .ok (.aload_n 0, 1) := by decide +kernel
theorem dX11_comesTo_221 : decode cX11_comesTo 221 = .ok (.getfield 65, 3) := by decide +kernel
theorem dX11_comesTo_224 : decode cX11_comesTo 224 = .ok (.iload_n 3, 1) := by decide +kernel
theorem dX11_comesTo_225 : decode cX11_comesTo 225 = .ok (.iaload, 1) := by decide +kernel
theorem dX11_comesTo_226 : decode cX11_comesTo 226 = .ok (.invokestatic 272, 3) := by decide +kernel
theorem dX11_comesTo_229 : decode cX11_comesTo 229 = .ok (.iastore, 1) := by decide +kernel
theorem dX11_comesTo_230 : decode cX11_comesTo 230 = .ok (.goto (-214), 3) := by decide +kernel
theorem dX11_comesTo_233 : decode cX11_comesTo 233 = .ok (.aload_n 0, 1) := by decide +kernel
theorem dX11_comesTo_234 : decode cX11_comesTo 234 = .ok (.getfield 65, 3) := by decide +kernel
theorem dX11_comesTo_237 : decode cX11_comesTo 237 = .ok (.iconst 0, 1) := by decide +kernel
theorem dX11_comesTo_238 : decode cX11_comesTo 238 = .ok (.iaload, 1) := by decide +kernel
theorem dX11_comesTo_239 : decode cX11_comesTo 239 = .ok (.ireturn, 1) := by decide +kernel
theorem dX11_byLaw_0 : decode cX11_byLaw 0 = .ok (.iconst 0, 1) := by decide +kernel
theorem dX11_byLaw_1 : decode cX11_byLaw 1 = .ok (.istore_n 3, 1) := by decide +kernel
theorem dX11_byLaw_2 : decode cX11_byLaw 2 = .ok (.iload_n 3, 1) := by decide +kernel
theorem dX11_byLaw_3 : decode cX11_byLaw 3 = .ok (.aload_n 0, 1) := by decide +kernel
theorem dX11_byLaw_4 : decode cX11_byLaw 4 = .ok (.getfield 269, 3) := by decide +kernel
theorem dX11_byLaw_7 : decode cX11_byLaw 7 = .ok (.if_icmp .ge 82, 3) := by decide +kernel
theorem dX11_byLaw_10 : decode cX11_byLaw 10 = .ok (.aload_n 0, 1) := by decide +kernel
theorem dX11_byLaw_11 : decode cX11_byLaw 11 = .ok (.getfield 53, 3) := by decide +kernel
theorem dX11_byLaw_14 : decode cX11_byLaw 14 = .ok (.iload_n 3, 1) := by decide +kernel
theorem dX11_byLaw_15 : decode cX11_byLaw 15 = .ok (.iaload, 1) := by decide +kernel
theorem dX11_byLaw_16 : decode cX11_byLaw 16 = .ok (.iload_n 1, 1) := by decide +kernel
theorem dX11_byLaw_17 : decode cX11_byLaw 17 = .ok (.if_icmp .ne 66, 3) := by decide +kernel
theorem dX11_byLaw_20 : decode cX11_byLaw 20 = .ok (.aload_n 0, 1) := by decide +kernel
theorem dX11_byLaw_21 : decode cX11_byLaw 21 = .ok (.aload_n 0, 1) := by decide +kernel
theorem dX11_byLaw_22 : decode cX11_byLaw 22 = .ok (.getfield 59, 3) := by decide +kernel
theorem dX11_byLaw_25 : decode cX11_byLaw 25 = .ok (.iload_n 3, 1) := by decide +kernel
theorem dX11_byLaw_26 : decode cX11_byLaw 26 = .ok (.iaload, 1) := by decide +kernel
theorem dX11_byLaw_27 : decode cX11_byLaw 27 = .ok (.aload_n 0, 1) := by decide +kernel
theorem dX11_byLaw_28 : decode cX11_byLaw 28 = .ok (.getfield 62, 3) := by decide +kernel
theorem dX11_byLaw_31 : decode cX11_byLaw 31 = .ok (.iload_n 3, 1) := by decide +kernel
theorem dX11_byLaw_32 : decode cX11_byLaw 32 = .ok (.iaload, 1) := by decide +kernel
theorem dX11_byLaw_33 : decode cX11_byLaw 33 = .ok (.invokevirtual 276, 3) := by decide +kernel
theorem dX11_byLaw_36 : decode cX11_byLaw 36 = .ok (.iconst 1, 1) := by decide +kernel
theorem dX11_byLaw_37 : decode cX11_byLaw 37 = .ok (.if_icmp .eq 6, 3) := by decide +kernel
theorem dX11_byLaw_40 : decode cX11_byLaw 40 = .ok (.goto 43, 3) := by decide +kernel
theorem dX11_byLaw_43 : decode cX11_byLaw 43 = .ok (.aload_n 0, 1) := by decide +kernel
theorem dX11_byLaw_44 : decode cX11_byLaw 44 = .ok (.aload_n 0, 1) := by decide +kernel
theorem dX11_byLaw_45 : decode cX11_byLaw 45 = .ok (.getfield 56, 3) := by decide +kernel
theorem dX11_byLaw_48 : decode cX11_byLaw 48 = .ok (.iload_n 3, 1) := by decide +kernel
theorem dX11_byLaw_49 : decode cX11_byLaw 49 = .ok (.iaload, 1) := by decide +kernel
theorem dX11_byLaw_50 : decode cX11_byLaw 50 = .ok (.aload_n 0, 1) := by decide +kernel
theorem dX11_byLaw_51 : decode cX11_byLaw 51 = .ok (.getfield 59, 3) := by decide +kernel
theorem dX11_byLaw_54 : decode cX11_byLaw 54 = .ok (.iload_n 3, 1) := by decide +kernel
theorem dX11_byLaw_55 : decode cX11_byLaw 55 = .ok (.iaload, 1) := by decide +kernel
theorem dX11_byLaw_56 : decode cX11_byLaw 56 = .ok (.invokevirtual 276, 3) := by decide +kernel
theorem dX11_byLaw_59 : decode cX11_byLaw 59 = .ok (.istore 4, 2) := by decide +kernel
theorem dX11_byLaw_61 : decode cX11_byLaw 61 = .ok (.iload 4, 2) := by decide +kernel
theorem dX11_byLaw_63 : decode cX11_byLaw 63 = .ok (.ifCond .ge 7, 3) := by decide +kernel
theorem dX11_byLaw_66 : decode cX11_byLaw 66 = .ok (.iconst 0, 1) := by decide +kernel
theorem dX11_byLaw_67 : decode cX11_byLaw 67 = .ok (.goto 15, 3) := by decide +kernel
theorem dX11_byLaw_70 : decode cX11_byLaw 70 = .ok (.iload 4, 2) := by decide +kernel
theorem dX11_byLaw_72 : decode cX11_byLaw 72 = .ok (.iload_n 2, 1) := by decide +kernel
theorem dX11_byLaw_73 : decode cX11_byLaw 73 = .ok (.if_icmp .le 7, 3) := by decide +kernel
theorem dX11_byLaw_76 : decode cX11_byLaw 76 = .ok (.iload_n 2, 1) := by decide +kernel
theorem dX11_byLaw_77 : decode cX11_byLaw 77 = .ok (.goto 5, 3) := by decide +kernel
theorem dX11_byLaw_80 : decode cX11_byLaw 80 = .ok (.iload 4, 2) := by decide +kernel
theorem dX11_byLaw_82 : decode cX11_byLaw 82 = .ok (.ireturn, 1) := by decide +kernel
theorem dX11_byLaw_83 : decode cX11_byLaw 83 = .ok (.iinc 3 1, 3) := by decide +kernel
theorem dX11_byLaw_86 : decode cX11_byLaw 86 = .ok (.goto (-84), 3) := by decide +kernel
theorem dX11_byLaw_89 : decode cX11_byLaw 89 = .ok (.iconst 0, 1) := by decide +kernel
theorem dX11_byLaw_90 : decode cX11_byLaw 90 = .ok (.ireturn, 1) := by decide +kernel
theorem dX11_thinks_0 : decode cX11_thinks 0 = .ok (.aload_n 0, 1) := by decide +kernel
theorem dX11_thinks_1 : decode cX11_thinks 1 = .ok (.getfield 68, 3) := by decide +kernel
theorem dX11_thinks_4 : decode cX11_thinks 4 = .ok (.iconst 0, 1) := by decide +kernel
theorem dX11_thinks_5 : decode cX11_thinks 5 = .ok (.iload_n 2, 1) := by decide +kernel
theorem dX11_thinks_6 : decode cX11_thinks 6 = .ok (.iastore, 1) := by decide +kernel
theorem dX11_thinks_7 : decode cX11_thinks 7 = .ok (.aload_n 0, 1) := by decide +kernel
theorem dX11_thinks_8 : decode cX11_thinks 8 = .ok (.getfield 68, 3) := by decide +kernel
theorem dX11_thinks_11 : decode cX11_thinks 11 = .ok (.iconst 1, 1) := by decide +kernel
theorem dX11_thinks_12 : decode cX11_thinks 12 = .ok (.aload_n 0, 1) := by decide +kernel
theorem dX11_thinks_13 : decode cX11_thinks 13 = .ok (.getfield 7, 3) := by decide +kernel
theorem dX11_thinks_16 : decode cX11_thinks 16 = .ok (.iload_n 3, 1) := by decide +kernel
theorem dX11_thinks_17 : decode cX11_thinks 17 = .ok (.iaload, 1) := by decide +kernel
theorem dX11_thinks_18 : decode cX11_thinks 18 = .ok (.iastore, 1) := by decide +kernel
theorem dX11_thinks_19 : decode cX11_thinks 19 = .ok (.aload_n 0, 1) := by decide +kernel
theorem dX11_thinks_20 : decode cX11_thinks 20 = .ok (.getfield 68, 3) := by decide +kernel
theorem dX11_thinks_23 : decode cX11_thinks 23 = .ok (.iconst 2, 1) := by decide +kernel
theorem dX11_thinks_24 : decode cX11_thinks 24 = .ok (.iload 4, 2) := by decide +kernel
theorem dX11_thinks_26 : decode cX11_thinks 26 = .ok (.iastore, 1) := by decide +kernel
theorem dX11_thinks_27 : decode cX11_thinks 27 = .ok (.aload_n 0, 1) := by decide +kernel
theorem dX11_thinks_28 : decode cX11_thinks 28 = .ok (.getfield 68, 3) := by decide +kernel
theorem dX11_thinks_31 : decode cX11_thinks 31 = .ok (.iconst 3, 1) := by decide +kernel
theorem dX11_thinks_32 : decode cX11_thinks 32 = .ok (.iload_n 3, 1) := by decide +kernel
theorem dX11_thinks_33 : decode cX11_thinks 33 = .ok (.iastore, 1) := by decide +kernel
theorem dX11_thinks_34 : decode cX11_thinks 34 = .ok (.aload_n 0, 1) := by decide +kernel
theorem dX11_thinks_35 : decode cX11_thinks 35 = .ok (.getfield 68, 3) := by decide +kernel
theorem dX11_thinks_38 : decode cX11_thinks 38 = .ok (.iconst 4, 1) := by decide +kernel
theorem dX11_thinks_39 : decode cX11_thinks 39 = .ok (.iload_n 1, 1) := by decide +kernel
theorem dX11_thinks_40 : decode cX11_thinks 40 = .ok (.iastore, 1) := by decide +kernel
theorem dX11_thinks_41 : decode cX11_thinks 41 = .ok (.aload_n 0, 1) := by decide +kernel
theorem dX11_thinks_42 : decode cX11_thinks 42 = .ok (.getfield 68, 3) := by decide +kernel
theorem dX11_thinks_45 : decode cX11_thinks 45 = .ok (.iconst 5, 1) := by decide +kernel
theorem dX11_thinks_46 : decode cX11_thinks 46 = .ok (.aload_n 0, 1) := by decide +kernel
theorem dX11_thinks_47 : decode cX11_thinks 47 = .ok (.getfield 141, 3) := by decide +kernel
theorem dX11_thinks_50 : decode cX11_thinks 50 = .ok (.iastore, 1) := by decide +kernel
theorem dX11_thinks_51 : decode cX11_thinks 51 = .ok (.aload_n 0, 1) := by decide +kernel
theorem dX11_thinks_52 : decode cX11_thinks 52 = .ok (.getfield 68, 3) := by decide +kernel
theorem dX11_thinks_55 : decode cX11_thinks 55 = .ok (.bipush 6, 2) := by decide +kernel
theorem dX11_thinks_57 : decode cX11_thinks 57 = .ok (.aload_n 0, 1) := by decide +kernel
theorem dX11_thinks_58 : decode cX11_thinks 58 = .ok (.getfield 159, 3) := by decide +kernel
theorem dX11_thinks_61 : decode cX11_thinks 61 = .ok (.iastore, 1) := by decide +kernel
theorem dX11_thinks_62 : decode cX11_thinks 62 = .ok (.aload_n 0, 1) := by decide +kernel
theorem dX11_thinks_63 : decode cX11_thinks 63 = .ok (.getfield 68, 3) := by decide +kernel
theorem dX11_thinks_66 : decode cX11_thinks 66 = .ok (.bipush 7, 2) := by decide +kernel
theorem dX11_thinks_68 : decode cX11_thinks 68 = .ok (.aload_n 0, 1) := by decide +kernel
theorem dX11_thinks_69 : decode cX11_thinks 69 = .ok (.getfield 22, 3) := by decide +kernel
theorem dX11_thinks_72 : decode cX11_thinks 72 = .ok (.iload_n 1, 1) := by decide +kernel
theorem dX11_thinks_73 : decode cX11_thinks 73 = .ok (.iaload, 1) := by decide +kernel
theorem dX11_thinks_74 : decode cX11_thinks 74 = .ok (.iastore, 1) := by decide +kernel
theorem dX11_thinks_75 : decode cX11_thinks 75 = .ok (.aload_n 0, 1) := by decide +kernel
theorem dX11_thinks_76 : decode cX11_thinks 76 = .ok (.aload_n 0, 1) := by decide +kernel
theorem dX11_thinks_77 : decode cX11_thinks 77 = .ok (.bipush 115, 2) := by decide +kernel
theorem dX11_thinks_79 : decode cX11_thinks 79 = .ok (.bipush 8, 2) := by decide +kernel
theorem dX11_thinks_81 : decode cX11_thinks 81 = .ok (.invokevirtual 279, 3) := by decide +kernel
theorem dX11_thinks_84 : decode cX11_thinks 84 = .ok (.putfield 282, 3) := by decide +kernel
theorem dX11_thinks_87 : decode cX11_thinks 87 = .ok (.aload_n 0, 1) := by decide +kernel
theorem dX11_thinks_88 : decode cX11_thinks 88 = .ok (.aload_n 0, 1) := by decide +kernel
theorem dX11_thinks_89 : decode cX11_thinks 89 = .ok (.bipush 101, 2) := by decide +kernel
theorem dX11_thinks_91 : decode cX11_thinks 91 = .ok (.bipush 8, 2) := by decide +kernel
theorem dX11_thinks_93 : decode cX11_thinks 93 = .ok (.aload_n 0, 1) := by decide +kernel
theorem dX11_thinks_94 : decode cX11_thinks 94 = .ok (.getfield 282, 3) := by decide +kernel
theorem dX11_thinks_97 : decode cX11_thinks 97 = .ok (.isub, 1) := by decide +kernel
theorem dX11_thinks_98 : decode cX11_thinks 98 = .ok (.invokevirtual 279, 3) := by decide +kernel
theorem dX11_thinks_101 : decode cX11_thinks 101 = .ok (.putfield 285, 3) := by decide +kernel
theorem dX11_thinks_104 : decode cX11_thinks 104 = .ok (.return_, 1) := by decide +kernel
theorem dX11_chance_0 : decode cX11_chance 0 = .ok (.aload_n 0, 1) := by decide +kernel
theorem dX11_chance_1 : decode cX11_chance 1 = .ok (.iload_n 1, 1) := by decide +kernel
theorem dX11_chance_2 : decode cX11_chance 2 = .ok (.invokevirtual 144, 3) := by decide +kernel
theorem dX11_chance_5 : decode cX11_chance 5 = .ok (.ifCond .eq 30, 3) := by decide +kernel
theorem dX11_chance_8 : decode cX11_chance 8 = .ok (.aload_n 0, 1) := by decide +kernel
theorem dX11_chance_9 : decode cX11_chance 9 = .ok (.iload_n 2, 1) := by decide +kernel
theorem dX11_chance_10 : decode cX11_chance 10 = .ok (.invokevirtual 166, 3) := by decide +kernel
theorem dX11_chance_13 : decode cX11_chance 13 = .ok (.ifCond .eq 22, 3) := by decide +kernel
theorem dX11_chance_16 : decode cX11_chance 16 = .ok (.iload_n 3, 1) := by decide +kernel
theorem dX11_chance_17 : decode cX11_chance 17 = .ok (.iconst 0, 1) := by decide +kernel
theorem dX11_chance_18 : decode cX11_chance 18 = .ok (.iconst 5, 1) := by decide +kernel
theorem dX11_chance_19 : decode cX11_chance 19 = .ok (.invokestatic 148, 3) := by decide +kernel
theorem dX11_chance_22 : decode cX11_chance 22 = .ok (.ifCond .eq 13, 3) := by decide +kernel
theorem dX11_chance_25 : decode cX11_chance 25 = .ok (.iload 4, 2) := by decide +kernel
theorem dX11_chance_27 : decode cX11_chance 27 = .ok (.iconst 0, 1) := by decide +kernel
theorem dX11_chance_28 : decode cX11_chance 28 = .ok (.iconst 1, 1) := by decide +kernel
theorem dX11_chance_29 : decode cX11_chance 29 = .ok (.invokestatic 148, 3) := by decide +kernel
theorem dX11_chance_32 : decode cX11_chance 32 = .ok (.ifCond .ne 5, 3) := by decide +kernel
theorem dX11_chance_35 : decode cX11_chance 35 = .ok (.iconst (-1), 1) := by decide +kernel
theorem dX11_chance_36 : decode cX11_chance 36 = .ok (.ireturn, 1) := by decide +kernel
theorem dX11_chance_37 : decode cX11_chance 37 = .ok (.aload_n 0, 1) := by decide +kernel
theorem dX11_chance_38 : decode cX11_chance 38 = .ok (.iload_n 1, 1) := by decide +kernel
theorem dX11_chance_39 : decode cX11_chance 39 = .ok (.aload_n 0, 1) := by decide +kernel
theorem dX11_chance_40 : decode cX11_chance 40 = .ok (.getfield 19, 3) := by decide +kernel
theorem dX11_chance_43 : decode cX11_chance 43 = .ok (.iload_n 1, 1) := by decide +kernel
theorem dX11_chance_44 : decode cX11_chance 44 = .ok (.iaload, 1) := by decide +kernel
theorem dX11_chance_45 : decode cX11_chance 45 = .ok (.iload_n 2, 1) := by decide +kernel
theorem dX11_chance_46 : decode cX11_chance 46 = .ok (.iload_n 3, 1) := by decide +kernel
theorem dX11_chance_47 : decode cX11_chance 47 = .ok (.invokevirtual 288, 3) := by decide +kernel
theorem dX11_chance_50 : decode cX11_chance 50 = .ok (.iload 4, 2) := by decide +kernel
theorem dX11_chance_52 : decode cX11_chance 52 = .ok (.ifCond .ne 10, 3) := by decide +kernel
theorem dX11_chance_55 : decode cX11_chance 55 = .ok (.aload_n 0, 1) := by decide +kernel
theorem dX11_chance_56 : decode cX11_chance 56 = .ok (.getfield 282, 3) := by decide +kernel
theorem dX11_chance_59 : decode cX11_chance 59 = .ok (.goto 7, 3) := by decide +kernel
theorem dX11_chance_62 : decode cX11_chance 62 = .ok (.aload_n 0, 1) := by decide +kernel
theorem dX11_chance_63 : decode cX11_chance 63 = .ok (.getfield 285, 3) := by decide +kernel
theorem dX11_chance_66 : decode cX11_chance 66 = .ok (.ireturn, 1) := by decide +kernel
theorem dX11_more_0 : decode cX11_more 0 = .ok (.iload_n 0, 1) := by decide +kernel
theorem dX11_more_1 : decode cX11_more 1 = .ok (.iconst 5, 1) := by decide +kernel
theorem dX11_more_2 : decode cX11_more 2 = .ok (.if_icmp .ge 9, 3) := by decide +kernel
theorem dX11_more_5 : decode cX11_more 5 = .ok (.iload_n 0, 1) := by decide +kernel
theorem dX11_more_6 : decode cX11_more 6 = .ok (.iconst 1, 1) := by decide +kernel
theorem dX11_more_7 : decode cX11_more 7 = .ok (.iadd, 1) := by decide +kernel
theorem dX11_more_8 : decode cX11_more 8 = .ok (.goto 4, 3) := by decide +kernel
theorem dX11_more_11 : decode cX11_more 11 = .ok (.iconst 5, 1) := by decide +kernel
theorem dX11_more_12 : decode cX11_more 12 = .ok (.ireturn, 1) := by decide +kernel
theorem dX11_goesOn_0 : decode cX11_goesOn 0 = .ok (.iload_n 0, 1) := by decide +kernel
theorem dX11_goesOn_1 : decode cX11_goesOn 1 = .ok (.bipush 16, 2) := by decide +kernel
theorem dX11_goesOn_3 : decode cX11_goesOn 3 = .ok (.idiv, 1) := by decide +kernel
theorem dX11_goesOn_4 : decode cX11_goesOn 4 = .ok (.istore_n 2, 1) := by decide +kernel
theorem dX11_goesOn_5 : decode cX11_goesOn 5 = .ok (.iload_n 0, 1) := by decide +kernel
theorem dX11_goesOn_6 : decode cX11_goesOn 6 = .ok (.bipush 16, 2) := by decide +kernel
theorem dX11_goesOn_8 : decode cX11_goesOn 8 = .ok (.irem, 1) := by decide +kernel
theorem dX11_goesOn_9 : decode cX11_goesOn 9 = .ok (.istore_n 3, 1) := by decide +kernel
theorem dX11_goesOn_10 : decode cX11_goesOn 10 = .ok (.iload_n 3, 1) := by decide +kernel
theorem dX11_goesOn_11 : decode cX11_goesOn 11 = .ok (.bipush 6, 2) := by decide +kernel
theorem dX11_goesOn_13 : decode cX11_goesOn 13 = .ok (.if_icmp .ne 24, 3) := by decide +kernel
theorem dX11_goesOn_16 : decode cX11_goesOn 16 = .ok (.iload_n 2, 1) := by decide +kernel
theorem dX11_goesOn_17 : decode cX11_goesOn 17 = .ok (.iconst 1, 1) := by decide +kernel
theorem dX11_goesOn_18 : decode cX11_goesOn 18 = .ok (.iadd, 1) := by decide +kernel
theorem dX11_goesOn_19 : decode cX11_goesOn 19 = .ok (.iload_n 1, 1) := by decide +kernel
theorem dX11_goesOn_20 : decode cX11_goesOn 20 = .ok (.if_icmp .ne 10, 3) := by decide +kernel
theorem dX11_goesOn_23 : decode cX11_goesOn 23 = .ok (.bipush 16, 2) := by decide +kernel
theorem dX11_goesOn_25 : decode cX11_goesOn 25 = .ok (.iload_n 1, 1) := by decide +kernel
theorem dX11_goesOn_26 : decode cX11_goesOn 26 = .ok (.imul, 1) := by decide +kernel
theorem dX11_goesOn_27 : decode cX11_goesOn 27 = .ok (.goto 9, 3) := by decide +kernel
theorem dX11_goesOn_30 : decode cX11_goesOn 30 = .ok (.bipush 16, 2) := by decide +kernel
theorem dX11_goesOn_32 : decode cX11_goesOn 32 = .ok (.iload_n 2, 1) := by decide +kernel
theorem dX11_goesOn_33 : decode cX11_goesOn 33 = .ok (.iconst 1, 1) := by decide +kernel
theorem dX11_goesOn_34 : decode cX11_goesOn 34 = .ok (.iadd, 1) := by decide +kernel
theorem dX11_goesOn_35 : decode cX11_goesOn 35 = .ok (.imul, 1) := by decide +kernel
theorem dX11_goesOn_36 : decode cX11_goesOn 36 = .ok (.ireturn, 1) := by decide +kernel
theorem dX11_goesOn_37 : decode cX11_goesOn 37 = .ok (.iload_n 3, 1) := by decide +kernel
theorem dX11_goesOn_38 : decode cX11_goesOn 38 = .ok (.bipush 12, 2) := by decide +kernel
theorem dX11_goesOn_40 : decode cX11_goesOn 40 = .ok (.if_icmp .ne 8, 3) := by decide +kernel
theorem dX11_goesOn_43 : decode cX11_goesOn 43 = .ok (.bipush 16, 2) := by decide +kernel
theorem dX11_goesOn_45 : decode cX11_goesOn 45 = .ok (.iload_n 2, 1) := by decide +kernel
theorem dX11_goesOn_46 : decode cX11_goesOn 46 = .ok (.imul, 1) := by decide +kernel
theorem dX11_goesOn_47 : decode cX11_goesOn 47 = .ok (.ireturn, 1) := by decide +kernel
theorem dX11_goesOn_48 : decode cX11_goesOn 48 = .ok (.iload_n 0, 1) := by decide +kernel
theorem dX11_goesOn_49 : decode cX11_goesOn 49 = .ok (.iconst 1, 1) := by decide +kernel
theorem dX11_goesOn_50 : decode cX11_goesOn 50 = .ok (.isub, 1) := by decide +kernel
theorem dX11_goesOn_51 : decode cX11_goesOn 51 = .ok (.ireturn, 1) := by decide +kernel
theorem dX11_steps_0 : decode cX11_steps 0 = .ok (.iconst 0, 1) := by decide +kernel
theorem dX11_steps_1 : decode cX11_steps 1 = .ok (.istore 4, 2) := by decide +kernel
theorem dX11_steps_3 : decode cX11_steps 3 = .ok (.iload 4, 2) := by decide +kernel
theorem dX11_steps_5 : decode cX11_steps 5 = .ok (.bipush 16, 2) := by decide +kernel
theorem dX11_steps_7 : decode cX11_steps 7 = .ok (.iload_n 3, 1) := by decide +kernel
theorem dX11_steps_8 : decode cX11_steps 8 = .ok (.imul, 1) := by decide +kernel
theorem dX11_steps_9 : decode cX11_steps 9 = .ok (.if_icmp .gt 17, 3) := by decide +kernel
theorem dX11_steps_12 : decode cX11_steps 12 = .ok (.aload_n 0, 1) := by decide +kernel
theorem dX11_steps_13 : decode cX11_steps 13 = .ok (.getfield 75, 3) := by decide +kernel
theorem dX11_steps_16 : decode cX11_steps 16 = .ok (.iload 4, 2) := by decide +kernel
theorem dX11_steps_18 : decode cX11_steps 18 = .ok (.lconst 0, 1) := by decide +kernel
theorem dX11_steps_19 : decode cX11_steps 19 = .ok (.lastore, 1) := by decide +kernel
theorem dX11_steps_20 : decode cX11_steps 20 = .ok (.iinc 4 1, 3) := by decide +kernel
theorem dX11_steps_23 : decode cX11_steps 23 = .ok (.goto (-20), 3) := by decide +kernel
theorem dX11_steps_26 : decode cX11_steps 26 = .ok (.iconst 0, 1) := by decide +kernel
theorem dX11_steps_27 : decode cX11_steps 27 = .ok (.istore 4, 2) := by decide +kernel
theorem dX11_steps_29 : decode cX11_steps 29 = .ok (.iload 4, 2) := by decide +kernel
theorem dX11_steps_31 : decode cX11_steps 31 = .ok (.bipush 16, 2) := by decide +kernel
theorem dX11_steps_33 : decode cX11_steps 33 = .ok (.iload_n 3, 1) := by decide +kernel
theorem dX11_steps_34 : decode cX11_steps 34 = .ok (.imul, 1) := by decide +kernel
theorem dX11_steps_35 : decode cX11_steps 35 = .ok (.if_icmp .ge 228, 3) := by decide +kernel
theorem dX11_steps_38 : decode cX11_steps 38 = .ok (.aload_n 0, 1) := by decide +kernel
theorem dX11_steps_39 : decode cX11_steps 39 = .ok (.getfield 71, 3) := by decide +kernel
theorem dX11_steps_42 : decode cX11_steps 42 = .ok (.iload 4, 2) := by decide +kernel
theorem dX11_steps_44 : decode cX11_steps 44 = .ok (.laload, 1) := by decide +kernel
theorem dX11_steps_45 : decode cX11_steps 45 = .ok (.lconst 0, 1) := by decide +kernel
theorem dX11_steps_46 : decode cX11_steps 46 = .ok (.lcmp, 1) := by decide +kernel
theorem dX11_steps_47 : decode cX11_steps 47 = .ok (.ifCond .ne 6, 3) := by decide +kernel
theorem dX11_steps_50 : decode cX11_steps 50 = .ok (.goto 207, 3) := by decide +kernel
theorem dX11_steps_53 : decode cX11_steps 53 = .ok (.iload 4, 2) := by decide +kernel
theorem dX11_steps_55 : decode cX11_steps 55 = .ok (.bipush 16, 2) := by decide +kernel
theorem dX11_steps_57 : decode cX11_steps 57 = .ok (.idiv, 1) := by decide +kernel
theorem dX11_steps_58 : decode cX11_steps 58 = .ok (.istore 5, 2) := by decide +kernel
theorem dX11_steps_60 : decode cX11_steps 60 = .ok (.iload 4, 2) := by decide +kernel
theorem dX11_steps_62 : decode cX11_steps 62 = .ok (.bipush 16, 2) := by decide +kernel
theorem dX11_steps_64 : decode cX11_steps 64 = .ok (.irem, 1) := by decide +kernel
theorem dX11_steps_65 : decode cX11_steps 65 = .ok (.istore 6, 2) := by decide +kernel
theorem dX11_steps_67 : decode cX11_steps 67 = .ok (.iload 6, 2) := by decide +kernel
theorem dX11_steps_69 : decode cX11_steps 69 = .ok (.iconst 5, 1) := by decide +kernel
theorem dX11_steps_70 : decode cX11_steps 70 = .ok (.if_icmp .le 40, 3) := by decide +kernel
theorem dX11_steps_73 : decode cX11_steps 73 = .ok (.iload 4, 2) := by decide +kernel
theorem dX11_steps_75 : decode cX11_steps 75 = .ok (.iload_n 3, 1) := by decide +kernel
theorem dX11_steps_76 : decode cX11_steps 76 = .ok (.invokestatic 292, 3) := by decide +kernel
theorem dX11_steps_79 : decode cX11_steps 79 = .ok (.istore 7, 2) := by decide +kernel
theorem dX11_steps_81 : decode cX11_steps 81 = .ok (.aload_n 0, 1) := by decide +kernel
theorem dX11_steps_82 : decode cX11_steps 82 = .ok (.getfield 75, 3) := by decide +kernel
theorem dX11_steps_85 : decode cX11_steps 85 = .ok (.iload 7, 2) := by decide +kernel
theorem dX11_steps_87 : decode cX11_steps 87 = .ok (.aload_n 0, 1) := by decide +kernel
theorem dX11_steps_88 : decode cX11_steps 88 = .ok (.getfield 75, 3) := by decide +kernel
theorem dX11_steps_91 : decode cX11_steps 91 = .ok (.iload 7, 2) := by decide +kernel
theorem dX11_steps_93 : decode cX11_steps 93 = .ok (.laload, 1) := by decide +kernel
theorem dX11_steps_94 : decode cX11_steps 94 = .ok (.ldc2_w 295, 3) := by decide +kernel
theorem dX11_steps_97 : decode cX11_steps 97 = .ok (.aload_n 0, 1) := by decide +kernel
theorem dX11_steps_98 : decode cX11_steps 98 = .ok (.getfield 71, 3) := by decide +kernel
theorem dX11_steps_101 : decode cX11_steps 101 = .ok (.iload 4, 2) := by decide +kernel
theorem dX11_steps_103 : decode cX11_steps 103 = .ok (.laload, 1) := by decide +kernel
theorem dX11_steps_104 : decode cX11_steps 104 = .ok (.lmul, 1) := by decide +kernel
theorem dX11_steps_105 : decode cX11_steps 105 = .ok (.ladd, 1) := by decide +kernel
theorem dX11_steps_106 : decode cX11_steps 106 = .ok (.lastore, 1) := by decide +kernel
theorem dX11_steps_107 : decode cX11_steps 107 = .ok (.goto 150, 3) := by decide +kernel
theorem dX11_steps_110 : decode cX11_steps 110 = .ok (.aload_n 0, 1) := by decide +kernel
theorem dX11_steps_111 : decode cX11_steps 111 = .ok (.iload_n 1, 1) := by decide +kernel
theorem dX11_steps_112 : decode cX11_steps 112 = .ok (.iload_n 2, 1) := by decide +kernel
theorem dX11_steps_113 : decode cX11_steps 113 = .ok (.iload 5, 2) := by decide +kernel
theorem dX11_steps_115 : decode cX11_steps 115 = .ok (.iload 6, 2) := by decide +kernel
theorem dX11_steps_117 : decode cX11_steps 117 = .ok (.invokevirtual 288, 3) := by decide +kernel
theorem dX11_steps_120 : decode cX11_steps 120 = .ok (.bipush 16, 2) := by decide +kernel
theorem dX11_steps_122 : decode cX11_steps 122 = .ok (.iload 5, 2) := by decide +kernel
theorem dX11_steps_124 : decode cX11_steps 124 = .ok (.imul, 1) := by decide +kernel
theorem dX11_steps_125 : decode cX11_steps 125 = .ok (.iconst 5, 1) := by decide +kernel
theorem dX11_steps_126 : decode cX11_steps 126 = .ok (.iadd, 1) := by decide +kernel
theorem dX11_steps_127 : decode cX11_steps 127 = .ok (.aload_n 0, 1) := by decide +kernel
theorem dX11_steps_128 : decode cX11_steps 128 = .ok (.iload_n 1, 1) := by decide +kernel
theorem dX11_steps_129 : decode cX11_steps 129 = .ok (.iload 5, 2) := by decide +kernel
theorem dX11_steps_131 : decode cX11_steps 131 = .ok (.invokevirtual 169, 3) := by decide +kernel
theorem dX11_steps_134 : decode cX11_steps 134 = .ok (.iadd, 1) := by decide +kernel
theorem dX11_steps_135 : decode cX11_steps 135 = .ok (.istore 7, 2) := by decide +kernel
theorem dX11_steps_137 : decode cX11_steps 137 = .ok (.bipush 16, 2) := by decide +kernel
theorem dX11_steps_139 : decode cX11_steps 139 = .ok (.iload 5, 2) := by decide +kernel
theorem dX11_steps_141 : decode cX11_steps 141 = .ok (.imul, 1) := by decide +kernel
theorem dX11_steps_142 : decode cX11_steps 142 = .ok (.bipush 11, 2) := by decide +kernel
theorem dX11_steps_144 : decode cX11_steps 144 = .ok (.iadd, 1) := by decide +kernel
theorem dX11_steps_145 : decode cX11_steps 145 = .ok (.aload_n 0, 1) := by decide +kernel
theorem dX11_steps_146 : decode cX11_steps 146 = .ok (.getfield 131, 3) := by decide +kernel
theorem dX11_steps_149 : decode cX11_steps 149 = .ok (.iadd, 1) := by decide +kernel
theorem dX11_steps_150 : decode cX11_steps 150 = .ok (.istore 8, 2) := by decide +kernel
theorem dX11_steps_152 : decode cX11_steps 152 = .ok (.bipush 16, 2) := by decide +kernel
theorem dX11_steps_154 : decode cX11_steps 154 = .ok (.iload 5, 2) := by decide +kernel
theorem dX11_steps_156 : decode cX11_steps 156 = .ok (.imul, 1) := by decide +kernel
theorem dX11_steps_157 : decode cX11_steps 157 = .ok (.iload 6, 2) := by decide +kernel
theorem dX11_steps_159 : decode cX11_steps 159 = .ok (.invokestatic 297, 3) := by decide +kernel
theorem dX11_steps_162 : decode cX11_steps 162 = .ok (.iadd, 1) := by decide +kernel
theorem dX11_steps_163 : decode cX11_steps 163 = .ok (.istore 9, 2) := by decide +kernel
theorem dX11_steps_165 : decode cX11_steps 165 = .ok (.aload_n 0, 1) := by decide +kernel
theorem dX11_steps_166 : decode cX11_steps 166 = .ok (.getfield 75, 3) := by decide +kernel
theorem dX11_steps_169 : decode cX11_steps 169 = .ok (.iload 7, 2) := by decide +kernel
theorem dX11_steps_171 : decode cX11_steps 171 = .ok (.aload_n 0, 1) := by decide +kernel
theorem dX11_steps_172 : decode cX11_steps 172 = .ok (.getfield 75, 3) := by decide +kernel
theorem dX11_steps_175 : decode cX11_steps 175 = .ok (.iload 7, 2) := by decide +kernel
theorem dX11_steps_177 : decode cX11_steps 177 = .ok (.laload, 1) := by decide +kernel
theorem dX11_steps_178 : decode cX11_steps 178 = .ok (.aload_n 0, 1) := by decide +kernel
theorem dX11_steps_179 : decode cX11_steps 179 = .ok (.getfield 282, 3) := by decide +kernel
theorem dX11_steps_182 : decode cX11_steps 182 = .ok (.i2l, 1) := by decide +kernel
theorem dX11_steps_183 : decode cX11_steps 183 = .ok (.aload_n 0, 1) := by decide +kernel
theorem dX11_steps_184 : decode cX11_steps 184 = .ok (.getfield 71, 3) := by decide +kernel
theorem dX11_steps_187 : decode cX11_steps 187 = .ok (.iload 4, 2) := by decide +kernel
theorem dX11_steps_189 : decode cX11_steps 189 = .ok (.laload, 1) := by decide +kernel
theorem dX11_steps_190 : decode cX11_steps 190 = .ok (.lmul, 1) := by decide +kernel
theorem dX11_steps_191 : decode cX11_steps 191 = .ok (.ladd, 1) := by decide +kernel
theorem dX11_steps_192 : decode cX11_steps 192 = .ok (.lastore, 1) := by decide +kernel
theorem dX11_steps_193 : decode cX11_steps 193 = .ok (.aload_n 0, 1) := by decide +kernel
theorem dX11_steps_194 : decode cX11_steps 194 = .ok (.getfield 75, 3) := by decide +kernel
theorem dX11_steps_197 : decode cX11_steps 197 = .ok (.iload 8, 2) := by decide +kernel
theorem dX11_steps_199 : decode cX11_steps 199 = .ok (.aload_n 0, 1) := by decide +kernel
theorem dX11_steps_200 : decode cX11_steps 200 = .ok (.getfield 75, 3) := by decide +kernel
theorem dX11_steps_203 : decode cX11_steps 203 = .ok (.iload 8, 2) := by decide +kernel
theorem dX11_steps_205 : decode cX11_steps 205 = .ok (.laload, 1) := by decide +kernel
theorem dX11_steps_206 : decode cX11_steps 206 = .ok (.aload_n 0, 1) := by decide +kernel
theorem dX11_steps_207 : decode cX11_steps 207 = .ok (.getfield 285, 3) := by decide +kernel
theorem dX11_steps_210 : decode cX11_steps 210 = .ok (.i2l, 1) := by decide +kernel
theorem dX11_steps_211 : decode cX11_steps 211 = .ok (.aload_n 0, 1) := by decide +kernel
theorem dX11_steps_212 : decode cX11_steps 212 = .ok (.getfield 71, 3) := by decide +kernel
theorem dX11_steps_215 : decode cX11_steps 215 = .ok (.iload 4, 2) := by decide +kernel
theorem dX11_steps_217 : decode cX11_steps 217 = .ok (.laload, 1) := by decide +kernel
theorem dX11_steps_218 : decode cX11_steps 218 = .ok (.lmul, 1) := by decide +kernel
theorem dX11_steps_219 : decode cX11_steps 219 = .ok (.ladd, 1) := by decide +kernel
theorem dX11_steps_220 : decode cX11_steps 220 = .ok (.lastore, 1) := by decide +kernel
theorem dX11_steps_221 : decode cX11_steps 221 = .ok (.aload_n 0, 1) := by decide +kernel
theorem dX11_steps_222 : decode cX11_steps 222 = .ok (.getfield 75, 3) := by decide +kernel
theorem dX11_steps_225 : decode cX11_steps 225 = .ok (.iload 9, 2) := by decide +kernel
theorem dX11_steps_227 : decode cX11_steps 227 = .ok (.aload_n 0, 1) := by decide +kernel
theorem dX11_steps_228 : decode cX11_steps 228 = .ok (.getfield 75, 3) := by decide +kernel
theorem dX11_steps_231 : decode cX11_steps 231 = .ok (.iload 9, 2) := by decide +kernel
theorem dX11_steps_233 : decode cX11_steps 233 = .ok (.laload, 1) := by decide +kernel
theorem dX11_steps_234 : decode cX11_steps 234 = .ok (.bipush 8, 2) := by decide +kernel
theorem dX11_steps_236 : decode cX11_steps 236 = .ok (.aload_n 0, 1) := by decide +kernel
theorem dX11_steps_237 : decode cX11_steps 237 = .ok (.getfield 282, 3) := by decide +kernel
theorem dX11_steps_240 : decode cX11_steps 240 = .ok (.isub, 1) := by decide +kernel
theorem dX11_steps_241 : decode cX11_steps 241 = .ok (.aload_n 0, 1) := by decide +kernel
theorem dX11_steps_242 : decode cX11_steps 242 = .ok (.getfield 285, 3) := by decide +kernel
theorem dX11_steps_245 : decode cX11_steps 245 = .ok (.isub, 1) := by decide +kernel
theorem dX11_steps_246 : decode cX11_steps 246 = .ok (.i2l, 1) := by decide +kernel
theorem dX11_steps_247 : decode cX11_steps 247 = .ok (.aload_n 0, 1) := by decide +kernel
theorem dX11_steps_248 : decode cX11_steps 248 = .ok (.getfield 71, 3) := by decide +kernel
theorem dX11_steps_251 : decode cX11_steps 251 = .ok (.iload 4, 2) := by decide +kernel
theorem dX11_steps_253 : decode cX11_steps 253 = .ok (.laload, 1) := by decide +kernel
theorem dX11_steps_254 : decode cX11_steps 254 = .ok (.lmul, 1) := by decide +kernel
theorem dX11_steps_255 : decode cX11_steps 255 = .ok (.ladd, 1) := by decide +kernel
theorem dX11_steps_256 : decode cX11_steps 256 = .ok (.lastore, 1) := by decide +kernel
theorem dX11_steps_257 : decode cX11_steps 257 = .ok (.iinc 4 1, 3) := by decide +kernel
theorem dX11_steps_260 : decode cX11_steps 260 = .ok (.goto (-231), 3) := by decide +kernel
theorem dX11_steps_263 : decode cX11_steps 263 = .ok (.iconst 0, 1) := by decide +kernel
theorem dX11_steps_264 : decode cX11_steps 264 = .ok (.istore 4, 2) := by decide +kernel
theorem dX11_steps_266 : decode cX11_steps 266 = .ok (.iload 4, 2) := by decide +kernel
theorem dX11_steps_268 : decode cX11_steps 268 = .ok (.bipush 16, 2) := by decide +kernel
theorem dX11_steps_270 : decode cX11_steps 270 = .ok (.iload_n 3, 1) := by decide +kernel
theorem dX11_steps_271 : decode cX11_steps 271 = .ok (.imul, 1) := by decide +kernel
theorem dX11_steps_272 : decode cX11_steps 272 = .ok (.if_icmp .ge 23, 3) := by decide +kernel
theorem dX11_steps_275 : decode cX11_steps 275 = .ok (.aload_n 0, 1) := by decide +kernel
theorem dX11_steps_276 : decode cX11_steps 276 = .ok (.getfield 71, 3) := by decide +kernel
theorem dX11_steps_279 : decode cX11_steps 279 = .ok (.iload 4, 2) := by decide +kernel
theorem dX11_steps_281 : decode cX11_steps 281 = .ok (.aload_n 0, 1) := by decide +kernel
theorem dX11_steps_282 : decode cX11_steps 282 = .ok (.getfield 75, 3) := by decide +kernel
theorem dX11_steps_285 : decode cX11_steps 285 = .ok (.iload 4, 2) := by decide +kernel
theorem dX11_steps_287 : decode cX11_steps 287 = .ok (.laload, 1) := by decide +kernel
theorem dX11_steps_288 : decode cX11_steps 288 = .ok (.lastore, 1) := by decide +kernel
theorem dX11_steps_289 : decode cX11_steps 289 = .ok (.iinc 4 1, 3) := by decide +kernel
theorem dX11_steps_292 : decode cX11_steps 292 = .ok (.goto (-26), 3) := by decide +kernel
theorem dX11_steps_295 : decode cX11_steps 295 = .ok (.aload_n 0, 1) := by decide +kernel
theorem dX11_steps_296 : decode cX11_steps 296 = .ok (.getfield 75, 3) := by decide +kernel
theorem dX11_steps_299 : decode cX11_steps 299 = .ok (.bipush 16, 2) := by decide +kernel
theorem dX11_steps_301 : decode cX11_steps 301 = .ok (.iload_n 3, 1) := by decide +kernel
theorem dX11_steps_302 : decode cX11_steps 302 = .ok (.imul, 1) := by decide +kernel
theorem dX11_steps_303 : decode cX11_steps 303 = .ok (.laload, 1) := by decide +kernel
theorem dX11_steps_304 : decode cX11_steps 304 = .ok (.lreturn, 1) := by decide +kernel
theorem dX11_goesAlone_0 : decode cX11_goesAlone 0 = .ok (.iconst 0, 1) := by decide +kernel
theorem dX11_goesAlone_1 : decode cX11_goesAlone 1 = .ok (.istore 5, 2) := by decide +kernel
theorem dX11_goesAlone_3 : decode cX11_goesAlone 3 = .ok (.iload 5, 2) := by decide +kernel
theorem dX11_goesAlone_5 : decode cX11_goesAlone 5 = .ok (.bipush 16, 2) := by decide +kernel
theorem dX11_goesAlone_7 : decode cX11_goesAlone 7 = .ok (.iload_n 3, 1) := by decide +kernel
theorem dX11_goesAlone_8 : decode cX11_goesAlone 8 = .ok (.imul, 1) := by decide +kernel
theorem dX11_goesAlone_9 : decode cX11_goesAlone 9 = .ok (.if_icmp .gt 17, 3) := by decide +kernel
theorem dX11_goesAlone_12 : decode cX11_goesAlone 12 = .ok (.aload_n 0, 1) := by decide +kernel
theorem dX11_goesAlone_13 : decode cX11_goesAlone 13 = .ok (.getfield 71, 3) := by decide +kernel
theorem dX11_goesAlone_16 : decode cX11_goesAlone 16 = .ok (.iload 5, 2) := by decide +kernel
theorem dX11_goesAlone_18 : decode cX11_goesAlone 18 = .ok (.lconst 0, 1) := by decide +kernel
theorem dX11_goesAlone_19 : decode cX11_goesAlone 19 = .ok (.lastore, 1) := by decide +kernel
theorem dX11_goesAlone_20 : decode cX11_goesAlone 20 = .ok (.iinc 5 1, 3) := by decide +kernel
theorem dX11_goesAlone_23 : decode cX11_goesAlone 23 = .ok (.goto (-20), 3) := by decide +kernel
theorem dX11_goesAlone_26 : decode cX11_goesAlone 26 = .ok (.aload_n 0, 1) := by decide +kernel
theorem dX11_goesAlone_27 : decode cX11_goesAlone 27 = .ok (.getfield 71, 3) := by decide +kernel
theorem dX11_goesAlone_30 : decode cX11_goesAlone 30 = .ok (.iconst 0, 1) := by decide +kernel
theorem dX11_goesAlone_31 : decode cX11_goesAlone 31 = .ok (.lconst 1, 1) := by decide +kernel
theorem dX11_goesAlone_32 : decode cX11_goesAlone 32 = .ok (.lastore, 1) := by decide +kernel
theorem dX11_goesAlone_33 : decode cX11_goesAlone 33 = .ok (.aload_n 0, 1) := by decide +kernel
theorem dX11_goesAlone_34 : decode cX11_goesAlone 34 = .ok (.lconst 0, 1) := by decide +kernel
theorem dX11_goesAlone_35 : decode cX11_goesAlone 35 = .ok (.putfield 300, 3) := by decide +kernel
theorem dX11_goesAlone_38 : decode cX11_goesAlone 38 = .ok (.iconst 1, 1) := by decide +kernel
theorem dX11_goesAlone_39 : decode cX11_goesAlone 39 = .ok (.istore 5, 2) := by decide +kernel
theorem dX11_goesAlone_41 : decode cX11_goesAlone 41 = .ok (.iload 5, 2) := by decide +kernel
theorem dX11_goesAlone_43 : decode cX11_goesAlone 43 = .ok (.iload 4, 2) := by decide +kernel
theorem dX11_goesAlone_45 : decode cX11_goesAlone 45 = .ok (.if_icmp .gt 43, 3) := by decide +kernel
theorem dX11_goesAlone_48 : decode cX11_goesAlone 48 = .ok (.aload_n 0, 1) := by decide +kernel
theorem dX11_goesAlone_49 : decode cX11_goesAlone 49 = .ok (.getfield 78, 3) := by decide +kernel
theorem dX11_goesAlone_52 : decode cX11_goesAlone 52 = .ok (.iload 5, 2) := by decide +kernel
theorem dX11_goesAlone_54 : decode cX11_goesAlone 54 = .ok (.aload_n 0, 1) := by decide +kernel
theorem dX11_goesAlone_55 : decode cX11_goesAlone 55 = .ok (.iload_n 1, 1) := by decide +kernel
theorem dX11_goesAlone_56 : decode cX11_goesAlone 56 = .ok (.iload_n 2, 1) := by decide +kernel
theorem dX11_goesAlone_57 : decode cX11_goesAlone 57 = .ok (.iload_n 3, 1) := by decide +kernel
theorem dX11_goesAlone_58 : decode cX11_goesAlone 58 = .ok (.invokevirtual 304, 3) := by decide +kernel
theorem dX11_goesAlone_61 : decode cX11_goesAlone 61 = .ok (.lastore, 1) := by decide +kernel
theorem dX11_goesAlone_62 : decode cX11_goesAlone 62 = .ok (.aload_n 0, 1) := by decide +kernel
theorem dX11_goesAlone_63 : decode cX11_goesAlone 63 = .ok (.ldc2_w 295, 3) := by decide +kernel
theorem dX11_goesAlone_66 : decode cX11_goesAlone 66 = .ok (.aload_n 0, 1) := by decide +kernel
theorem dX11_goesAlone_67 : decode cX11_goesAlone 67 = .ok (.getfield 300, 3) := by decide +kernel
theorem dX11_goesAlone_70 : decode cX11_goesAlone 70 = .ok (.lmul, 1) := by decide +kernel
theorem dX11_goesAlone_71 : decode cX11_goesAlone 71 = .ok (.aload_n 0, 1) := by decide +kernel
theorem dX11_goesAlone_72 : decode cX11_goesAlone 72 = .ok (.getfield 78, 3) := by decide +kernel
theorem dX11_goesAlone_75 : decode cX11_goesAlone 75 = .ok (.iload 5, 2) := by decide +kernel
theorem dX11_goesAlone_77 : decode cX11_goesAlone 77 = .ok (.laload, 1) := by decide +kernel
theorem dX11_goesAlone_78 : decode cX11_goesAlone 78 = .ok (.ladd, 1) := by decide +kernel
theorem dX11_goesAlone_79 : decode cX11_goesAlone 79 = .ok (.putfield 300, 3) := by decide +kernel
theorem dX11_goesAlone_82 : decode cX11_goesAlone 82 = .ok (.iinc 5 1, 3) := by decide +kernel
theorem dX11_goesAlone_85 : decode cX11_goesAlone 85 = .ok (.goto (-44), 3) := by decide +kernel
theorem dX11_goesAlone_88 : decode cX11_goesAlone 88 = .ok (.return_, 1) := by decide +kernel
theorem dX11_ways_0 : decode cX11_ways 0 = .ok (.aload_n 0, 1) := by decide +kernel
theorem dX11_ways_1 : decode cX11_ways 1 = .ok (.iload_n 1, 1) := by decide +kernel
theorem dX11_ways_2 : decode cX11_ways 2 = .ok (.invokevirtual 144, 3) := by decide +kernel
theorem dX11_ways_5 : decode cX11_ways 5 = .ok (.ifCond .eq 43, 3) := by decide +kernel
theorem dX11_ways_8 : decode cX11_ways 8 = .ok (.aload_n 0, 1) := by decide +kernel
theorem dX11_ways_9 : decode cX11_ways 9 = .ok (.getfield 141, 3) := by decide +kernel
theorem dX11_ways_12 : decode cX11_ways 12 = .ok (.ifCond .eq 36, 3) := by decide +kernel
theorem dX11_ways_15 : decode cX11_ways 15 = .ok (.iload_n 2, 1) := by decide +kernel
theorem dX11_ways_16 : decode cX11_ways 16 = .ok (.iconst 1, 1) := by decide +kernel
theorem dX11_ways_17 : decode cX11_ways 17 = .ok (.bipush 10, 2) := by decide +kernel
theorem dX11_ways_19 : decode cX11_ways 19 = .ok (.invokestatic 148, 3) := by decide +kernel
theorem dX11_ways_22 : decode cX11_ways 22 = .ok (.ifCond .eq 26, 3) := by decide +kernel
theorem dX11_ways_25 : decode cX11_ways 25 = .ok (.iload_n 3, 1) := by decide +kernel
theorem dX11_ways_26 : decode cX11_ways 26 = .ok (.iconst 0, 1) := by decide +kernel
theorem dX11_ways_27 : decode cX11_ways 27 = .ok (.bipush 6, 2) := by decide +kernel
theorem dX11_ways_29 : decode cX11_ways 29 = .ok (.invokestatic 148, 3) := by decide +kernel
theorem dX11_ways_32 : decode cX11_ways 32 = .ok (.ifCond .eq 16, 3) := by decide +kernel
theorem dX11_ways_35 : decode cX11_ways 35 = .ok (.iload_n 3, 1) := by decide +kernel
theorem dX11_ways_36 : decode cX11_ways 36 = .ok (.iconst 5, 1) := by decide +kernel
theorem dX11_ways_37 : decode cX11_ways 37 = .ok (.if_icmp .ge 15, 3) := by decide +kernel
theorem dX11_ways_40 : decode cX11_ways 40 = .ok (.aload_n 0, 1) := by decide +kernel
theorem dX11_ways_41 : decode cX11_ways 41 = .ok (.iload_n 3, 1) := by decide +kernel
theorem dX11_ways_42 : decode cX11_ways 42 = .ok (.invokevirtual 166, 3) := by decide +kernel
theorem dX11_ways_45 : decode cX11_ways 45 = .ok (.ifCond .ne 7, 3) := by decide +kernel
theorem dX11_ways_48 : decode cX11_ways 48 = .ok (.ldc2_w 308, 3) := by decide +kernel
theorem dX11_ways_51 : decode cX11_ways 51 = .ok (.lreturn, 1) := by decide +kernel
theorem dX11_ways_52 : decode cX11_ways 52 = .ok (.aload_n 0, 1) := by decide +kernel
theorem dX11_ways_53 : decode cX11_ways 53 = .ok (.iload_n 1, 1) := by decide +kernel
theorem dX11_ways_54 : decode cX11_ways 54 = .ok (.aload_n 0, 1) := by decide +kernel
theorem dX11_ways_55 : decode cX11_ways 55 = .ok (.getfield 19, 3) := by decide +kernel
theorem dX11_ways_58 : decode cX11_ways 58 = .ok (.iload_n 1, 1) := by decide +kernel
theorem dX11_ways_59 : decode cX11_ways 59 = .ok (.iaload, 1) := by decide +kernel
theorem dX11_ways_60 : decode cX11_ways 60 = .ok (.aload_n 0, 1) := by decide +kernel
theorem dX11_ways_61 : decode cX11_ways 61 = .ok (.getfield 141, 3) := by decide +kernel
theorem dX11_ways_64 : decode cX11_ways 64 = .ok (.iload_n 2, 1) := by decide +kernel
theorem dX11_ways_65 : decode cX11_ways 65 = .ok (.invokevirtual 310, 3) := by decide +kernel
theorem dX11_ways_68 : decode cX11_ways 68 = .ok (.iload_n 3, 1) := by decide +kernel
theorem dX11_ways_69 : decode cX11_ways 69 = .ok (.iconst 4, 1) := by decide +kernel
theorem dX11_ways_70 : decode cX11_ways 70 = .ok (.if_icmp .le 22, 3) := by decide +kernel
theorem dX11_ways_73 : decode cX11_ways 73 = .ok (.iload_n 3, 1) := by decide +kernel
theorem dX11_ways_74 : decode cX11_ways 74 = .ok (.iconst 5, 1) := by decide +kernel
theorem dX11_ways_75 : decode cX11_ways 75 = .ok (.if_icmp .ne 10, 3) := by decide +kernel
theorem dX11_ways_78 : decode cX11_ways 78 = .ok (.aload_n 0, 1) := by decide +kernel
theorem dX11_ways_79 : decode cX11_ways 79 = .ok (.getfield 300, 3) := by decide +kernel
theorem dX11_ways_82 : decode cX11_ways 82 = .ok (.goto 9, 3) := by decide +kernel
theorem dX11_ways_85 : decode cX11_ways 85 = .ok (.aload_n 0, 1) := by decide +kernel
theorem dX11_ways_86 : decode cX11_ways 86 = .ok (.getfield 78, 3) := by decide +kernel
theorem dX11_ways_89 : decode cX11_ways 89 = .ok (.iload_n 2, 1) := by decide +kernel
theorem dX11_ways_90 : decode cX11_ways 90 = .ok (.laload, 1) := by decide +kernel
theorem dX11_ways_91 : decode cX11_ways 91 = .ok (.lreturn, 1) := by decide +kernel
theorem dX11_ways_92 : decode cX11_ways 92 = .ok (.aload_n 0, 1) := by decide +kernel
theorem dX11_ways_93 : decode cX11_ways 93 = .ok (.getfield 300, 3) := by decide +kernel
theorem dX11_ways_96 : decode cX11_ways 96 = .ok (.lstore 4, 2) := by decide +kernel
theorem dX11_ways_98 : decode cX11_ways 98 = .ok (.bipush 16, 2) := by decide +kernel
theorem dX11_ways_100 : decode cX11_ways 100 = .ok (.iload_n 3, 1) := by decide +kernel
theorem dX11_ways_101 : decode cX11_ways 101 = .ok (.imul, 1) := by decide +kernel
theorem dX11_ways_102 : decode cX11_ways 102 = .ok (.istore 6, 2) := by decide +kernel
theorem dX11_ways_104 : decode cX11_ways 104 = .ok (.iload 6, 2) := by decide +kernel
theorem dX11_ways_106 : decode cX11_ways 106 = .ok (.bipush 16, 2) := by decide +kernel
theorem dX11_ways_108 : decode cX11_ways 108 = .ok (.aload_n 0, 1) := by decide +kernel
theorem dX11_ways_109 : decode cX11_ways 109 = .ok (.getfield 141, 3) := by decide +kernel
theorem dX11_ways_112 : decode cX11_ways 112 = .ok (.imul, 1) := by decide +kernel
theorem dX11_ways_113 : decode cX11_ways 113 = .ok (.if_icmp .ge 21, 3) := by decide +kernel
theorem dX11_ways_116 : decode cX11_ways 116 = .ok (.lload 4, 2) := by decide +kernel
theorem dX11_ways_118 : decode cX11_ways 118 = .ok (.aload_n 0, 1) := by decide +kernel
theorem dX11_ways_119 : decode cX11_ways 119 = .ok (.getfield 71, 3) := by decide +kernel
theorem dX11_ways_122 : decode cX11_ways 122 = .ok (.iload 6, 2) := by decide +kernel
theorem dX11_ways_124 : decode cX11_ways 124 = .ok (.laload, 1) := by decide +kernel
theorem dX11_ways_125 : decode cX11_ways 125 = .ok (.ladd, 1) := by decide +kernel
theorem dX11_ways_126 : decode cX11_ways 126 = .ok (.lstore 4, 2) := by decide +kernel
theorem dX11_ways_128 : decode cX11_ways 128 = .ok (.iinc 6 1, 3) := by decide +kernel
theorem dX11_ways_131 : decode cX11_ways 131 = .ok (.goto (-27), 3) := by decide +kernel
theorem dX11_ways_134 : decode cX11_ways 134 = .ok (.lload 4, 2) := by decide +kernel
theorem dX11_ways_136 : decode cX11_ways 136 = .ok (.lreturn, 1) := by decide +kernel
theorem dX11_eights_0 : decode cX11_eights 0 = .ok (.lconst 1, 1) := by decide +kernel
theorem dX11_eights_1 : decode cX11_eights 1 = .ok (.lstore_n 1, 1) := by decide +kernel
theorem dX11_eights_2 : decode cX11_eights 2 = .ok (.iconst 0, 1) := by decide +kernel
theorem dX11_eights_3 : decode cX11_eights 3 = .ok (.istore_n 3, 1) := by decide +kernel
theorem dX11_eights_4 : decode cX11_eights 4 = .ok (.iload_n 3, 1) := by decide +kernel
theorem dX11_eights_5 : decode cX11_eights 5 = .ok (.iload_n 0, 1) := by decide +kernel
theorem dX11_eights_6 : decode cX11_eights 6 = .ok (.if_icmp .ge 15, 3) := by decide +kernel
theorem dX11_eights_9 : decode cX11_eights 9 = .ok (.lload_n 1, 1) := by decide +kernel
theorem dX11_eights_10 : decode cX11_eights 10 = .ok (.ldc2_w 295, 3) := by decide +kernel
theorem dX11_eights_13 : decode cX11_eights 13 = .ok (.lmul, 1) := by decide +kernel
theorem dX11_eights_14 : decode cX11_eights 14 = .ok (.lstore_n 1, 1) := by decide +kernel
theorem dX11_eights_15 : decode cX11_eights 15 = .ok (.iinc 3 1, 3) := by decide +kernel
theorem dX11_eights_18 : decode cX11_eights 18 = .ok (.goto (-14), 3) := by decide +kernel
theorem dX11_eights_21 : decode cX11_eights 21 = .ok (.lload_n 1, 1) := by decide +kernel
theorem dX11_eights_22 : decode cX11_eights 22 = .ok (.lreturn, 1) := by decide +kernel
theorem dX11_gcd_0 : decode cX11_gcd 0 = .ok (.lload_n 0, 1) := by decide +kernel
theorem dX11_gcd_1 : decode cX11_gcd 1 = .ok (.lstore 4, 2) := by decide +kernel
theorem dX11_gcd_3 : decode cX11_gcd 3 = .ok (.lload_n 2, 1) := by decide +kernel
theorem dX11_gcd_4 : decode cX11_gcd 4 = .ok (.lstore 6, 2) := by decide +kernel
theorem dX11_gcd_6 : decode cX11_gcd 6 = .ok (.lload 6, 2) := by decide +kernel
theorem dX11_gcd_8 : decode cX11_gcd 8 = .ok (.lconst 0, 1) := by decide +kernel
theorem dX11_gcd_9 : decode cX11_gcd 9 = .ok (.lcmp, 1) := by decide +kernel
theorem dX11_gcd_10 : decode cX11_gcd 10 = .ok (.ifCond .eq 21, 3) := by decide +kernel
theorem dX11_gcd_13 : decode cX11_gcd 13 = .ok (.lload 4, 2) := by decide +kernel
theorem dX11_gcd_15 : decode cX11_gcd 15 = .ok (.lload 6, 2) := by decide +kernel
theorem dX11_gcd_17 : decode cX11_gcd 17 = .ok (.lrem, 1) := by decide +kernel
theorem dX11_gcd_18 : decode cX11_gcd 18 = .ok (.lstore 8, 2) := by decide +kernel
theorem dX11_gcd_20 : decode cX11_gcd 20 = .ok (.lload 6, 2) := by decide +kernel
theorem dX11_gcd_22 : decode cX11_gcd 22 = .ok (.lstore 4, 2) := by decide +kernel
theorem dX11_gcd_24 : decode cX11_gcd 24 = .ok (.lload 8, 2) := by decide +kernel
theorem dX11_gcd_26 : decode cX11_gcd 26 = .ok (.lstore 6, 2) := by decide +kernel
theorem dX11_gcd_28 : decode cX11_gcd 28 = .ok (.goto (-22), 3) := by decide +kernel
theorem dX11_gcd_31 : decode cX11_gcd 31 = .ok (.lload 4, 2) := by decide +kernel
theorem dX11_gcd_33 : decode cX11_gcd 33 = .ok (.lreturn, 1) := by decide +kernel
theorem dX11_races_0 : decode cX11_races 0 = .ok (.aload_n 0, 1) := by decide +kernel
theorem dX11_races_1 : decode cX11_races 1 = .ok (.iload_n 1, 1) := by decide +kernel
theorem dX11_races_2 : decode cX11_races 2 = .ok (.aload_n 0, 1) := by decide +kernel
theorem dX11_races_3 : decode cX11_races 3 = .ok (.getfield 19, 3) := by decide +kernel
theorem dX11_races_6 : decode cX11_races 6 = .ok (.iload_n 1, 1) := by decide +kernel
theorem dX11_races_7 : decode cX11_races 7 = .ok (.iaload, 1) := by decide +kernel
theorem dX11_races_8 : decode cX11_races 8 = .ok (.iload_n 3, 1) := by decide +kernel
theorem dX11_races_9 : decode cX11_races 9 = .ok (.bipush 10, 2) := by decide +kernel
theorem dX11_races_11 : decode cX11_races 11 = .ok (.invokevirtual 310, 3) := by decide +kernel
theorem dX11_races_14 : decode cX11_races 14 = .ok (.iconst 1, 1) := by decide +kernel
theorem dX11_races_15 : decode cX11_races 15 = .ok (.istore 4, 2) := by decide +kernel
theorem dX11_races_17 : decode cX11_races 17 = .ok (.iload 4, 2) := by decide +kernel
theorem dX11_races_19 : decode cX11_races 19 = .ok (.bipush 10, 2) := by decide +kernel
theorem dX11_races_21 : decode cX11_races 21 = .ok (.if_icmp .gt 32, 3) := by decide +kernel
theorem dX11_races_24 : decode cX11_races 24 = .ok (.aload_n 0, 1) := by decide +kernel
theorem dX11_races_25 : decode cX11_races 25 = .ok (.getfield 81, 3) := by decide +kernel
theorem dX11_races_28 : decode cX11_races 28 = .ok (.iload 4, 2) := by decide +kernel
theorem dX11_races_30 : decode cX11_races 30 = .ok (.aload_n 0, 1) := by decide +kernel
theorem dX11_races_31 : decode cX11_races 31 = .ok (.getfield 78, 3) := by decide +kernel
theorem dX11_races_34 : decode cX11_races 34 = .ok (.iload 4, 2) := by decide +kernel
theorem dX11_races_36 : decode cX11_races 36 = .ok (.laload, 1) := by decide +kernel
theorem dX11_races_37 : decode cX11_races 37 = .ok (.bipush 10, 2) := by decide +kernel
theorem dX11_races_39 : decode cX11_races 39 = .ok (.iload 4, 2) := by decide +kernel
theorem dX11_races_41 : decode cX11_races 41 = .ok (.isub, 1) := by decide +kernel
theorem dX11_races_42 : decode cX11_races 42 = .ok (.invokestatic 313, 3) := by decide +kernel
theorem dX11_races_45 : decode cX11_races 45 = .ok (.lmul, 1) := by decide +kernel
theorem dX11_races_46 : decode cX11_races 46 = .ok (.lastore, 1) := by decide +kernel
theorem dX11_races_47 : decode cX11_races 47 = .ok (.iinc 4 1, 3) := by decide +kernel
theorem dX11_races_50 : decode cX11_races 50 = .ok (.goto (-33), 3) := by decide +kernel
theorem dX11_races_53 : decode cX11_races 53 = .ok (.aload_n 0, 1) := by decide +kernel
theorem dX11_races_54 : decode cX11_races 54 = .ok (.iload_n 2, 1) := by decide +kernel
theorem dX11_races_55 : decode cX11_races 55 = .ok (.aload_n 0, 1) := by decide +kernel
theorem dX11_races_56 : decode cX11_races 56 = .ok (.getfield 19, 3) := by decide +kernel
theorem dX11_races_59 : decode cX11_races 59 = .ok (.iload_n 2, 1) := by decide +kernel
theorem dX11_races_60 : decode cX11_races 60 = .ok (.iaload, 1) := by decide +kernel
theorem dX11_races_61 : decode cX11_races 61 = .ok (.iload_n 3, 1) := by decide +kernel
theorem dX11_races_62 : decode cX11_races 62 = .ok (.bipush 10, 2) := by decide +kernel
theorem dX11_races_64 : decode cX11_races 64 = .ok (.invokevirtual 310, 3) := by decide +kernel
theorem dX11_races_67 : decode cX11_races 67 = .ok (.aload_n 0, 1) := by decide +kernel
theorem dX11_races_68 : decode cX11_races 68 = .ok (.lconst 0, 1) := by decide +kernel
theorem dX11_races_69 : decode cX11_races 69 = .ok (.putfield 317, 3) := by decide +kernel
theorem dX11_races_72 : decode cX11_races 72 = .ok (.aload_n 0, 1) := by decide +kernel
theorem dX11_races_73 : decode cX11_races 73 = .ok (.lconst 0, 1) := by decide +kernel
theorem dX11_races_74 : decode cX11_races 74 = .ok (.putfield 320, 3) := by decide +kernel
theorem dX11_races_77 : decode cX11_races 77 = .ok (.bipush 10, 2) := by decide +kernel
theorem dX11_races_79 : decode cX11_races 79 = .ok (.invokestatic 313, 3) := by decide +kernel
theorem dX11_races_82 : decode cX11_races 82 = .ok (.lstore 4, 2) := by decide +kernel
theorem dX11_races_84 : decode cX11_races 84 = .ok (.iconst 1, 1) := by decide +kernel
theorem dX11_races_85 : decode cX11_races 85 = .ok (.istore 6, 2) := by decide +kernel
theorem dX11_races_87 : decode cX11_races 87 = .ok (.iload 6, 2) := by decide +kernel
theorem dX11_races_89 : decode cX11_races 89 = .ok (.bipush 10, 2) := by decide +kernel
theorem dX11_races_91 : decode cX11_races 91 = .ok (.if_icmp .gt 72, 3) := by decide +kernel
theorem dX11_races_94 : decode cX11_races 94 = .ok (.aload_n 0, 1) := by decide +kernel
theorem dX11_races_95 : decode cX11_races 95 = .ok (.getfield 78, 3) := by decide +kernel
theorem dX11_races_98 : decode cX11_races 98 = .ok (.iload 6, 2) := by decide +kernel
theorem dX11_races_100 : decode cX11_races 100 = .ok (.laload, 1) := by decide +kernel
theorem dX11_races_101 : decode cX11_races 101 = .ok (.bipush 10, 2) := by decide +kernel
theorem dX11_races_103 : decode cX11_races 103 = .ok (.iload 6, 2) := by decide +kernel
theorem dX11_races_105 : decode cX11_races 105 = .ok (.isub, 1) := by decide +kernel
theorem dX11_races_106 : decode cX11_races 106 = .ok (.invokestatic 313, 3) := by decide +kernel
theorem dX11_races_109 : decode cX11_races 109 = .ok (.lmul, 1) := by decide +kernel
theorem dX11_races_110 : decode cX11_races 110 = .ok (.lstore 7, 2) := by decide +kernel
theorem dX11_races_112 : decode cX11_races 112 = .ok (.lload 4, 2) := by decide +kernel
theorem dX11_races_114 : decode cX11_races 114 = .ok (.lload 7, 2) := by decide +kernel
theorem dX11_races_116 : decode cX11_races 116 = .ok (.lsub, 1) := by decide +kernel
theorem dX11_races_117 : decode cX11_races 117 = .ok (.lstore 4, 2) := by decide +kernel
theorem dX11_races_119 : decode cX11_races 119 = .ok (.aload_n 0, 1) := by decide +kernel
theorem dX11_races_120 : decode cX11_races 120 = .ok (.aload_n 0, 1) := by decide +kernel
theorem dX11_races_121 : decode cX11_races 121 = .ok (.getfield 317, 3) := by decide +kernel
theorem dX11_races_124 : decode cX11_races 124 = .ok (.aload_n 0, 1) := by decide +kernel
theorem dX11_races_125 : decode cX11_races 125 = .ok (.getfield 81, 3) := by decide +kernel
theorem dX11_races_128 : decode cX11_races 128 = .ok (.iload 6, 2) := by decide +kernel
theorem dX11_races_130 : decode cX11_races 130 = .ok (.laload, 1) := by decide +kernel
theorem dX11_races_131 : decode cX11_races 131 = .ok (.lload 4, 2) := by decide +kernel
theorem dX11_races_133 : decode cX11_races 133 = .ok (.lmul, 1) := by decide +kernel
theorem dX11_races_134 : decode cX11_races 134 = .ok (.ladd, 1) := by decide +kernel
theorem dX11_races_135 : decode cX11_races 135 = .ok (.putfield 317, 3) := by decide +kernel
theorem dX11_races_138 : decode cX11_races 138 = .ok (.aload_n 0, 1) := by decide +kernel
theorem dX11_races_139 : decode cX11_races 139 = .ok (.aload_n 0, 1) := by decide +kernel
theorem dX11_races_140 : decode cX11_races 140 = .ok (.getfield 320, 3) := by decide +kernel
theorem dX11_races_143 : decode cX11_races 143 = .ok (.aload_n 0, 1) := by decide +kernel
theorem dX11_races_144 : decode cX11_races 144 = .ok (.getfield 81, 3) := by decide +kernel
theorem dX11_races_147 : decode cX11_races 147 = .ok (.iload 6, 2) := by decide +kernel
theorem dX11_races_149 : decode cX11_races 149 = .ok (.laload, 1) := by decide +kernel
theorem dX11_races_150 : decode cX11_races 150 = .ok (.lload 7, 2) := by decide +kernel
theorem dX11_races_152 : decode cX11_races 152 = .ok (.lmul, 1) := by decide +kernel
theorem dX11_races_153 : decode cX11_races 153 = .ok (.ladd, 1) := by decide +kernel
theorem dX11_races_154 : decode cX11_races 154 = .ok (.putfield 320, 3) := by decide +kernel
theorem dX11_races_157 : decode cX11_races 157 = .ok (.iinc 6 1, 3) := by decide +kernel
theorem dX11_races_160 : decode cX11_races 160 = .ok (.goto (-73), 3) := by decide +kernel
theorem dX11_races_163 : decode cX11_races 163 = .ok (.return_, 1) := by decide +kernel
theorem dX11_ahead_0 : decode cX11_ahead 0 = .ok (.aload_n 0, 1) := by decide +kernel
theorem dX11_ahead_1 : decode cX11_ahead 1 = .ok (.iload_n 1, 1) := by decide +kernel
theorem dX11_ahead_2 : decode cX11_ahead 2 = .ok (.iload_n 2, 1) := by decide +kernel
theorem dX11_ahead_3 : decode cX11_ahead 3 = .ok (.invokevirtual 323, 3) := by decide +kernel
theorem dX11_ahead_6 : decode cX11_ahead 6 = .ok (.ifCond .eq 12, 3) := by decide +kernel
theorem dX11_ahead_9 : decode cX11_ahead 9 = .ok (.iload_n 3, 1) := by decide +kernel
theorem dX11_ahead_10 : decode cX11_ahead 10 = .ok (.iconst 0, 1) := by decide +kernel
theorem dX11_ahead_11 : decode cX11_ahead 11 = .ok (.iconst 3, 1) := by decide +kernel
theorem dX11_ahead_12 : decode cX11_ahead 12 = .ok (.invokestatic 148, 3) := by decide +kernel
theorem dX11_ahead_15 : decode cX11_ahead 15 = .ok (.ifCond .ne 7, 3) := by decide +kernel
theorem dX11_ahead_18 : decode cX11_ahead 18 = .ok (.ldc2_w 308, 3) := by decide +kernel
theorem dX11_ahead_21 : decode cX11_ahead 21 = .ok (.lreturn, 1) := by decide +kernel
theorem dX11_ahead_22 : decode cX11_ahead 22 = .ok (.aload_n 0, 1) := by decide +kernel
theorem dX11_ahead_23 : decode cX11_ahead 23 = .ok (.iload_n 1, 1) := by decide +kernel
theorem dX11_ahead_24 : decode cX11_ahead 24 = .ok (.iload_n 2, 1) := by decide +kernel
theorem dX11_ahead_25 : decode cX11_ahead 25 = .ok (.aload_n 0, 1) := by decide +kernel
theorem dX11_ahead_26 : decode cX11_ahead 26 = .ok (.getfield 141, 3) := by decide +kernel
theorem dX11_ahead_29 : decode cX11_ahead 29 = .ok (.invokevirtual 326, 3) := by decide +kernel
theorem dX11_ahead_32 : decode cX11_ahead 32 = .ok (.iload_n 3, 1) := by decide +kernel
theorem dX11_ahead_33 : decode cX11_ahead 33 = .ok (.iconst 2, 1) := by decide +kernel
theorem dX11_ahead_34 : decode cX11_ahead 34 = .ok (.if_icmp .ge 10, 3) := by decide +kernel
theorem dX11_ahead_37 : decode cX11_ahead 37 = .ok (.aload_n 0, 1) := by decide +kernel
theorem dX11_ahead_38 : decode cX11_ahead 38 = .ok (.getfield 317, 3) := by decide +kernel
theorem dX11_ahead_41 : decode cX11_ahead 41 = .ok (.goto 7, 3) := by decide +kernel
theorem dX11_ahead_44 : decode cX11_ahead 44 = .ok (.aload_n 0, 1) := by decide +kernel
theorem dX11_ahead_45 : decode cX11_ahead 45 = .ok (.getfield 320, 3) := by decide +kernel
theorem dX11_ahead_48 : decode cX11_ahead 48 = .ok (.lstore 4, 2) := by decide +kernel
theorem dX11_ahead_50 : decode cX11_ahead 50 = .ok (.bipush 20, 2) := by decide +kernel
theorem dX11_ahead_52 : decode cX11_ahead 52 = .ok (.invokestatic 313, 3) := by decide +kernel
theorem dX11_ahead_55 : decode cX11_ahead 55 = .ok (.lstore 6, 2) := by decide +kernel
theorem dX11_ahead_57 : decode cX11_ahead 57 = .ok (.iload_n 3, 1) := by decide +kernel
theorem dX11_ahead_58 : decode cX11_ahead 58 = .ok (.iconst 2, 1) := by decide +kernel
theorem dX11_ahead_59 : decode cX11_ahead 59 = .ok (.irem, 1) := by decide +kernel
theorem dX11_ahead_60 : decode cX11_ahead 60 = .ok (.ifCond .ne 16, 3) := by decide +kernel
theorem dX11_ahead_63 : decode cX11_ahead 63 = .ok (.lload 4, 2) := by decide +kernel
theorem dX11_ahead_65 : decode cX11_ahead 65 = .ok (.lload 4, 2) := by decide +kernel
theorem dX11_ahead_67 : decode cX11_ahead 67 = .ok (.lload 6, 2) := by decide +kernel
theorem dX11_ahead_69 : decode cX11_ahead 69 = .ok (.invokestatic 330, 3) := by decide +kernel
theorem dX11_ahead_72 : decode cX11_ahead 72 = .ok (.ldiv, 1) := by decide +kernel
theorem dX11_ahead_73 : decode cX11_ahead 73 = .ok (.goto 13, 3) := by decide +kernel
theorem dX11_ahead_76 : decode cX11_ahead 76 = .ok (.lload 6, 2) := by decide +kernel
theorem dX11_ahead_78 : decode cX11_ahead 78 = .ok (.lload 4, 2) := by decide +kernel
theorem dX11_ahead_80 : decode cX11_ahead 80 = .ok (.lload 6, 2) := by decide +kernel
theorem dX11_ahead_82 : decode cX11_ahead 82 = .ok (.invokestatic 330, 3) := by decide +kernel
theorem dX11_ahead_85 : decode cX11_ahead 85 = .ok (.ldiv, 1) := by decide +kernel
theorem dX11_ahead_86 : decode cX11_ahead 86 = .ok (.lreturn, 1) := by decide +kernel
theorem dX11_sharesTick_0 : decode cX11_sharesTick 0 = .ok (.iconst 0, 1) := by decide +kernel
theorem dX11_sharesTick_1 : decode cX11_sharesTick 1 = .ok (.istore_n 3, 1) := by decide +kernel
theorem dX11_sharesTick_2 : decode cX11_sharesTick 2 = .ok (.iload_n 3, 1) := by decide +kernel
theorem dX11_sharesTick_3 : decode cX11_sharesTick 3 = .ok (.bipush 16, 2) := by decide +kernel
theorem dX11_sharesTick_5 : decode cX11_sharesTick 5 = .ok (.aload_n 0, 1) := by decide +kernel
theorem dX11_sharesTick_6 : decode cX11_sharesTick 6 = .ok (.getfield 141, 3) := by decide +kernel
theorem dX11_sharesTick_9 : decode cX11_sharesTick 9 = .ok (.imul, 1) := by decide +kernel
theorem dX11_sharesTick_10 : decode cX11_sharesTick 10 = .ok (.if_icmp .gt 16, 3) := by decide +kernel
theorem dX11_sharesTick_13 : decode cX11_sharesTick 13 = .ok (.aload_n 0, 1) := by decide +kernel
theorem dX11_sharesTick_14 : decode cX11_sharesTick 14 = .ok (.getfield 75, 3) := by decide +kernel
theorem dX11_sharesTick_17 : decode cX11_sharesTick 17 = .ok (.iload_n 3, 1) := by decide +kernel
theorem dX11_sharesTick_18 : decode cX11_sharesTick 18 = .ok (.lconst 0, 1) := by decide +kernel
theorem dX11_sharesTick_19 : decode cX11_sharesTick 19 = .ok (.lastore, 1) := by decide +kernel
theorem dX11_sharesTick_20 : decode cX11_sharesTick 20 = .ok (.iinc 3 1, 3) := by decide +kernel
theorem dX11_sharesTick_23 : decode cX11_sharesTick 23 = .ok (.goto (-21), 3) := by decide +kernel
theorem dX11_sharesTick_26 : decode cX11_sharesTick 26 = .ok (.iconst 0, 1) := by decide +kernel
theorem dX11_sharesTick_27 : decode cX11_sharesTick 27 = .ok (.istore_n 3, 1) := by decide +kernel
theorem dX11_sharesTick_28 : decode cX11_sharesTick 28 = .ok (.iload_n 3, 1) := by decide +kernel
theorem dX11_sharesTick_29 : decode cX11_sharesTick 29 = .ok (.bipush 16, 2) := by decide +kernel
theorem dX11_sharesTick_31 : decode cX11_sharesTick 31 = .ok (.aload_n 0, 1) := by decide +kernel
theorem dX11_sharesTick_32 : decode cX11_sharesTick 32 = .ok (.getfield 141, 3) := by decide +kernel
theorem dX11_sharesTick_35 : decode cX11_sharesTick 35 = .ok (.imul, 1) := by decide +kernel
theorem dX11_sharesTick_36 : decode cX11_sharesTick 36 = .ok (.if_icmp .ge 318, 3) := by decide +kernel
theorem dX11_sharesTick_39 : decode cX11_sharesTick 39 = .ok (.aload_n 0, 1) := by decide +kernel
theorem dX11_sharesTick_40 : decode cX11_sharesTick 40 = .ok (.getfield 71, 3) := by decide +kernel
theorem dX11_sharesTick_43 : decode cX11_sharesTick 43 = .ok (.iload_n 3, 1) := by decide +kernel
theorem dX11_sharesTick_44 : decode cX11_sharesTick 44 = .ok (.laload, 1) := by decide +kernel
theorem dX11_sharesTick_45 : decode cX11_sharesTick 45 = .ok (.lconst 0, 1) := by decide +kernel
theorem dX11_sharesTick_46 : decode cX11_sharesTick 46 = .ok (.lcmp, 1) := by decide +kernel
theorem dX11_sharesTick_47 : decode cX11_sharesTick 47 = .ok (.ifCond .ne 6, 3) := by decide +kernel
theorem dX11_sharesTick_50 : decode cX11_sharesTick 50 = .ok (.goto 298, 3) := by decide +kernel
theorem dX11_sharesTick_53 : decode cX11_sharesTick 53 = .ok (.iload_n 3, 1) := by decide +kernel
theorem dX11_sharesTick_54 : decode cX11_sharesTick 54 = .ok (.bipush 16, 2) := by decide +kernel
theorem dX11_sharesTick_56 : decode cX11_sharesTick 56 = .ok (.idiv, 1) := by decide +kernel
theorem dX11_sharesTick_57 : decode cX11_sharesTick 57 = .ok (.istore 4, 2) := by decide +kernel
theorem dX11_sharesTick_59 : decode cX11_sharesTick 59 = .ok (.iload_n 3, 1) := by decide +kernel
theorem dX11_sharesTick_60 : decode cX11_sharesTick 60 = .ok (.bipush 16, 2) := by decide +kernel
theorem dX11_sharesTick_62 : decode cX11_sharesTick 62 = .ok (.irem, 1) := by decide +kernel
theorem dX11_sharesTick_63 : decode cX11_sharesTick 63 = .ok (.istore 5, 2) := by decide +kernel
theorem dX11_sharesTick_65 : decode cX11_sharesTick 65 = .ok (.iload 5, 2) := by decide +kernel
theorem dX11_sharesTick_67 : decode cX11_sharesTick 67 = .ok (.iconst 5, 1) := by decide +kernel
theorem dX11_sharesTick_68 : decode cX11_sharesTick 68 = .ok (.if_icmp .le 41, 3) := by decide +kernel
theorem dX11_sharesTick_71 : decode cX11_sharesTick 71 = .ok (.iload_n 3, 1) := by decide +kernel
theorem dX11_sharesTick_72 : decode cX11_sharesTick 72 = .ok (.aload_n 0, 1) := by decide +kernel
theorem dX11_sharesTick_73 : decode cX11_sharesTick 73 = .ok (.getfield 141, 3) := by decide +kernel
theorem dX11_sharesTick_76 : decode cX11_sharesTick 76 = .ok (.invokestatic 292, 3) := by decide +kernel
theorem dX11_sharesTick_79 : decode cX11_sharesTick 79 = .ok (.istore 6, 2) := by decide +kernel
theorem dX11_sharesTick_81 : decode cX11_sharesTick 81 = .ok (.aload_n 0, 1) := by decide +kernel
theorem dX11_sharesTick_82 : decode cX11_sharesTick 82 = .ok (.getfield 75, 3) := by decide +kernel
theorem dX11_sharesTick_85 : decode cX11_sharesTick 85 = .ok (.iload 6, 2) := by decide +kernel
theorem dX11_sharesTick_87 : decode cX11_sharesTick 87 = .ok (.aload_n 0, 1) := by decide +kernel
theorem dX11_sharesTick_88 : decode cX11_sharesTick 88 = .ok (.getfield 75, 3) := by decide +kernel
theorem dX11_sharesTick_91 : decode cX11_sharesTick 91 = .ok (.iload 6, 2) := by decide +kernel
theorem dX11_sharesTick_93 : decode cX11_sharesTick 93 = .ok (.laload, 1) := by decide +kernel
theorem dX11_sharesTick_94 : decode cX11_sharesTick 94 = .ok (.ldc2_w 334, 3) := by decide +kernel
theorem dX11_sharesTick_97 : decode cX11_sharesTick 97 = .ok (.aload_n 0, 1) := by decide +kernel
theorem dX11_sharesTick_98 : decode cX11_sharesTick 98 = .ok (.getfield 71, 3) := by decide +kernel
theorem dX11_sharesTick_101 : decode cX11_sharesTick 101 = .ok (.iload_n 3, 1) := by decide +kernel
theorem dX11_sharesTick_102 : decode cX11_sharesTick 102 = .ok (.laload, 1) := by decide +kernel
theorem dX11_sharesTick_103 : decode cX11_sharesTick 103 = .ok (.lmul, 1) := by decide +kernel
theorem dX11_sharesTick_104 : decode cX11_sharesTick 104 = .ok (.ladd, 1) := by decide +kernel
theorem dX11_sharesTick_105 : decode cX11_sharesTick 105 = .ok (.lastore, 1) := by decide +kernel
theorem dX11_sharesTick_106 : decode cX11_sharesTick 106 = .ok (.goto 242, 3) := by decide +kernel
theorem dX11_sharesTick_109 : decode cX11_sharesTick 109 = .ok (.aload_n 0, 1) := by decide +kernel
theorem dX11_sharesTick_110 : decode cX11_sharesTick 110 = .ok (.iload_n 1, 1) := by decide +kernel
theorem dX11_sharesTick_111 : decode cX11_sharesTick 111 = .ok (.aload_n 0, 1) := by decide +kernel
theorem dX11_sharesTick_112 : decode cX11_sharesTick 112 = .ok (.getfield 19, 3) := by decide +kernel
theorem dX11_sharesTick_115 : decode cX11_sharesTick 115 = .ok (.iload_n 1, 1) := by decide +kernel
theorem dX11_sharesTick_116 : decode cX11_sharesTick 116 = .ok (.iaload, 1) := by decide +kernel
theorem dX11_sharesTick_117 : decode cX11_sharesTick 117 = .ok (.iload 4, 2) := by decide +kernel
theorem dX11_sharesTick_119 : decode cX11_sharesTick 119 = .ok (.iload 5, 2) := by decide +kernel
theorem dX11_sharesTick_121 : decode cX11_sharesTick 121 = .ok (.invokevirtual 288, 3) := by decide +kernel
theorem dX11_sharesTick_124 : decode cX11_sharesTick 124 = .ok (.bipush 8, 2) := by decide +kernel
theorem dX11_sharesTick_126 : decode cX11_sharesTick 126 = .ok (.aload_n 0, 1) := by decide +kernel
theorem dX11_sharesTick_127 : decode cX11_sharesTick 127 = .ok (.getfield 282, 3) := by decide +kernel
theorem dX11_sharesTick_130 : decode cX11_sharesTick 130 = .ok (.isub, 1) := by decide +kernel
theorem dX11_sharesTick_131 : decode cX11_sharesTick 131 = .ok (.istore 6, 2) := by decide +kernel
theorem dX11_sharesTick_133 : decode cX11_sharesTick 133 = .ok (.bipush 8, 2) := by decide +kernel
theorem dX11_sharesTick_135 : decode cX11_sharesTick 135 = .ok (.aload_n 0, 1) := by decide +kernel
theorem dX11_sharesTick_136 : decode cX11_sharesTick 136 = .ok (.getfield 282, 3) := by decide +kernel
theorem dX11_sharesTick_139 : decode cX11_sharesTick 139 = .ok (.isub, 1) := by decide +kernel
theorem dX11_sharesTick_140 : decode cX11_sharesTick 140 = .ok (.aload_n 0, 1) := by decide +kernel
theorem dX11_sharesTick_141 : decode cX11_sharesTick 141 = .ok (.getfield 285, 3) := by decide +kernel
theorem dX11_sharesTick_144 : decode cX11_sharesTick 144 = .ok (.isub, 1) := by decide +kernel
theorem dX11_sharesTick_145 : decode cX11_sharesTick 145 = .ok (.istore 7, 2) := by decide +kernel
theorem dX11_sharesTick_147 : decode cX11_sharesTick 147 = .ok (.aload_n 0, 1) := by decide +kernel
theorem dX11_sharesTick_148 : decode cX11_sharesTick 148 = .ok (.iload_n 2, 1) := by decide +kernel
theorem dX11_sharesTick_149 : decode cX11_sharesTick 149 = .ok (.aload_n 0, 1) := by decide +kernel
theorem dX11_sharesTick_150 : decode cX11_sharesTick 150 = .ok (.getfield 19, 3) := by decide +kernel
theorem dX11_sharesTick_153 : decode cX11_sharesTick 153 = .ok (.iload_n 2, 1) := by decide +kernel
theorem dX11_sharesTick_154 : decode cX11_sharesTick 154 = .ok (.iaload, 1) := by decide +kernel
theorem dX11_sharesTick_155 : decode cX11_sharesTick 155 = .ok (.iload 4, 2) := by decide +kernel
theorem dX11_sharesTick_157 : decode cX11_sharesTick 157 = .ok (.iload 5, 2) := by decide +kernel
theorem dX11_sharesTick_159 : decode cX11_sharesTick 159 = .ok (.invokevirtual 288, 3) := by decide +kernel
theorem dX11_sharesTick_162 : decode cX11_sharesTick 162 = .ok (.iload 6, 2) := by decide +kernel
theorem dX11_sharesTick_164 : decode cX11_sharesTick 164 = .ok (.bipush 8, 2) := by decide +kernel
theorem dX11_sharesTick_166 : decode cX11_sharesTick 166 = .ok (.aload_n 0, 1) := by decide +kernel
theorem dX11_sharesTick_167 : decode cX11_sharesTick 167 = .ok (.getfield 282, 3) := by decide +kernel
theorem dX11_sharesTick_170 : decode cX11_sharesTick 170 = .ok (.isub, 1) := by decide +kernel
theorem dX11_sharesTick_171 : decode cX11_sharesTick 171 = .ok (.imul, 1) := by decide +kernel
theorem dX11_sharesTick_172 : decode cX11_sharesTick 172 = .ok (.istore 6, 2) := by decide +kernel
theorem dX11_sharesTick_174 : decode cX11_sharesTick 174 = .ok (.iload 7, 2) := by decide +kernel
theorem dX11_sharesTick_176 : decode cX11_sharesTick 176 = .ok (.bipush 8, 2) := by decide +kernel
theorem dX11_sharesTick_178 : decode cX11_sharesTick 178 = .ok (.aload_n 0, 1) := by decide +kernel
theorem dX11_sharesTick_179 : decode cX11_sharesTick 179 = .ok (.getfield 282, 3) := by decide +kernel
theorem dX11_sharesTick_182 : decode cX11_sharesTick 182 = .ok (.isub, 1) := by decide +kernel
theorem dX11_sharesTick_183 : decode cX11_sharesTick 183 = .ok (.aload_n 0, 1) := by decide +kernel
theorem dX11_sharesTick_184 : decode cX11_sharesTick 184 = .ok (.getfield 285, 3) := by decide +kernel
theorem dX11_sharesTick_187 : decode cX11_sharesTick 187 = .ok (.isub, 1) := by decide +kernel
theorem dX11_sharesTick_188 : decode cX11_sharesTick 188 = .ok (.imul, 1) := by decide +kernel
theorem dX11_sharesTick_189 : decode cX11_sharesTick 189 = .ok (.istore 7, 2) := by decide +kernel
theorem dX11_sharesTick_191 : decode cX11_sharesTick 191 = .ok (.aload_n 0, 1) := by decide +kernel
theorem dX11_sharesTick_192 : decode cX11_sharesTick 192 = .ok (.iload_n 1, 1) := by decide +kernel
theorem dX11_sharesTick_193 : decode cX11_sharesTick 193 = .ok (.iload 4, 2) := by decide +kernel
theorem dX11_sharesTick_195 : decode cX11_sharesTick 195 = .ok (.invokevirtual 169, 3) := by decide +kernel
theorem dX11_sharesTick_198 : decode cX11_sharesTick 198 = .ok (.aload_n 0, 1) := by decide +kernel
theorem dX11_sharesTick_199 : decode cX11_sharesTick 199 = .ok (.iload_n 2, 1) := by decide +kernel
theorem dX11_sharesTick_200 : decode cX11_sharesTick 200 = .ok (.iload 4, 2) := by decide +kernel
theorem dX11_sharesTick_202 : decode cX11_sharesTick 202 = .ok (.invokevirtual 169, 3) := by decide +kernel
theorem dX11_sharesTick_205 : decode cX11_sharesTick 205 = .ok (.if_icmp .le 13, 3) := by decide +kernel
theorem dX11_sharesTick_208 : decode cX11_sharesTick 208 = .ok (.aload_n 0, 1) := by decide +kernel
theorem dX11_sharesTick_209 : decode cX11_sharesTick 209 = .ok (.iload_n 1, 1) := by decide +kernel
theorem dX11_sharesTick_210 : decode cX11_sharesTick 210 = .ok (.iload 4, 2) := by decide +kernel
theorem dX11_sharesTick_212 : decode cX11_sharesTick 212 = .ok (.invokevirtual 169, 3) := by decide +kernel
theorem dX11_sharesTick_215 : decode cX11_sharesTick 215 = .ok (.goto 10, 3) := by decide +kernel
theorem dX11_sharesTick_218 : decode cX11_sharesTick 218 = .ok (.aload_n 0, 1) := by decide +kernel
theorem dX11_sharesTick_219 : decode cX11_sharesTick 219 = .ok (.iload_n 2, 1) := by decide +kernel
theorem dX11_sharesTick_220 : decode cX11_sharesTick 220 = .ok (.iload 4, 2) := by decide +kernel
theorem dX11_sharesTick_222 : decode cX11_sharesTick 222 = .ok (.invokevirtual 169, 3) := by decide +kernel
theorem dX11_sharesTick_225 : decode cX11_sharesTick 225 = .ok (.istore 8, 2) := by decide +kernel
theorem dX11_sharesTick_227 : decode cX11_sharesTick 227 = .ok (.bipush 16, 2) := by decide +kernel
theorem dX11_sharesTick_229 : decode cX11_sharesTick 229 = .ok (.iload 4, 2) := by decide +kernel
theorem dX11_sharesTick_231 : decode cX11_sharesTick 231 = .ok (.imul, 1) := by decide +kernel
theorem dX11_sharesTick_232 : decode cX11_sharesTick 232 = .ok (.iconst 5, 1) := by decide +kernel
theorem dX11_sharesTick_233 : decode cX11_sharesTick 233 = .ok (.iadd, 1) := by decide +kernel
theorem dX11_sharesTick_234 : decode cX11_sharesTick 234 = .ok (.iload 8, 2) := by decide +kernel
theorem dX11_sharesTick_236 : decode cX11_sharesTick 236 = .ok (.iadd, 1) := by decide +kernel
theorem dX11_sharesTick_237 : decode cX11_sharesTick 237 = .ok (.istore 9, 2) := by decide +kernel
theorem dX11_sharesTick_239 : decode cX11_sharesTick 239 = .ok (.bipush 16, 2) := by decide +kernel
theorem dX11_sharesTick_241 : decode cX11_sharesTick 241 = .ok (.iload 4, 2) := by decide +kernel
theorem dX11_sharesTick_243 : decode cX11_sharesTick 243 = .ok (.imul, 1) := by decide +kernel
theorem dX11_sharesTick_244 : decode cX11_sharesTick 244 = .ok (.bipush 11, 2) := by decide +kernel
theorem dX11_sharesTick_246 : decode cX11_sharesTick 246 = .ok (.iadd, 1) := by decide +kernel
theorem dX11_sharesTick_247 : decode cX11_sharesTick 247 = .ok (.aload_n 0, 1) := by decide +kernel
theorem dX11_sharesTick_248 : decode cX11_sharesTick 248 = .ok (.getfield 131, 3) := by decide +kernel
theorem dX11_sharesTick_251 : decode cX11_sharesTick 251 = .ok (.iadd, 1) := by decide +kernel
theorem dX11_sharesTick_252 : decode cX11_sharesTick 252 = .ok (.istore 10, 2) := by decide +kernel
theorem dX11_sharesTick_254 : decode cX11_sharesTick 254 = .ok (.bipush 16, 2) := by decide +kernel
theorem dX11_sharesTick_256 : decode cX11_sharesTick 256 = .ok (.iload 4, 2) := by decide +kernel
theorem dX11_sharesTick_258 : decode cX11_sharesTick 258 = .ok (.imul, 1) := by decide +kernel
theorem dX11_sharesTick_259 : decode cX11_sharesTick 259 = .ok (.iload 5, 2) := by decide +kernel
theorem dX11_sharesTick_261 : decode cX11_sharesTick 261 = .ok (.invokestatic 297, 3) := by decide +kernel
theorem dX11_sharesTick_264 : decode cX11_sharesTick 264 = .ok (.iadd, 1) := by decide +kernel
theorem dX11_sharesTick_265 : decode cX11_sharesTick 265 = .ok (.istore 11, 2) := by decide +kernel
theorem dX11_sharesTick_267 : decode cX11_sharesTick 267 = .ok (.aload_n 0, 1) := by decide +kernel
theorem dX11_sharesTick_268 : decode cX11_sharesTick 268 = .ok (.getfield 75, 3) := by decide +kernel
theorem dX11_sharesTick_271 : decode cX11_sharesTick 271 = .ok (.iload 9, 2) := by decide +kernel
theorem dX11_sharesTick_273 : decode cX11_sharesTick 273 = .ok (.aload_n 0, 1) := by decide +kernel
theorem dX11_sharesTick_274 : decode cX11_sharesTick 274 = .ok (.getfield 75, 3) := by decide +kernel
theorem dX11_sharesTick_277 : decode cX11_sharesTick 277 = .ok (.iload 9, 2) := by decide +kernel
theorem dX11_sharesTick_279 : decode cX11_sharesTick 279 = .ok (.laload, 1) := by decide +kernel
theorem dX11_sharesTick_280 : decode cX11_sharesTick 280 = .ok (.bipush 64, 2) := by decide +kernel
theorem dX11_sharesTick_282 : decode cX11_sharesTick 282 = .ok (.iload 6, 2) := by decide +kernel
theorem dX11_sharesTick_284 : decode cX11_sharesTick 284 = .ok (.isub, 1) := by decide +kernel
theorem dX11_sharesTick_285 : decode cX11_sharesTick 285 = .ok (.i2l, 1) := by decide +kernel
theorem dX11_sharesTick_286 : decode cX11_sharesTick 286 = .ok (.aload_n 0, 1) := by decide +kernel
theorem dX11_sharesTick_287 : decode cX11_sharesTick 287 = .ok (.getfield 71, 3) := by decide +kernel
theorem dX11_sharesTick_290 : decode cX11_sharesTick 290 = .ok (.iload_n 3, 1) := by decide +kernel
theorem dX11_sharesTick_291 : decode cX11_sharesTick 291 = .ok (.laload, 1) := by decide +kernel
theorem dX11_sharesTick_292 : decode cX11_sharesTick 292 = .ok (.lmul, 1) := by decide +kernel
theorem dX11_sharesTick_293 : decode cX11_sharesTick 293 = .ok (.ladd, 1) := by decide +kernel
theorem dX11_sharesTick_294 : decode cX11_sharesTick 294 = .ok (.lastore, 1) := by decide +kernel
theorem dX11_sharesTick_295 : decode cX11_sharesTick 295 = .ok (.aload_n 0, 1) := by decide +kernel
theorem dX11_sharesTick_296 : decode cX11_sharesTick 296 = .ok (.getfield 75, 3) := by decide +kernel
theorem dX11_sharesTick_299 : decode cX11_sharesTick 299 = .ok (.iload 10, 2) := by decide +kernel
theorem dX11_sharesTick_301 : decode cX11_sharesTick 301 = .ok (.aload_n 0, 1) := by decide +kernel
theorem dX11_sharesTick_302 : decode cX11_sharesTick 302 = .ok (.getfield 75, 3) := by decide +kernel
theorem dX11_sharesTick_305 : decode cX11_sharesTick 305 = .ok (.iload 10, 2) := by decide +kernel
theorem dX11_sharesTick_307 : decode cX11_sharesTick 307 = .ok (.laload, 1) := by decide +kernel
theorem dX11_sharesTick_308 : decode cX11_sharesTick 308 = .ok (.iload 6, 2) := by decide +kernel
theorem dX11_sharesTick_310 : decode cX11_sharesTick 310 = .ok (.iload 7, 2) := by decide +kernel
theorem dX11_sharesTick_312 : decode cX11_sharesTick 312 = .ok (.isub, 1) := by decide +kernel
theorem dX11_sharesTick_313 : decode cX11_sharesTick 313 = .ok (.i2l, 1) := by decide +kernel
theorem dX11_sharesTick_314 : decode cX11_sharesTick 314 = .ok (.aload_n 0, 1) := by decide +kernel
theorem dX11_sharesTick_315 : decode cX11_sharesTick 315 = .ok (.getfield 71, 3) := by decide +kernel
theorem dX11_sharesTick_318 : decode cX11_sharesTick 318 = .ok (.iload_n 3, 1) := by decide +kernel
theorem dX11_sharesTick_319 : decode cX11_sharesTick 319 = .ok (.laload, 1) := by decide +kernel
theorem dX11_sharesTick_320 : decode cX11_sharesTick 320 = .ok (.lmul, 1) := by decide +kernel
theorem dX11_sharesTick_321 : decode cX11_sharesTick 321 = .ok (.ladd, 1) := by decide +kernel
theorem dX11_sharesTick_322 : decode cX11_sharesTick 322 = .ok (.lastore, 1) := by decide +kernel
theorem dX11_sharesTick_323 : decode cX11_sharesTick 323 = .ok (.aload_n 0, 1) := by decide +kernel
theorem dX11_sharesTick_324 : decode cX11_sharesTick 324 = .ok (.getfield 75, 3) := by decide +kernel
theorem dX11_sharesTick_327 : decode cX11_sharesTick 327 = .ok (.iload 11, 2) := by decide +kernel
theorem dX11_sharesTick_329 : decode cX11_sharesTick 329 = .ok (.aload_n 0, 1) := by decide +kernel
theorem dX11_sharesTick_330 : decode cX11_sharesTick 330 = .ok (.getfield 75, 3) := by decide +kernel
theorem dX11_sharesTick_333 : decode cX11_sharesTick 333 = .ok (.iload 11, 2) := by decide +kernel
theorem dX11_sharesTick_335 : decode cX11_sharesTick 335 = .ok (.laload, 1) := by decide +kernel
theorem dX11_sharesTick_336 : decode cX11_sharesTick 336 = .ok (.iload 7, 2) := by decide +kernel
theorem dX11_sharesTick_338 : decode cX11_sharesTick 338 = .ok (.i2l, 1) := by decide +kernel
theorem dX11_sharesTick_339 : decode cX11_sharesTick 339 = .ok (.aload_n 0, 1) := by decide +kernel
theorem dX11_sharesTick_340 : decode cX11_sharesTick 340 = .ok (.getfield 71, 3) := by decide +kernel
theorem dX11_sharesTick_343 : decode cX11_sharesTick 343 = .ok (.iload_n 3, 1) := by decide +kernel
theorem dX11_sharesTick_344 : decode cX11_sharesTick 344 = .ok (.laload, 1) := by decide +kernel
theorem dX11_sharesTick_345 : decode cX11_sharesTick 345 = .ok (.lmul, 1) := by decide +kernel
theorem dX11_sharesTick_346 : decode cX11_sharesTick 346 = .ok (.ladd, 1) := by decide +kernel
theorem dX11_sharesTick_347 : decode cX11_sharesTick 347 = .ok (.lastore, 1) := by decide +kernel
theorem dX11_sharesTick_348 : decode cX11_sharesTick 348 = .ok (.iinc 3 1, 3) := by decide +kernel
theorem dX11_sharesTick_351 : decode cX11_sharesTick 351 = .ok (.goto (-323), 3) := by decide +kernel
theorem dX11_sharesTick_354 : decode cX11_sharesTick 354 = .ok (.iconst 0, 1) := by decide +kernel
theorem dX11_sharesTick_355 : decode cX11_sharesTick 355 = .ok (.istore_n 3, 1) := by decide +kernel
theorem dX11_sharesTick_356 : decode cX11_sharesTick 356 = .ok (.iload_n 3, 1) := by decide +kernel
theorem dX11_sharesTick_357 : decode cX11_sharesTick 357 = .ok (.bipush 16, 2) := by decide +kernel
theorem dX11_sharesTick_359 : decode cX11_sharesTick 359 = .ok (.aload_n 0, 1) := by decide +kernel
theorem dX11_sharesTick_360 : decode cX11_sharesTick 360 = .ok (.getfield 141, 3) := by decide +kernel
theorem dX11_sharesTick_363 : decode cX11_sharesTick 363 = .ok (.imul, 1) := by decide +kernel
theorem dX11_sharesTick_364 : decode cX11_sharesTick 364 = .ok (.if_icmp .ge 21, 3) := by decide +kernel
theorem dX11_sharesTick_367 : decode cX11_sharesTick 367 = .ok (.aload_n 0, 1) := by decide +kernel
theorem dX11_sharesTick_368 : decode cX11_sharesTick 368 = .ok (.getfield 71, 3) := by decide +kernel
theorem dX11_sharesTick_371 : decode cX11_sharesTick 371 = .ok (.iload_n 3, 1) := by decide +kernel
theorem dX11_sharesTick_372 : decode cX11_sharesTick 372 = .ok (.aload_n 0, 1) := by decide +kernel
theorem dX11_sharesTick_373 : decode cX11_sharesTick 373 = .ok (.getfield 75, 3) := by decide +kernel
theorem dX11_sharesTick_376 : decode cX11_sharesTick 376 = .ok (.iload_n 3, 1) := by decide +kernel
theorem dX11_sharesTick_377 : decode cX11_sharesTick 377 = .ok (.laload, 1) := by decide +kernel
theorem dX11_sharesTick_378 : decode cX11_sharesTick 378 = .ok (.lastore, 1) := by decide +kernel
theorem dX11_sharesTick_379 : decode cX11_sharesTick 379 = .ok (.iinc 3 1, 3) := by decide +kernel
theorem dX11_sharesTick_382 : decode cX11_sharesTick 382 = .ok (.goto (-26), 3) := by decide +kernel
theorem dX11_sharesTick_385 : decode cX11_sharesTick 385 = .ok (.return_, 1) := by decide +kernel
theorem dX11_share_0 : decode cX11_share 0 = .ok (.aload_n 0, 1) := by decide +kernel
theorem dX11_share_1 : decode cX11_share 1 = .ok (.iload_n 1, 1) := by decide +kernel
theorem dX11_share_2 : decode cX11_share 2 = .ok (.iload_n 2, 1) := by decide +kernel
theorem dX11_share_3 : decode cX11_share 3 = .ok (.invokevirtual 323, 3) := by decide +kernel
theorem dX11_share_6 : decode cX11_share 6 = .ok (.ifCond .eq 13, 3) := by decide +kernel
theorem dX11_share_9 : decode cX11_share 9 = .ok (.iload_n 3, 1) := by decide +kernel
theorem dX11_share_10 : decode cX11_share 10 = .ok (.iconst 1, 1) := by decide +kernel
theorem dX11_share_11 : decode cX11_share 11 = .ok (.bipush 10, 2) := by decide +kernel
theorem dX11_share_13 : decode cX11_share 13 = .ok (.invokestatic 148, 3) := by decide +kernel
theorem dX11_share_16 : decode cX11_share 16 = .ok (.ifCond .ne 7, 3) := by decide +kernel
theorem dX11_share_19 : decode cX11_share 19 = .ok (.ldc2_w 308, 3) := by decide +kernel
theorem dX11_share_22 : decode cX11_share 22 = .ok (.lreturn, 1) := by decide +kernel
theorem dX11_share_23 : decode cX11_share 23 = .ok (.iconst 0, 1) := by decide +kernel
theorem dX11_share_24 : decode cX11_share 24 = .ok (.istore 4, 2) := by decide +kernel
theorem dX11_share_26 : decode cX11_share 26 = .ok (.iload 4, 2) := by decide +kernel
theorem dX11_share_28 : decode cX11_share 28 = .ok (.bipush 16, 2) := by decide +kernel
theorem dX11_share_30 : decode cX11_share 30 = .ok (.aload_n 0, 1) := by decide +kernel
theorem dX11_share_31 : decode cX11_share 31 = .ok (.getfield 141, 3) := by decide +kernel
theorem dX11_share_34 : decode cX11_share 34 = .ok (.imul, 1) := by decide +kernel
theorem dX11_share_35 : decode cX11_share 35 = .ok (.if_icmp .ge 17, 3) := by decide +kernel
theorem dX11_share_38 : decode cX11_share 38 = .ok (.aload_n 0, 1) := by decide +kernel
theorem dX11_share_39 : decode cX11_share 39 = .ok (.getfield 71, 3) := by decide +kernel
theorem dX11_share_42 : decode cX11_share 42 = .ok (.iload 4, 2) := by decide +kernel
theorem dX11_share_44 : decode cX11_share 44 = .ok (.lconst 0, 1) := by decide +kernel
theorem dX11_share_45 : decode cX11_share 45 = .ok (.lastore, 1) := by decide +kernel
theorem dX11_share_46 : decode cX11_share 46 = .ok (.iinc 4 1, 3) := by decide +kernel
theorem dX11_share_49 : decode cX11_share 49 = .ok (.goto (-23), 3) := by decide +kernel
theorem dX11_share_52 : decode cX11_share 52 = .ok (.aload_n 0, 1) := by decide +kernel
theorem dX11_share_53 : decode cX11_share 53 = .ok (.getfield 71, 3) := by decide +kernel
theorem dX11_share_56 : decode cX11_share 56 = .ok (.iconst 0, 1) := by decide +kernel
theorem dX11_share_57 : decode cX11_share 57 = .ok (.lconst 1, 1) := by decide +kernel
theorem dX11_share_58 : decode cX11_share 58 = .ok (.lastore, 1) := by decide +kernel
theorem dX11_share_59 : decode cX11_share 59 = .ok (.lconst 0, 1) := by decide +kernel
theorem dX11_share_60 : decode cX11_share 60 = .ok (.lstore 4, 2) := by decide +kernel
theorem dX11_share_62 : decode cX11_share 62 = .ok (.iconst 1, 1) := by decide +kernel
theorem dX11_share_63 : decode cX11_share 63 = .ok (.istore 6, 2) := by decide +kernel
theorem dX11_share_65 : decode cX11_share 65 = .ok (.iload 6, 2) := by decide +kernel
theorem dX11_share_67 : decode cX11_share 67 = .ok (.iload_n 3, 1) := by decide +kernel
theorem dX11_share_68 : decode cX11_share 68 = .ok (.if_icmp .gt 36, 3) := by decide +kernel
theorem dX11_share_71 : decode cX11_share 71 = .ok (.aload_n 0, 1) := by decide +kernel
theorem dX11_share_72 : decode cX11_share 72 = .ok (.iload_n 1, 1) := by decide +kernel
theorem dX11_share_73 : decode cX11_share 73 = .ok (.iload_n 2, 1) := by decide +kernel
theorem dX11_share_74 : decode cX11_share 74 = .ok (.invokevirtual 336, 3) := by decide +kernel
theorem dX11_share_77 : decode cX11_share 77 = .ok (.ldc2_w 334, 3) := by decide +kernel
theorem dX11_share_80 : decode cX11_share 80 = .ok (.lload 4, 2) := by decide +kernel
theorem dX11_share_82 : decode cX11_share 82 = .ok (.lmul, 1) := by decide +kernel
theorem dX11_share_83 : decode cX11_share 83 = .ok (.aload_n 0, 1) := by decide +kernel
theorem dX11_share_84 : decode cX11_share 84 = .ok (.getfield 75, 3) := by decide +kernel
theorem dX11_share_87 : decode cX11_share 87 = .ok (.bipush 16, 2) := by decide +kernel
theorem dX11_share_89 : decode cX11_share 89 = .ok (.aload_n 0, 1) := by decide +kernel
theorem dX11_share_90 : decode cX11_share 90 = .ok (.getfield 141, 3) := by decide +kernel
theorem dX11_share_93 : decode cX11_share 93 = .ok (.imul, 1) := by decide +kernel
theorem dX11_share_94 : decode cX11_share 94 = .ok (.laload, 1) := by decide +kernel
theorem dX11_share_95 : decode cX11_share 95 = .ok (.ladd, 1) := by decide +kernel
theorem dX11_share_96 : decode cX11_share 96 = .ok (.lstore 4, 2) := by decide +kernel
theorem dX11_share_98 : decode cX11_share 98 = .ok (.iinc 6 1, 3) := by decide +kernel
theorem dX11_share_101 : decode cX11_share 101 = .ok (.goto (-36), 3) := by decide +kernel
theorem dX11_share_104 : decode cX11_share 104 = .ok (.lload 4, 2) := by decide +kernel
theorem dX11_share_106 : decode cX11_share 106 = .ok (.lreturn, 1) := by decide +kernel
theorem dX11_solvesAfter_0 : decode cX11_solvesAfter 0 = .ok (.iload 4, 2) := by decide +kernel
theorem dX11_solvesAfter_2 : decode cX11_solvesAfter 2 = .ok (.iload 5, 2) := by decide +kernel
theorem dX11_solvesAfter_4 : decode cX11_solvesAfter 4 = .ok (.if_icmp .le 8, 3) := by decide +kernel
theorem dX11_solvesAfter_7 : decode cX11_solvesAfter 7 = .ok (.iload 4, 2) := by decide +kernel
theorem dX11_solvesAfter_9 : decode cX11_solvesAfter 9 = .ok (.goto 5, 3) := by decide +kernel
theorem dX11_solvesAfter_12 : decode cX11_solvesAfter 12 = .ok (.iload 5, 2) := by decide +kernel
theorem dX11_solvesAfter_14 : decode cX11_solvesAfter 14 = .ok (.aload_n 0, 1) := by decide +kernel
theorem dX11_solvesAfter_15 : decode cX11_solvesAfter 15 = .ok (.iload_n 1, 1) := by decide +kernel
theorem dX11_solvesAfter_16 : decode cX11_solvesAfter 16 = .ok (.iload_n 3, 1) := by decide +kernel
theorem dX11_solvesAfter_17 : decode cX11_solvesAfter 17 = .ok (.invokevirtual 169, 3) := by decide +kernel
theorem dX11_solvesAfter_20 : decode cX11_solvesAfter 20 = .ok (.iadd, 1) := by decide +kernel
theorem dX11_solvesAfter_21 : decode cX11_solvesAfter 21 = .ok (.istore 9, 2) := by decide +kernel
theorem dX11_solvesAfter_23 : decode cX11_solvesAfter 23 = .ok (.iload_n 3, 1) := by decide +kernel
theorem dX11_solvesAfter_24 : decode cX11_solvesAfter 24 = .ok (.iconst 1, 1) := by decide +kernel
theorem dX11_solvesAfter_25 : decode cX11_solvesAfter 25 = .ok (.iadd, 1) := by decide +kernel
theorem dX11_solvesAfter_26 : decode cX11_solvesAfter 26 = .ok (.aload_n 0, 1) := by decide +kernel
theorem dX11_solvesAfter_27 : decode cX11_solvesAfter 27 = .ok (.getfield 141, 3) := by decide +kernel
theorem dX11_solvesAfter_30 : decode cX11_solvesAfter 30 = .ok (.if_icmp .ge 54, 3) := by decide +kernel
theorem dX11_solvesAfter_33 : decode cX11_solvesAfter 33 = .ok (.bipush 13, 2) := by decide +kernel
theorem dX11_solvesAfter_35 : decode cX11_solvesAfter 35 = .ok (.bipush 16, 2) := by decide +kernel
theorem dX11_solvesAfter_37 : decode cX11_solvesAfter 37 = .ok (.iload_n 3, 1) := by decide +kernel
theorem dX11_solvesAfter_38 : decode cX11_solvesAfter 38 = .ok (.imul, 1) := by decide +kernel
theorem dX11_solvesAfter_39 : decode cX11_solvesAfter 39 = .ok (.iconst 5, 1) := by decide +kernel
theorem dX11_solvesAfter_40 : decode cX11_solvesAfter 40 = .ok (.iadd, 1) := by decide +kernel
theorem dX11_solvesAfter_41 : decode cX11_solvesAfter 41 = .ok (.aload_n 0, 1) := by decide +kernel
theorem dX11_solvesAfter_42 : decode cX11_solvesAfter 42 = .ok (.iload_n 2, 1) := by decide +kernel
theorem dX11_solvesAfter_43 : decode cX11_solvesAfter 43 = .ok (.iload_n 3, 1) := by decide +kernel
theorem dX11_solvesAfter_44 : decode cX11_solvesAfter 44 = .ok (.invokevirtual 169, 3) := by decide +kernel
theorem dX11_solvesAfter_47 : decode cX11_solvesAfter 47 = .ok (.iadd, 1) := by decide +kernel
theorem dX11_solvesAfter_48 : decode cX11_solvesAfter 48 = .ok (.imul, 1) := by decide +kernel
theorem dX11_solvesAfter_49 : decode cX11_solvesAfter 49 = .ok (.iload 9, 2) := by decide +kernel
theorem dX11_solvesAfter_51 : decode cX11_solvesAfter 51 = .ok (.bipush 12, 2) := by decide +kernel
theorem dX11_solvesAfter_53 : decode cX11_solvesAfter 53 = .ok (.if_icmp .le 8, 3) := by decide +kernel
theorem dX11_solvesAfter_56 : decode cX11_solvesAfter 56 = .ok (.bipush 12, 2) := by decide +kernel
theorem dX11_solvesAfter_58 : decode cX11_solvesAfter 58 = .ok (.goto 5, 3) := by decide +kernel
theorem dX11_solvesAfter_61 : decode cX11_solvesAfter 61 = .ok (.iload 9, 2) := by decide +kernel
theorem dX11_solvesAfter_63 : decode cX11_solvesAfter 63 = .ok (.iadd, 1) := by decide +kernel
theorem dX11_solvesAfter_64 : decode cX11_solvesAfter 64 = .ok (.istore 10, 2) := by decide +kernel
theorem dX11_solvesAfter_66 : decode cX11_solvesAfter 66 = .ok (.aload_n 0, 1) := by decide +kernel
theorem dX11_solvesAfter_67 : decode cX11_solvesAfter 67 = .ok (.getfield 75, 3) := by decide +kernel
theorem dX11_solvesAfter_70 : decode cX11_solvesAfter 70 = .ok (.iload 10, 2) := by decide +kernel
theorem dX11_solvesAfter_72 : decode cX11_solvesAfter 72 = .ok (.aload_n 0, 1) := by decide +kernel
theorem dX11_solvesAfter_73 : decode cX11_solvesAfter 73 = .ok (.getfield 75, 3) := by decide +kernel
theorem dX11_solvesAfter_76 : decode cX11_solvesAfter 76 = .ok (.iload 10, 2) := by decide +kernel
theorem dX11_solvesAfter_78 : decode cX11_solvesAfter 78 = .ok (.laload, 1) := by decide +kernel
theorem dX11_solvesAfter_79 : decode cX11_solvesAfter 79 = .ok (.lload 7, 2) := by decide +kernel
theorem dX11_solvesAfter_81 : decode cX11_solvesAfter 81 = .ok (.ladd, 1) := by decide +kernel
theorem dX11_solvesAfter_82 : decode cX11_solvesAfter 82 = .ok (.lastore, 1) := by decide +kernel
theorem dX11_solvesAfter_83 : decode cX11_solvesAfter 83 = .ok (.return_, 1) := by decide +kernel
theorem dX11_solvesAfter_84 : decode cX11_solvesAfter 84 = .ok (.iload 9, 2) := by decide +kernel
theorem dX11_solvesAfter_86 : decode cX11_solvesAfter 86 = .ok (.iload 6, 2) := by decide +kernel
theorem dX11_solvesAfter_88 : decode cX11_solvesAfter 88 = .ok (.if_icmp .le 4, 3) := by decide +kernel
theorem dX11_solvesAfter_91 : decode cX11_solvesAfter 91 = .ok (.return_, 1) := by decide +kernel
theorem dX11_solvesAfter_92 : decode cX11_solvesAfter 92 = .ok (.lload 7, 2) := by decide +kernel
theorem dX11_solvesAfter_94 : decode cX11_solvesAfter 94 = .ok (.iload 6, 2) := by decide +kernel
theorem dX11_solvesAfter_96 : decode cX11_solvesAfter 96 = .ok (.iload 4, 2) := by decide +kernel
theorem dX11_solvesAfter_98 : decode cX11_solvesAfter 98 = .ok (.isub, 1) := by decide +kernel
theorem dX11_solvesAfter_99 : decode cX11_solvesAfter 99 = .ok (.invokestatic 313, 3) := by decide +kernel
theorem dX11_solvesAfter_102 : decode cX11_solvesAfter 102 = .ok (.lmul, 1) := by decide +kernel
theorem dX11_solvesAfter_103 : decode cX11_solvesAfter 103 = .ok (.lstore 10, 2) := by decide +kernel
theorem dX11_solvesAfter_105 : decode cX11_solvesAfter 105 = .ok (.aload_n 0, 1) := by decide +kernel
theorem dX11_solvesAfter_106 : decode cX11_solvesAfter 106 = .ok (.aload_n 0, 1) := by decide +kernel
theorem dX11_solvesAfter_107 : decode cX11_solvesAfter 107 = .ok (.getfield 339, 3) := by decide +kernel
theorem dX11_solvesAfter_110 : decode cX11_solvesAfter 110 = .ok (.lload 10, 2) := by decide +kernel
theorem dX11_solvesAfter_112 : decode cX11_solvesAfter 112 = .ok (.ladd, 1) := by decide +kernel
theorem dX11_solvesAfter_113 : decode cX11_solvesAfter 113 = .ok (.putfield 339, 3) := by decide +kernel
theorem dX11_solvesAfter_116 : decode cX11_solvesAfter 116 = .ok (.aload_n 0, 1) := by decide +kernel
theorem dX11_solvesAfter_117 : decode cX11_solvesAfter 117 = .ok (.aload_n 0, 1) := by decide +kernel
theorem dX11_solvesAfter_118 : decode cX11_solvesAfter 118 = .ok (.getfield 342, 3) := by decide +kernel
theorem dX11_solvesAfter_121 : decode cX11_solvesAfter 121 = .ok (.iload 9, 2) := by decide +kernel
theorem dX11_solvesAfter_123 : decode cX11_solvesAfter 123 = .ok (.iload 4, 2) := by decide +kernel
theorem dX11_solvesAfter_125 : decode cX11_solvesAfter 125 = .ok (.aload_n 0, 1) := by decide +kernel
theorem dX11_solvesAfter_126 : decode cX11_solvesAfter 126 = .ok (.iload_n 2, 1) := by decide +kernel
theorem dX11_solvesAfter_127 : decode cX11_solvesAfter 127 = .ok (.iload_n 3, 1) := by decide +kernel
theorem dX11_solvesAfter_128 : decode cX11_solvesAfter 128 = .ok (.invokevirtual 169, 3) := by decide +kernel
theorem dX11_solvesAfter_131 : decode cX11_solvesAfter 131 = .ok (.iadd, 1) := by decide +kernel
theorem dX11_solvesAfter_132 : decode cX11_solvesAfter 132 = .ok (.if_icmp .ge 8, 3) := by decide +kernel
theorem dX11_solvesAfter_135 : decode cX11_solvesAfter 135 = .ok (.lload 10, 2) := by decide +kernel
theorem dX11_solvesAfter_137 : decode cX11_solvesAfter 137 = .ok (.goto 4, 3) := by decide +kernel
theorem dX11_solvesAfter_140 : decode cX11_solvesAfter 140 = .ok (.lconst 0, 1) := by decide +kernel
theorem dX11_solvesAfter_141 : decode cX11_solvesAfter 141 = .ok (.ladd, 1) := by decide +kernel
theorem dX11_solvesAfter_142 : decode cX11_solvesAfter 142 = .ok (.putfield 342, 3) := by decide +kernel
theorem dX11_solvesAfter_145 : decode cX11_solvesAfter 145 = .ok (.return_, 1) := by decide +kernel
theorem dX11_afterTick_0 : decode cX11_afterTick 0 = .ok (.iconst 0, 1) := by decide +kernel
theorem dX11_afterTick_1 : decode cX11_afterTick 1 = .ok (.istore 5, 2) := by decide +kernel
theorem dX11_afterTick_3 : decode cX11_afterTick 3 = .ok (.iload 5, 2) := by decide +kernel
theorem dX11_afterTick_5 : decode cX11_afterTick 5 = .ok (.sipush 1040, 3) := by decide +kernel
theorem dX11_afterTick_8 : decode cX11_afterTick 8 = .ok (.if_icmp .ge 17, 3) := by decide +kernel
theorem dX11_afterTick_11 : decode cX11_afterTick 11 = .ok (.aload_n 0, 1) := by decide +kernel
theorem dX11_afterTick_12 : decode cX11_afterTick 12 = .ok (.getfield 75, 3) := by decide +kernel
theorem dX11_afterTick_15 : decode cX11_afterTick 15 = .ok (.iload 5, 2) := by decide +kernel
theorem dX11_afterTick_17 : decode cX11_afterTick 17 = .ok (.lconst 0, 1) := by decide +kernel
theorem dX11_afterTick_18 : decode cX11_afterTick 18 = .ok (.lastore, 1) := by decide +kernel
theorem dX11_afterTick_19 : decode cX11_afterTick 19 = .ok (.iinc 5 1, 3) := by decide +kernel
theorem dX11_afterTick_22 : decode cX11_afterTick 22 = .ok (.goto (-19), 3) := by decide +kernel
theorem dX11_afterTick_25 : decode cX11_afterTick 25 = .ok (.iconst 0, 1) := by decide +kernel
theorem dX11_afterTick_26 : decode cX11_afterTick 26 = .ok (.istore 5, 2) := by decide +kernel
theorem dX11_afterTick_28 : decode cX11_afterTick 28 = .ok (.iload 5, 2) := by decide +kernel
theorem dX11_afterTick_30 : decode cX11_afterTick 30 = .ok (.sipush 208, 3) := by decide +kernel
theorem dX11_afterTick_33 : decode cX11_afterTick 33 = .ok (.aload_n 0, 1) := by decide +kernel
theorem dX11_afterTick_34 : decode cX11_afterTick 34 = .ok (.getfield 141, 3) := by decide +kernel
theorem dX11_afterTick_37 : decode cX11_afterTick 37 = .ok (.imul, 1) := by decide +kernel
theorem dX11_afterTick_38 : decode cX11_afterTick 38 = .ok (.if_icmp .ge 256, 3) := by decide +kernel
theorem dX11_afterTick_41 : decode cX11_afterTick 41 = .ok (.aload_n 0, 1) := by decide +kernel
theorem dX11_afterTick_42 : decode cX11_afterTick 42 = .ok (.getfield 71, 3) := by decide +kernel
theorem dX11_afterTick_45 : decode cX11_afterTick 45 = .ok (.iload 5, 2) := by decide +kernel
theorem dX11_afterTick_47 : decode cX11_afterTick 47 = .ok (.laload, 1) := by decide +kernel
theorem dX11_afterTick_48 : decode cX11_afterTick 48 = .ok (.lconst 0, 1) := by decide +kernel
theorem dX11_afterTick_49 : decode cX11_afterTick 49 = .ok (.lcmp, 1) := by decide +kernel
theorem dX11_afterTick_50 : decode cX11_afterTick 50 = .ok (.ifCond .ne 6, 3) := by decide +kernel
theorem dX11_afterTick_53 : decode cX11_afterTick 53 = .ok (.goto 235, 3) := by decide +kernel
theorem dX11_afterTick_56 : decode cX11_afterTick 56 = .ok (.iload 5, 2) := by decide +kernel
theorem dX11_afterTick_58 : decode cX11_afterTick 58 = .ok (.bipush 13, 2) := by decide +kernel
theorem dX11_afterTick_60 : decode cX11_afterTick 60 = .ok (.idiv, 1) := by decide +kernel
theorem dX11_afterTick_61 : decode cX11_afterTick 61 = .ok (.istore 6, 2) := by decide +kernel
theorem dX11_afterTick_63 : decode cX11_afterTick 63 = .ok (.iload 5, 2) := by decide +kernel
theorem dX11_afterTick_65 : decode cX11_afterTick 65 = .ok (.bipush 13, 2) := by decide +kernel
theorem dX11_afterTick_67 : decode cX11_afterTick 67 = .ok (.irem, 1) := by decide +kernel
theorem dX11_afterTick_68 : decode cX11_afterTick 68 = .ok (.istore 7, 2) := by decide +kernel
theorem dX11_afterTick_70 : decode cX11_afterTick 70 = .ok (.iload 6, 2) := by decide +kernel
theorem dX11_afterTick_72 : decode cX11_afterTick 72 = .ok (.bipush 16, 2) := by decide +kernel
theorem dX11_afterTick_74 : decode cX11_afterTick 74 = .ok (.idiv, 1) := by decide +kernel
theorem dX11_afterTick_75 : decode cX11_afterTick 75 = .ok (.istore 8, 2) := by decide +kernel
theorem dX11_afterTick_77 : decode cX11_afterTick 77 = .ok (.iload 6, 2) := by decide +kernel
theorem dX11_afterTick_79 : decode cX11_afterTick 79 = .ok (.bipush 16, 2) := by decide +kernel
theorem dX11_afterTick_81 : decode cX11_afterTick 81 = .ok (.irem, 1) := by decide +kernel
theorem dX11_afterTick_82 : decode cX11_afterTick 82 = .ok (.istore 9, 2) := by decide +kernel
theorem dX11_afterTick_84 : decode cX11_afterTick 84 = .ok (.iload 9, 2) := by decide +kernel
theorem dX11_afterTick_86 : decode cX11_afterTick 86 = .ok (.iconst 5, 1) := by decide +kernel
theorem dX11_afterTick_87 : decode cX11_afterTick 87 = .ok (.if_icmp .le 49, 3) := by decide +kernel
theorem dX11_afterTick_90 : decode cX11_afterTick 90 = .ok (.bipush 13, 2) := by decide +kernel
theorem dX11_afterTick_92 : decode cX11_afterTick 92 = .ok (.iload 6, 2) := by decide +kernel
theorem dX11_afterTick_94 : decode cX11_afterTick 94 = .ok (.aload_n 0, 1) := by decide +kernel
theorem dX11_afterTick_95 : decode cX11_afterTick 95 = .ok (.getfield 141, 3) := by decide +kernel
theorem dX11_afterTick_98 : decode cX11_afterTick 98 = .ok (.invokestatic 292, 3) := by decide +kernel
theorem dX11_afterTick_101 : decode cX11_afterTick 101 = .ok (.imul, 1) := by decide +kernel
theorem dX11_afterTick_102 : decode cX11_afterTick 102 = .ok (.iload 7, 2) := by decide +kernel
theorem dX11_afterTick_104 : decode cX11_afterTick 104 = .ok (.iadd, 1) := by decide +kernel
theorem dX11_afterTick_105 : decode cX11_afterTick 105 = .ok (.istore 10, 2) := by decide +kernel
theorem dX11_afterTick_107 : decode cX11_afterTick 107 = .ok (.aload_n 0, 1) := by decide +kernel
theorem dX11_afterTick_108 : decode cX11_afterTick 108 = .ok (.getfield 75, 3) := by decide +kernel
theorem dX11_afterTick_111 : decode cX11_afterTick 111 = .ok (.iload 10, 2) := by decide +kernel
theorem dX11_afterTick_113 : decode cX11_afterTick 113 = .ok (.aload_n 0, 1) := by decide +kernel
theorem dX11_afterTick_114 : decode cX11_afterTick 114 = .ok (.getfield 75, 3) := by decide +kernel
theorem dX11_afterTick_117 : decode cX11_afterTick 117 = .ok (.iload 10, 2) := by decide +kernel
theorem dX11_afterTick_119 : decode cX11_afterTick 119 = .ok (.laload, 1) := by decide +kernel
theorem dX11_afterTick_120 : decode cX11_afterTick 120 = .ok (.ldc2_w 295, 3) := by decide +kernel
theorem dX11_afterTick_123 : decode cX11_afterTick 123 = .ok (.aload_n 0, 1) := by decide +kernel
theorem dX11_afterTick_124 : decode cX11_afterTick 124 = .ok (.getfield 71, 3) := by decide +kernel
theorem dX11_afterTick_127 : decode cX11_afterTick 127 = .ok (.iload 5, 2) := by decide +kernel
theorem dX11_afterTick_129 : decode cX11_afterTick 129 = .ok (.laload, 1) := by decide +kernel
theorem dX11_afterTick_130 : decode cX11_afterTick 130 = .ok (.lmul, 1) := by decide +kernel
theorem dX11_afterTick_131 : decode cX11_afterTick 131 = .ok (.ladd, 1) := by decide +kernel
theorem dX11_afterTick_132 : decode cX11_afterTick 132 = .ok (.lastore, 1) := by decide +kernel
theorem dX11_afterTick_133 : decode cX11_afterTick 133 = .ok (.goto 155, 3) := by decide +kernel
theorem dX11_afterTick_136 : decode cX11_afterTick 136 = .ok (.aload_n 0, 1) := by decide +kernel
theorem dX11_afterTick_137 : decode cX11_afterTick 137 = .ok (.iload_n 2, 1) := by decide +kernel
theorem dX11_afterTick_138 : decode cX11_afterTick 138 = .ok (.aload_n 0, 1) := by decide +kernel
theorem dX11_afterTick_139 : decode cX11_afterTick 139 = .ok (.getfield 19, 3) := by decide +kernel
theorem dX11_afterTick_142 : decode cX11_afterTick 142 = .ok (.iload_n 2, 1) := by decide +kernel
theorem dX11_afterTick_143 : decode cX11_afterTick 143 = .ok (.iaload, 1) := by decide +kernel
theorem dX11_afterTick_144 : decode cX11_afterTick 144 = .ok (.iload 8, 2) := by decide +kernel
theorem dX11_afterTick_146 : decode cX11_afterTick 146 = .ok (.iload 9, 2) := by decide +kernel
theorem dX11_afterTick_148 : decode cX11_afterTick 148 = .ok (.invokevirtual 288, 3) := by decide +kernel
theorem dX11_afterTick_151 : decode cX11_afterTick 151 = .ok (.bipush 13, 2) := by decide +kernel
theorem dX11_afterTick_153 : decode cX11_afterTick 153 = .ok (.bipush 16, 2) := by decide +kernel
theorem dX11_afterTick_155 : decode cX11_afterTick 155 = .ok (.iload 8, 2) := by decide +kernel
theorem dX11_afterTick_157 : decode cX11_afterTick 157 = .ok (.imul, 1) := by decide +kernel
theorem dX11_afterTick_158 : decode cX11_afterTick 158 = .ok (.bipush 11, 2) := by decide +kernel
theorem dX11_afterTick_160 : decode cX11_afterTick 160 = .ok (.iadd, 1) := by decide +kernel
theorem dX11_afterTick_161 : decode cX11_afterTick 161 = .ok (.aload_n 0, 1) := by decide +kernel
theorem dX11_afterTick_162 : decode cX11_afterTick 162 = .ok (.getfield 131, 3) := by decide +kernel
theorem dX11_afterTick_165 : decode cX11_afterTick 165 = .ok (.iadd, 1) := by decide +kernel
theorem dX11_afterTick_166 : decode cX11_afterTick 166 = .ok (.imul, 1) := by decide +kernel
theorem dX11_afterTick_167 : decode cX11_afterTick 167 = .ok (.iload 7, 2) := by decide +kernel
theorem dX11_afterTick_169 : decode cX11_afterTick 169 = .ok (.iadd, 1) := by decide +kernel
theorem dX11_afterTick_170 : decode cX11_afterTick 170 = .ok (.istore 10, 2) := by decide +kernel
theorem dX11_afterTick_172 : decode cX11_afterTick 172 = .ok (.bipush 13, 2) := by decide +kernel
theorem dX11_afterTick_174 : decode cX11_afterTick 174 = .ok (.bipush 16, 2) := by decide +kernel
theorem dX11_afterTick_176 : decode cX11_afterTick 176 = .ok (.iload 8, 2) := by decide +kernel
theorem dX11_afterTick_178 : decode cX11_afterTick 178 = .ok (.imul, 1) := by decide +kernel
theorem dX11_afterTick_179 : decode cX11_afterTick 179 = .ok (.iload 9, 2) := by decide +kernel
theorem dX11_afterTick_181 : decode cX11_afterTick 181 = .ok (.invokestatic 297, 3) := by decide +kernel
theorem dX11_afterTick_184 : decode cX11_afterTick 184 = .ok (.iadd, 1) := by decide +kernel
theorem dX11_afterTick_185 : decode cX11_afterTick 185 = .ok (.imul, 1) := by decide +kernel
theorem dX11_afterTick_186 : decode cX11_afterTick 186 = .ok (.iload 7, 2) := by decide +kernel
theorem dX11_afterTick_188 : decode cX11_afterTick 188 = .ok (.iadd, 1) := by decide +kernel
theorem dX11_afterTick_189 : decode cX11_afterTick 189 = .ok (.istore 11, 2) := by decide +kernel
theorem dX11_afterTick_191 : decode cX11_afterTick 191 = .ok (.aload_n 0, 1) := by decide +kernel
theorem dX11_afterTick_192 : decode cX11_afterTick 192 = .ok (.getfield 75, 3) := by decide +kernel
theorem dX11_afterTick_195 : decode cX11_afterTick 195 = .ok (.iload 10, 2) := by decide +kernel
theorem dX11_afterTick_197 : decode cX11_afterTick 197 = .ok (.aload_n 0, 1) := by decide +kernel
theorem dX11_afterTick_198 : decode cX11_afterTick 198 = .ok (.getfield 75, 3) := by decide +kernel
theorem dX11_afterTick_201 : decode cX11_afterTick 201 = .ok (.iload 10, 2) := by decide +kernel
theorem dX11_afterTick_203 : decode cX11_afterTick 203 = .ok (.laload, 1) := by decide +kernel
theorem dX11_afterTick_204 : decode cX11_afterTick 204 = .ok (.aload_n 0, 1) := by decide +kernel
theorem dX11_afterTick_205 : decode cX11_afterTick 205 = .ok (.getfield 285, 3) := by decide +kernel
theorem dX11_afterTick_208 : decode cX11_afterTick 208 = .ok (.i2l, 1) := by decide +kernel
theorem dX11_afterTick_209 : decode cX11_afterTick 209 = .ok (.aload_n 0, 1) := by decide +kernel
theorem dX11_afterTick_210 : decode cX11_afterTick 210 = .ok (.getfield 71, 3) := by decide +kernel
theorem dX11_afterTick_213 : decode cX11_afterTick 213 = .ok (.iload 5, 2) := by decide +kernel
theorem dX11_afterTick_215 : decode cX11_afterTick 215 = .ok (.laload, 1) := by decide +kernel
theorem dX11_afterTick_216 : decode cX11_afterTick 216 = .ok (.lmul, 1) := by decide +kernel
theorem dX11_afterTick_217 : decode cX11_afterTick 217 = .ok (.ladd, 1) := by decide +kernel
theorem dX11_afterTick_218 : decode cX11_afterTick 218 = .ok (.lastore, 1) := by decide +kernel
theorem dX11_afterTick_219 : decode cX11_afterTick 219 = .ok (.aload_n 0, 1) := by decide +kernel
theorem dX11_afterTick_220 : decode cX11_afterTick 220 = .ok (.getfield 75, 3) := by decide +kernel
theorem dX11_afterTick_223 : decode cX11_afterTick 223 = .ok (.iload 11, 2) := by decide +kernel
theorem dX11_afterTick_225 : decode cX11_afterTick 225 = .ok (.aload_n 0, 1) := by decide +kernel
theorem dX11_afterTick_226 : decode cX11_afterTick 226 = .ok (.getfield 75, 3) := by decide +kernel
theorem dX11_afterTick_229 : decode cX11_afterTick 229 = .ok (.iload 11, 2) := by decide +kernel
theorem dX11_afterTick_231 : decode cX11_afterTick 231 = .ok (.laload, 1) := by decide +kernel
theorem dX11_afterTick_232 : decode cX11_afterTick 232 = .ok (.bipush 8, 2) := by decide +kernel
theorem dX11_afterTick_234 : decode cX11_afterTick 234 = .ok (.aload_n 0, 1) := by decide +kernel
theorem dX11_afterTick_235 : decode cX11_afterTick 235 = .ok (.getfield 282, 3) := by decide +kernel
theorem dX11_afterTick_238 : decode cX11_afterTick 238 = .ok (.isub, 1) := by decide +kernel
theorem dX11_afterTick_239 : decode cX11_afterTick 239 = .ok (.aload_n 0, 1) := by decide +kernel
theorem dX11_afterTick_240 : decode cX11_afterTick 240 = .ok (.getfield 285, 3) := by decide +kernel
theorem dX11_afterTick_243 : decode cX11_afterTick 243 = .ok (.isub, 1) := by decide +kernel
theorem dX11_afterTick_244 : decode cX11_afterTick 244 = .ok (.i2l, 1) := by decide +kernel
theorem dX11_afterTick_245 : decode cX11_afterTick 245 = .ok (.aload_n 0, 1) := by decide +kernel
theorem dX11_afterTick_246 : decode cX11_afterTick 246 = .ok (.getfield 71, 3) := by decide +kernel
theorem dX11_afterTick_249 : decode cX11_afterTick 249 = .ok (.iload 5, 2) := by decide +kernel
theorem dX11_afterTick_251 : decode cX11_afterTick 251 = .ok (.laload, 1) := by decide +kernel
theorem dX11_afterTick_252 : decode cX11_afterTick 252 = .ok (.lmul, 1) := by decide +kernel
theorem dX11_afterTick_253 : decode cX11_afterTick 253 = .ok (.ladd, 1) := by decide +kernel
theorem dX11_afterTick_254 : decode cX11_afterTick 254 = .ok (.lastore, 1) := by decide +kernel
theorem dX11_afterTick_255 : decode cX11_afterTick 255 = .ok (.aload_n 0, 1) := by decide +kernel
theorem dX11_afterTick_256 : decode cX11_afterTick 256 = .ok (.getfield 282, 3) := by decide +kernel
theorem dX11_afterTick_259 : decode cX11_afterTick 259 = .ok (.ifCond .le 29, 3) := by decide +kernel
theorem dX11_afterTick_262 : decode cX11_afterTick 262 = .ok (.aload_n 0, 1) := by decide +kernel
theorem dX11_afterTick_263 : decode cX11_afterTick 263 = .ok (.iload_n 1, 1) := by decide +kernel
theorem dX11_afterTick_264 : decode cX11_afterTick 264 = .ok (.iload_n 2, 1) := by decide +kernel
theorem dX11_afterTick_265 : decode cX11_afterTick 265 = .ok (.iload 8, 2) := by decide +kernel
theorem dX11_afterTick_267 : decode cX11_afterTick 267 = .ok (.iload_n 3, 1) := by decide +kernel
theorem dX11_afterTick_268 : decode cX11_afterTick 268 = .ok (.iload 7, 2) := by decide +kernel
theorem dX11_afterTick_270 : decode cX11_afterTick 270 = .ok (.iload 4, 2) := by decide +kernel
theorem dX11_afterTick_272 : decode cX11_afterTick 272 = .ok (.aload_n 0, 1) := by decide +kernel
theorem dX11_afterTick_273 : decode cX11_afterTick 273 = .ok (.getfield 282, 3) := by decide +kernel
theorem dX11_afterTick_276 : decode cX11_afterTick 276 = .ok (.i2l, 1) := by decide +kernel
theorem dX11_afterTick_277 : decode cX11_afterTick 277 = .ok (.aload_n 0, 1) := by decide +kernel
theorem dX11_afterTick_278 : decode cX11_afterTick 278 = .ok (.getfield 71, 3) := by decide +kernel
theorem dX11_afterTick_281 : decode cX11_afterTick 281 = .ok (.iload 5, 2) := by decide +kernel
theorem dX11_afterTick_283 : decode cX11_afterTick 283 = .ok (.laload, 1) := by decide +kernel
theorem dX11_afterTick_284 : decode cX11_afterTick 284 = .ok (.lmul, 1) := by decide +kernel
theorem dX11_afterTick_285 : decode cX11_afterTick 285 = .ok (.invokevirtual 345, 3) := by decide +kernel
theorem dX11_afterTick_288 : decode cX11_afterTick 288 = .ok (.iinc 5 1, 3) := by decide +kernel
theorem dX11_afterTick_291 : decode cX11_afterTick 291 = .ok (.goto (-263), 3) := by decide +kernel
theorem dX11_afterTick_294 : decode cX11_afterTick 294 = .ok (.iconst 0, 1) := by decide +kernel
theorem dX11_afterTick_295 : decode cX11_afterTick 295 = .ok (.istore 5, 2) := by decide +kernel
theorem dX11_afterTick_297 : decode cX11_afterTick 297 = .ok (.iload 5, 2) := by decide +kernel
theorem dX11_afterTick_299 : decode cX11_afterTick 299 = .ok (.sipush 1040, 3) := by decide +kernel
theorem dX11_afterTick_302 : decode cX11_afterTick 302 = .ok (.if_icmp .ge 23, 3) := by decide +kernel
theorem dX11_afterTick_305 : decode cX11_afterTick 305 = .ok (.aload_n 0, 1) := by decide +kernel
theorem dX11_afterTick_306 : decode cX11_afterTick 306 = .ok (.getfield 71, 3) := by decide +kernel
theorem dX11_afterTick_309 : decode cX11_afterTick 309 = .ok (.iload 5, 2) := by decide +kernel
theorem dX11_afterTick_311 : decode cX11_afterTick 311 = .ok (.aload_n 0, 1) := by decide +kernel
theorem dX11_afterTick_312 : decode cX11_afterTick 312 = .ok (.getfield 75, 3) := by decide +kernel
theorem dX11_afterTick_315 : decode cX11_afterTick 315 = .ok (.iload 5, 2) := by decide +kernel
theorem dX11_afterTick_317 : decode cX11_afterTick 317 = .ok (.laload, 1) := by decide +kernel
theorem dX11_afterTick_318 : decode cX11_afterTick 318 = .ok (.lastore, 1) := by decide +kernel
theorem dX11_afterTick_319 : decode cX11_afterTick 319 = .ok (.iinc 5 1, 3) := by decide +kernel
theorem dX11_afterTick_322 : decode cX11_afterTick 322 = .ok (.goto (-25), 3) := by decide +kernel
theorem dX11_afterTick_325 : decode cX11_afterTick 325 = .ok (.return_, 1) := by decide +kernel
theorem dX11_goesAfter_0 : decode cX11_goesAfter 0 = .ok (.iconst 0, 1) := by decide +kernel
theorem dX11_goesAfter_1 : decode cX11_goesAfter 1 = .ok (.istore 4, 2) := by decide +kernel
theorem dX11_goesAfter_3 : decode cX11_goesAfter 3 = .ok (.iload 4, 2) := by decide +kernel
theorem dX11_goesAfter_5 : decode cX11_goesAfter 5 = .ok (.sipush 1040, 3) := by decide +kernel
theorem dX11_goesAfter_8 : decode cX11_goesAfter 8 = .ok (.if_icmp .ge 17, 3) := by decide +kernel
theorem dX11_goesAfter_11 : decode cX11_goesAfter 11 = .ok (.aload_n 0, 1) := by decide +kernel
theorem dX11_goesAfter_12 : decode cX11_goesAfter 12 = .ok (.getfield 71, 3) := by decide +kernel
theorem dX11_goesAfter_15 : decode cX11_goesAfter 15 = .ok (.iload 4, 2) := by decide +kernel
theorem dX11_goesAfter_17 : decode cX11_goesAfter 17 = .ok (.lconst 0, 1) := by decide +kernel
theorem dX11_goesAfter_18 : decode cX11_goesAfter 18 = .ok (.lastore, 1) := by decide +kernel
theorem dX11_goesAfter_19 : decode cX11_goesAfter 19 = .ok (.iinc 4 1, 3) := by decide +kernel
theorem dX11_goesAfter_22 : decode cX11_goesAfter 22 = .ok (.goto (-19), 3) := by decide +kernel
theorem dX11_goesAfter_25 : decode cX11_goesAfter 25 = .ok (.aload_n 0, 1) := by decide +kernel
theorem dX11_goesAfter_26 : decode cX11_goesAfter 26 = .ok (.getfield 71, 3) := by decide +kernel
theorem dX11_goesAfter_29 : decode cX11_goesAfter 29 = .ok (.iconst 0, 1) := by decide +kernel
theorem dX11_goesAfter_30 : decode cX11_goesAfter 30 = .ok (.lconst 1, 1) := by decide +kernel
theorem dX11_goesAfter_31 : decode cX11_goesAfter 31 = .ok (.lastore, 1) := by decide +kernel
theorem dX11_goesAfter_32 : decode cX11_goesAfter 32 = .ok (.aload_n 0, 1) := by decide +kernel
theorem dX11_goesAfter_33 : decode cX11_goesAfter 33 = .ok (.lconst 0, 1) := by decide +kernel
theorem dX11_goesAfter_34 : decode cX11_goesAfter 34 = .ok (.putfield 339, 3) := by decide +kernel
theorem dX11_goesAfter_37 : decode cX11_goesAfter 37 = .ok (.aload_n 0, 1) := by decide +kernel
theorem dX11_goesAfter_38 : decode cX11_goesAfter 38 = .ok (.lconst 0, 1) := by decide +kernel
theorem dX11_goesAfter_39 : decode cX11_goesAfter 39 = .ok (.putfield 342, 3) := by decide +kernel
theorem dX11_goesAfter_42 : decode cX11_goesAfter 42 = .ok (.iconst 1, 1) := by decide +kernel
theorem dX11_goesAfter_43 : decode cX11_goesAfter 43 = .ok (.istore 4, 2) := by decide +kernel
theorem dX11_goesAfter_45 : decode cX11_goesAfter 45 = .ok (.iload 4, 2) := by decide +kernel
theorem dX11_goesAfter_47 : decode cX11_goesAfter 47 = .ok (.iload_n 3, 1) := by decide +kernel
theorem dX11_goesAfter_48 : decode cX11_goesAfter 48 = .ok (.if_icmp .gt 18, 3) := by decide +kernel
theorem dX11_goesAfter_51 : decode cX11_goesAfter 51 = .ok (.aload_n 0, 1) := by decide +kernel
theorem dX11_goesAfter_52 : decode cX11_goesAfter 52 = .ok (.iload_n 1, 1) := by decide +kernel
theorem dX11_goesAfter_53 : decode cX11_goesAfter 53 = .ok (.iload_n 2, 1) := by decide +kernel
theorem dX11_goesAfter_54 : decode cX11_goesAfter 54 = .ok (.iload 4, 2) := by decide +kernel
theorem dX11_goesAfter_56 : decode cX11_goesAfter 56 = .ok (.iload_n 3, 1) := by decide +kernel
theorem dX11_goesAfter_57 : decode cX11_goesAfter 57 = .ok (.invokevirtual 349, 3) := by decide +kernel
theorem dX11_goesAfter_60 : decode cX11_goesAfter 60 = .ok (.iinc 4 1, 3) := by decide +kernel
theorem dX11_goesAfter_63 : decode cX11_goesAfter 63 = .ok (.goto (-18), 3) := by decide +kernel
theorem dX11_goesAfter_66 : decode cX11_goesAfter 66 = .ok (.return_, 1) := by decide +kernel
theorem dX11_after_0 : decode cX11_after 0 = .ok (.aload_n 0, 1) := by decide +kernel
theorem dX11_after_1 : decode cX11_after 1 = .ok (.iload_n 1, 1) := by decide +kernel
theorem dX11_after_2 : decode cX11_after 2 = .ok (.iload_n 2, 1) := by decide +kernel
theorem dX11_after_3 : decode cX11_after 3 = .ok (.invokevirtual 323, 3) := by decide +kernel
theorem dX11_after_6 : decode cX11_after 6 = .ok (.ifCond .eq 23, 3) := by decide +kernel
theorem dX11_after_9 : decode cX11_after 9 = .ok (.iload_n 3, 1) := by decide +kernel
theorem dX11_after_10 : decode cX11_after 10 = .ok (.iconst 1, 1) := by decide +kernel
theorem dX11_after_11 : decode cX11_after 11 = .ok (.bipush 10, 2) := by decide +kernel
theorem dX11_after_13 : decode cX11_after 13 = .ok (.invokestatic 148, 3) := by decide +kernel
theorem dX11_after_16 : decode cX11_after 16 = .ok (.ifCond .eq 13, 3) := by decide +kernel
theorem dX11_after_19 : decode cX11_after 19 = .ok (.iload 4, 2) := by decide +kernel
theorem dX11_after_21 : decode cX11_after 21 = .ok (.iconst 0, 1) := by decide +kernel
theorem dX11_after_22 : decode cX11_after 22 = .ok (.iconst 1, 1) := by decide +kernel
theorem dX11_after_23 : decode cX11_after 23 = .ok (.invokestatic 148, 3) := by decide +kernel
theorem dX11_after_26 : decode cX11_after 26 = .ok (.ifCond .ne 7, 3) := by decide +kernel
theorem dX11_after_29 : decode cX11_after 29 = .ok (.ldc2_w 308, 3) := by decide +kernel
theorem dX11_after_32 : decode cX11_after 32 = .ok (.lreturn, 1) := by decide +kernel
theorem dX11_after_33 : decode cX11_after 33 = .ok (.aload_n 0, 1) := by decide +kernel
theorem dX11_after_34 : decode cX11_after 34 = .ok (.iload_n 1, 1) := by decide +kernel
theorem dX11_after_35 : decode cX11_after 35 = .ok (.iload_n 2, 1) := by decide +kernel
theorem dX11_after_36 : decode cX11_after 36 = .ok (.iload_n 3, 1) := by decide +kernel
theorem dX11_after_37 : decode cX11_after 37 = .ok (.invokevirtual 352, 3) := by decide +kernel
theorem dX11_after_40 : decode cX11_after 40 = .ok (.iload 4, 2) := by decide +kernel
theorem dX11_after_42 : decode cX11_after 42 = .ok (.ifCond .ne 10, 3) := by decide +kernel
theorem dX11_after_45 : decode cX11_after 45 = .ok (.aload_n 0, 1) := by decide +kernel
theorem dX11_after_46 : decode cX11_after 46 = .ok (.getfield 339, 3) := by decide +kernel
theorem dX11_after_49 : decode cX11_after 49 = .ok (.goto 7, 3) := by decide +kernel
theorem dX11_after_52 : decode cX11_after 52 = .ok (.aload_n 0, 1) := by decide +kernel
theorem dX11_after_53 : decode cX11_after 53 = .ok (.getfield 342, 3) := by decide +kernel
theorem dX11_after_56 : decode cX11_after 56 = .ok (.lreturn, 1) := by decide +kernel
theorem dX11_edge_0 : decode cX11_edge 0 = .ok (.aload_n 0, 1) := by decide +kernel
theorem dX11_edge_1 : decode cX11_edge 1 = .ok (.iload_n 1, 1) := by decide +kernel
theorem dX11_edge_2 : decode cX11_edge 2 = .ok (.iload_n 2, 1) := by decide +kernel
theorem dX11_edge_3 : decode cX11_edge 3 = .ok (.invokevirtual 323, 3) := by decide +kernel
theorem dX11_edge_6 : decode cX11_edge 6 = .ok (.ifCond .ne 5, 3) := by decide +kernel
theorem dX11_edge_9 : decode cX11_edge 9 = .ok (.iconst (-1), 1) := by decide +kernel
theorem dX11_edge_10 : decode cX11_edge 10 = .ok (.ireturn, 1) := by decide +kernel
theorem dX11_edge_11 : decode cX11_edge 11 = .ok (.aload_n 0, 1) := by decide +kernel
theorem dX11_edge_12 : decode cX11_edge 12 = .ok (.iload_n 1, 1) := by decide +kernel
theorem dX11_edge_13 : decode cX11_edge 13 = .ok (.iload_n 2, 1) := by decide +kernel
theorem dX11_edge_14 : decode cX11_edge 14 = .ok (.bipush 10, 2) := by decide +kernel
theorem dX11_edge_16 : decode cX11_edge 16 = .ok (.invokevirtual 352, 3) := by decide +kernel
theorem dX11_edge_19 : decode cX11_edge 19 = .ok (.aload_n 0, 1) := by decide +kernel
theorem dX11_edge_20 : decode cX11_edge 20 = .ok (.getfield 339, 3) := by decide +kernel
theorem dX11_edge_23 : decode cX11_edge 23 = .ok (.lstore_n 3, 1) := by decide +kernel
theorem dX11_edge_24 : decode cX11_edge 24 = .ok (.iconst 0, 1) := by decide +kernel
theorem dX11_edge_25 : decode cX11_edge 25 = .ok (.istore 5, 2) := by decide +kernel
theorem dX11_edge_27 : decode cX11_edge 27 = .ok (.iload 5, 2) := by decide +kernel
theorem dX11_edge_29 : decode cX11_edge 29 = .ok (.bipush 10, 2) := by decide +kernel
theorem dX11_edge_31 : decode cX11_edge 31 = .ok (.if_icmp .ge 34, 3) := by decide +kernel
theorem dX11_edge_34 : decode cX11_edge 34 = .ok (.aload_n 0, 1) := by decide +kernel
theorem dX11_edge_35 : decode cX11_edge 35 = .ok (.iload_n 1, 1) := by decide +kernel
theorem dX11_edge_36 : decode cX11_edge 36 = .ok (.iload 5, 2) := by decide +kernel
theorem dX11_edge_38 : decode cX11_edge 38 = .ok (.aload_n 0, 1) := by decide +kernel
theorem dX11_edge_39 : decode cX11_edge 39 = .ok (.getfield 141, 3) := by decide +kernel
theorem dX11_edge_42 : decode cX11_edge 42 = .ok (.bipush 10, 2) := by decide +kernel
theorem dX11_edge_44 : decode cX11_edge 44 = .ok (.invokevirtual 310, 3) := by decide +kernel
theorem dX11_edge_47 : decode cX11_edge 47 = .ok (.aload_n 0, 1) := by decide +kernel
theorem dX11_edge_48 : decode cX11_edge 48 = .ok (.getfield 300, 3) := by decide +kernel
theorem dX11_edge_51 : decode cX11_edge 51 = .ok (.lload_n 3, 1) := by decide +kernel
theorem dX11_edge_52 : decode cX11_edge 52 = .ok (.lcmp, 1) := by decide +kernel
theorem dX11_edge_53 : decode cX11_edge 53 = .ok (.ifCond .le 6, 3) := by decide +kernel
theorem dX11_edge_56 : decode cX11_edge 56 = .ok (.iload 5, 2) := by decide +kernel
theorem dX11_edge_58 : decode cX11_edge 58 = .ok (.ireturn, 1) := by decide +kernel
theorem dX11_edge_59 : decode cX11_edge 59 = .ok (.iinc 5 1, 3) := by decide +kernel
theorem dX11_edge_62 : decode cX11_edge 62 = .ok (.goto (-35), 3) := by decide +kernel
theorem dX11_edge_65 : decode cX11_edge 65 = .ok (.bipush 10, 2) := by decide +kernel
theorem dX11_edge_67 : decode cX11_edge 67 = .ok (.ireturn, 1) := by decide +kernel
theorem dX11_takenX_0 : decode cX11_takenX 0 = .ok (.iload_n 1, 1) := by decide +kernel
theorem dX11_takenX_1 : decode cX11_takenX 1 = .ok (.bipush 100, 2) := by decide +kernel
theorem dX11_takenX_3 : decode cX11_takenX 3 = .ok (.idiv, 1) := by decide +kernel
theorem dX11_takenX_4 : decode cX11_takenX 4 = .ok (.istore_n 2, 1) := by decide +kernel
theorem dX11_takenX_5 : decode cX11_takenX 5 = .ok (.iload_n 1, 1) := by decide +kernel
theorem dX11_takenX_6 : decode cX11_takenX 6 = .ok (.bipush 100, 2) := by decide +kernel
theorem dX11_takenX_8 : decode cX11_takenX 8 = .ok (.irem, 1) := by decide +kernel
theorem dX11_takenX_9 : decode cX11_takenX 9 = .ok (.istore_n 3, 1) := by decide +kernel
theorem dX11_takenX_10 : decode cX11_takenX 10 = .ok (.iload_n 1, 1) := by decide +kernel
theorem dX11_takenX_11 : decode cX11_takenX 11 = .ok (.ifCond .lt 11, 3) := by decide +kernel
theorem dX11_takenX_14 : decode cX11_takenX 14 = .ok (.aload_n 0, 1) := by decide +kernel
theorem dX11_takenX_15 : decode cX11_takenX 15 = .ok (.iload_n 2, 1) := by decide +kernel
theorem dX11_takenX_16 : decode cX11_takenX 16 = .ok (.invokevirtual 166, 3) := by decide +kernel
theorem dX11_takenX_19 : decode cX11_takenX 19 = .ok (.ifCond .ne 5, 3) := by decide +kernel
theorem dX11_takenX_22 : decode cX11_takenX 22 = .ok (.iconst (-1), 1) := by decide +kernel
theorem dX11_takenX_23 : decode cX11_takenX 23 = .ok (.ireturn, 1) := by decide +kernel
theorem dX11_takenX_24 : decode cX11_takenX 24 = .ok (.iload_n 3, 1) := by decide +kernel
theorem dX11_takenX_25 : decode cX11_takenX 25 = .ok (.iconst 0, 1) := by decide +kernel
theorem dX11_takenX_26 : decode cX11_takenX 26 = .ok (.iconst 5, 1) := by decide +kernel
theorem dX11_takenX_27 : decode cX11_takenX 27 = .ok (.invokestatic 148, 3) := by decide +kernel
theorem dX11_takenX_30 : decode cX11_takenX 30 = .ok (.ifCond .eq 7, 3) := by decide +kernel
theorem dX11_takenX_33 : decode cX11_takenX 33 = .ok (.iload_n 3, 1) := by decide +kernel
theorem dX11_takenX_34 : decode cX11_takenX 34 = .ok (.goto 68, 3) := by decide +kernel
theorem dX11_takenX_37 : decode cX11_takenX 37 = .ok (.iload_n 3, 1) := by decide +kernel
theorem dX11_takenX_38 : decode cX11_takenX 38 = .ok (.bipush 10, 2) := by decide +kernel
theorem dX11_takenX_40 : decode cX11_takenX 40 = .ok (.if_icmp .ne 8, 3) := by decide +kernel
theorem dX11_takenX_43 : decode cX11_takenX 43 = .ok (.bipush 6, 2) := by decide +kernel
theorem dX11_takenX_45 : decode cX11_takenX 45 = .ok (.goto 57, 3) := by decide +kernel
theorem dX11_takenX_48 : decode cX11_takenX 48 = .ok (.iload_n 3, 1) := by decide +kernel
theorem dX11_takenX_49 : decode cX11_takenX 49 = .ok (.bipush 11, 2) := by decide +kernel
theorem dX11_takenX_51 : decode cX11_takenX 51 = .ok (.bipush 16, 2) := by decide +kernel
theorem dX11_takenX_53 : decode cX11_takenX 53 = .ok (.invokestatic 148, 3) := by decide +kernel
theorem dX11_takenX_56 : decode cX11_takenX 56 = .ok (.ifCond .eq 9, 3) := by decide +kernel
theorem dX11_takenX_59 : decode cX11_takenX 59 = .ok (.iload_n 3, 1) := by decide +kernel
theorem dX11_takenX_60 : decode cX11_takenX 60 = .ok (.iconst 4, 1) := by decide +kernel
theorem dX11_takenX_61 : decode cX11_takenX 61 = .ok (.isub, 1) := by decide +kernel
theorem dX11_takenX_62 : decode cX11_takenX 62 = .ok (.goto 40, 3) := by decide +kernel
theorem dX11_takenX_65 : decode cX11_takenX 65 = .ok (.iload_n 3, 1) := by decide +kernel
theorem dX11_takenX_66 : decode cX11_takenX 66 = .ok (.bipush 21, 2) := by decide +kernel
theorem dX11_takenX_68 : decode cX11_takenX 68 = .ok (.bipush 24, 2) := by decide +kernel
theorem dX11_takenX_70 : decode cX11_takenX 70 = .ok (.invokestatic 148, 3) := by decide +kernel
theorem dX11_takenX_73 : decode cX11_takenX 73 = .ok (.ifCond .eq 10, 3) := by decide +kernel
theorem dX11_takenX_76 : decode cX11_takenX 76 = .ok (.iload_n 3, 1) := by decide +kernel
theorem dX11_takenX_77 : decode cX11_takenX 77 = .ok (.bipush 8, 2) := by decide +kernel
theorem dX11_takenX_79 : decode cX11_takenX 79 = .ok (.isub, 1) := by decide +kernel
theorem dX11_takenX_80 : decode cX11_takenX 80 = .ok (.goto 22, 3) := by decide +kernel
theorem dX11_takenX_83 : decode cX11_takenX 83 = .ok (.iload_n 3, 1) := by decide +kernel
theorem dX11_takenX_84 : decode cX11_takenX 84 = .ok (.bipush 31, 2) := by decide +kernel
theorem dX11_takenX_86 : decode cX11_takenX 86 = .ok (.bipush 34, 2) := by decide +kernel
theorem dX11_takenX_88 : decode cX11_takenX 88 = .ok (.invokestatic 148, 3) := by decide +kernel
theorem dX11_takenX_91 : decode cX11_takenX 91 = .ok (.ifCond .eq 10, 3) := by decide +kernel
theorem dX11_takenX_94 : decode cX11_takenX 94 = .ok (.iload_n 3, 1) := by decide +kernel
theorem dX11_takenX_95 : decode cX11_takenX 95 = .ok (.bipush 14, 2) := by decide +kernel
theorem dX11_takenX_97 : decode cX11_takenX 97 = .ok (.isub, 1) := by decide +kernel
theorem dX11_takenX_98 : decode cX11_takenX 98 = .ok (.goto 4, 3) := by decide +kernel
theorem dX11_takenX_101 : decode cX11_takenX 101 = .ok (.iconst (-1), 1) := by decide +kernel
theorem dX11_takenX_102 : decode cX11_takenX 102 = .ok (.istore 4, 2) := by decide +kernel
theorem dX11_takenX_104 : decode cX11_takenX 104 = .ok (.iload 4, 2) := by decide +kernel
theorem dX11_takenX_106 : decode cX11_takenX 106 = .ok (.iconst (-1), 1) := by decide +kernel
theorem dX11_takenX_107 : decode cX11_takenX 107 = .ok (.if_icmp .ne 7, 3) := by decide +kernel
theorem dX11_takenX_110 : decode cX11_takenX 110 = .ok (.iconst (-1), 1) := by decide +kernel
theorem dX11_takenX_111 : decode cX11_takenX 111 = .ok (.goto 10, 3) := by decide +kernel
theorem dX11_takenX_114 : decode cX11_takenX 114 = .ok (.bipush 21, 2) := by decide +kernel
theorem dX11_takenX_116 : decode cX11_takenX 116 = .ok (.iload_n 2, 1) := by decide +kernel
theorem dX11_takenX_117 : decode cX11_takenX 117 = .ok (.imul, 1) := by decide +kernel
theorem dX11_takenX_118 : decode cX11_takenX 118 = .ok (.iload 4, 2) := by decide +kernel
theorem dX11_takenX_120 : decode cX11_takenX 120 = .ok (.iadd, 1) := by decide +kernel
theorem dX11_takenX_121 : decode cX11_takenX 121 = .ok (.ireturn, 1) := by decide +kernel
theorem dX11_takenY_0 : decode cX11_takenY 0 = .ok (.iload_n 1, 1) := by decide +kernel
theorem dX11_takenY_1 : decode cX11_takenY 1 = .ok (.bipush 100, 2) := by decide +kernel
theorem dX11_takenY_3 : decode cX11_takenY 3 = .ok (.idiv, 1) := by decide +kernel
theorem dX11_takenY_4 : decode cX11_takenY 4 = .ok (.istore_n 2, 1) := by decide +kernel
theorem dX11_takenY_5 : decode cX11_takenY 5 = .ok (.iload_n 1, 1) := by decide +kernel
theorem dX11_takenY_6 : decode cX11_takenY 6 = .ok (.bipush 100, 2) := by decide +kernel
theorem dX11_takenY_8 : decode cX11_takenY 8 = .ok (.irem, 1) := by decide +kernel
theorem dX11_takenY_9 : decode cX11_takenY 9 = .ok (.istore_n 3, 1) := by decide +kernel
theorem dX11_takenY_10 : decode cX11_takenY 10 = .ok (.iload_n 1, 1) := by decide +kernel
theorem dX11_takenY_11 : decode cX11_takenY 11 = .ok (.ifCond .lt 11, 3) := by decide +kernel
theorem dX11_takenY_14 : decode cX11_takenY 14 = .ok (.aload_n 0, 1) := by decide +kernel
theorem dX11_takenY_15 : decode cX11_takenY 15 = .ok (.iload_n 2, 1) := by decide +kernel
theorem dX11_takenY_16 : decode cX11_takenY 16 = .ok (.invokevirtual 166, 3) := by decide +kernel
theorem dX11_takenY_19 : decode cX11_takenY 19 = .ok (.ifCond .ne 5, 3) := by decide +kernel
theorem dX11_takenY_22 : decode cX11_takenY 22 = .ok (.iconst (-1), 1) := by decide +kernel
theorem dX11_takenY_23 : decode cX11_takenY 23 = .ok (.ireturn, 1) := by decide +kernel
theorem dX11_takenY_24 : decode cX11_takenY 24 = .ok (.iload_n 3, 1) := by decide +kernel
theorem dX11_takenY_25 : decode cX11_takenY 25 = .ok (.iconst 0, 1) := by decide +kernel
theorem dX11_takenY_26 : decode cX11_takenY 26 = .ok (.iconst 5, 1) := by decide +kernel
theorem dX11_takenY_27 : decode cX11_takenY 27 = .ok (.invokestatic 148, 3) := by decide +kernel
theorem dX11_takenY_30 : decode cX11_takenY 30 = .ok (.ifCond .eq 7, 3) := by decide +kernel
theorem dX11_takenY_33 : decode cX11_takenY 33 = .ok (.iload_n 3, 1) := by decide +kernel
theorem dX11_takenY_34 : decode cX11_takenY 34 = .ok (.goto 39, 3) := by decide +kernel
theorem dX11_takenY_37 : decode cX11_takenY 37 = .ok (.iload_n 3, 1) := by decide +kernel
theorem dX11_takenY_38 : decode cX11_takenY 38 = .ok (.bipush 11, 2) := by decide +kernel
theorem dX11_takenY_40 : decode cX11_takenY 40 = .ok (.bipush 16, 2) := by decide +kernel
theorem dX11_takenY_42 : decode cX11_takenY 42 = .ok (.invokestatic 148, 3) := by decide +kernel
theorem dX11_takenY_45 : decode cX11_takenY 45 = .ok (.ifCond .eq 9, 3) := by decide +kernel
theorem dX11_takenY_48 : decode cX11_takenY 48 = .ok (.iload_n 3, 1) := by decide +kernel
theorem dX11_takenY_49 : decode cX11_takenY 49 = .ok (.iconst 5, 1) := by decide +kernel
theorem dX11_takenY_50 : decode cX11_takenY 50 = .ok (.isub, 1) := by decide +kernel
theorem dX11_takenY_51 : decode cX11_takenY 51 = .ok (.goto 22, 3) := by decide +kernel
theorem dX11_takenY_54 : decode cX11_takenY 54 = .ok (.iload_n 3, 1) := by decide +kernel
theorem dX11_takenY_55 : decode cX11_takenY 55 = .ok (.bipush 21, 2) := by decide +kernel
theorem dX11_takenY_57 : decode cX11_takenY 57 = .ok (.bipush 24, 2) := by decide +kernel
theorem dX11_takenY_59 : decode cX11_takenY 59 = .ok (.invokestatic 148, 3) := by decide +kernel
theorem dX11_takenY_62 : decode cX11_takenY 62 = .ok (.ifCond .eq 10, 3) := by decide +kernel
theorem dX11_takenY_65 : decode cX11_takenY 65 = .ok (.iload_n 3, 1) := by decide +kernel
theorem dX11_takenY_66 : decode cX11_takenY 66 = .ok (.bipush 9, 2) := by decide +kernel
theorem dX11_takenY_68 : decode cX11_takenY 68 = .ok (.isub, 1) := by decide +kernel
theorem dX11_takenY_69 : decode cX11_takenY 69 = .ok (.goto 4, 3) := by decide +kernel
theorem dX11_takenY_72 : decode cX11_takenY 72 = .ok (.iconst (-1), 1) := by decide +kernel
theorem dX11_takenY_73 : decode cX11_takenY 73 = .ok (.istore 4, 2) := by decide +kernel
theorem dX11_takenY_75 : decode cX11_takenY 75 = .ok (.iload 4, 2) := by decide +kernel
theorem dX11_takenY_77 : decode cX11_takenY 77 = .ok (.iconst (-1), 1) := by decide +kernel
theorem dX11_takenY_78 : decode cX11_takenY 78 = .ok (.if_icmp .ne 7, 3) := by decide +kernel
theorem dX11_takenY_81 : decode cX11_takenY 81 = .ok (.iconst (-1), 1) := by decide +kernel
theorem dX11_takenY_82 : decode cX11_takenY 82 = .ok (.goto 10, 3) := by decide +kernel
theorem dX11_takenY_85 : decode cX11_takenY 85 = .ok (.bipush 16, 2) := by decide +kernel
theorem dX11_takenY_87 : decode cX11_takenY 87 = .ok (.iload_n 2, 1) := by decide +kernel
theorem dX11_takenY_88 : decode cX11_takenY 88 = .ok (.imul, 1) := by decide +kernel
theorem dX11_takenY_89 : decode cX11_takenY 89 = .ok (.iload 4, 2) := by decide +kernel
theorem dX11_takenY_91 : decode cX11_takenY 91 = .ok (.iadd, 1) := by decide +kernel
theorem dX11_takenY_92 : decode cX11_takenY 92 = .ok (.ireturn, 1) := by decide +kernel
theorem dX11_xPuts_0 : decode cX11_xPuts 0 = .ok (.iload_n 2, 1) := by decide +kernel
theorem dX11_xPuts_1 : decode cX11_xPuts 1 = .ok (.ifCond .ne 4, 3) := by decide +kernel
theorem dX11_xPuts_4 : decode cX11_xPuts 4 = .ok (.return_, 1) := by decide +kernel
theorem dX11_xPuts_5 : decode cX11_xPuts 5 = .ok (.aload_n 0, 1) := by decide +kernel
theorem dX11_xPuts_6 : decode cX11_xPuts 6 = .ok (.getfield 95, 3) := by decide +kernel
theorem dX11_xPuts_9 : decode cX11_xPuts 9 = .ok (.aload_n 0, 1) := by decide +kernel
theorem dX11_xPuts_10 : decode cX11_xPuts 10 = .ok (.getfield 355, 3) := by decide +kernel
theorem dX11_xPuts_13 : decode cX11_xPuts 13 = .ok (.iload_n 1, 1) := by decide +kernel
theorem dX11_xPuts_14 : decode cX11_xPuts 14 = .ok (.iastore, 1) := by decide +kernel
theorem dX11_xPuts_15 : decode cX11_xPuts 15 = .ok (.aload_n 0, 1) := by decide +kernel
theorem dX11_xPuts_16 : decode cX11_xPuts 16 = .ok (.getfield 98, 3) := by decide +kernel
theorem dX11_xPuts_19 : decode cX11_xPuts 19 = .ok (.aload_n 0, 1) := by decide +kernel
theorem dX11_xPuts_20 : decode cX11_xPuts 20 = .ok (.getfield 355, 3) := by decide +kernel
theorem dX11_xPuts_23 : decode cX11_xPuts 23 = .ok (.iload_n 2, 1) := by decide +kernel
theorem dX11_xPuts_24 : decode cX11_xPuts 24 = .ok (.iastore, 1) := by decide +kernel
theorem dX11_xPuts_25 : decode cX11_xPuts 25 = .ok (.aload_n 0, 1) := by decide +kernel
theorem dX11_xPuts_26 : decode cX11_xPuts 26 = .ok (.aload_n 0, 1) := by decide +kernel
theorem dX11_xPuts_27 : decode cX11_xPuts 27 = .ok (.getfield 355, 3) := by decide +kernel
theorem dX11_xPuts_30 : decode cX11_xPuts 30 = .ok (.iconst 1, 1) := by decide +kernel
theorem dX11_xPuts_31 : decode cX11_xPuts 31 = .ok (.iadd, 1) := by decide +kernel
theorem dX11_xPuts_32 : decode cX11_xPuts 32 = .ok (.putfield 355, 3) := by decide +kernel
theorem dX11_xPuts_35 : decode cX11_xPuts 35 = .ok (.return_, 1) := by decide +kernel
theorem dX11_yPuts_0 : decode cX11_yPuts 0 = .ok (.iload_n 2, 1) := by decide +kernel
theorem dX11_yPuts_1 : decode cX11_yPuts 1 = .ok (.ifCond .ne 4, 3) := by decide +kernel
theorem dX11_yPuts_4 : decode cX11_yPuts 4 = .ok (.return_, 1) := by decide +kernel
theorem dX11_yPuts_5 : decode cX11_yPuts 5 = .ok (.aload_n 0, 1) := by decide +kernel
theorem dX11_yPuts_6 : decode cX11_yPuts 6 = .ok (.getfield 101, 3) := by decide +kernel
theorem dX11_yPuts_9 : decode cX11_yPuts 9 = .ok (.aload_n 0, 1) := by decide +kernel
theorem dX11_yPuts_10 : decode cX11_yPuts 10 = .ok (.getfield 358, 3) := by decide +kernel
theorem dX11_yPuts_13 : decode cX11_yPuts 13 = .ok (.iload_n 1, 1) := by decide +kernel
theorem dX11_yPuts_14 : decode cX11_yPuts 14 = .ok (.iastore, 1) := by decide +kernel
theorem dX11_yPuts_15 : decode cX11_yPuts 15 = .ok (.aload_n 0, 1) := by decide +kernel
theorem dX11_yPuts_16 : decode cX11_yPuts 16 = .ok (.getfield 104, 3) := by decide +kernel
theorem dX11_yPuts_19 : decode cX11_yPuts 19 = .ok (.aload_n 0, 1) := by decide +kernel
theorem dX11_yPuts_20 : decode cX11_yPuts 20 = .ok (.getfield 358, 3) := by decide +kernel
theorem dX11_yPuts_23 : decode cX11_yPuts 23 = .ok (.iload_n 2, 1) := by decide +kernel
theorem dX11_yPuts_24 : decode cX11_yPuts 24 = .ok (.iastore, 1) := by decide +kernel
theorem dX11_yPuts_25 : decode cX11_yPuts 25 = .ok (.aload_n 0, 1) := by decide +kernel
theorem dX11_yPuts_26 : decode cX11_yPuts 26 = .ok (.aload_n 0, 1) := by decide +kernel
theorem dX11_yPuts_27 : decode cX11_yPuts 27 = .ok (.getfield 358, 3) := by decide +kernel
theorem dX11_yPuts_30 : decode cX11_yPuts 30 = .ok (.iconst 1, 1) := by decide +kernel
theorem dX11_yPuts_31 : decode cX11_yPuts 31 = .ok (.iadd, 1) := by decide +kernel
theorem dX11_yPuts_32 : decode cX11_yPuts 32 = .ok (.putfield 358, 3) := by decide +kernel
theorem dX11_yPuts_35 : decode cX11_yPuts 35 = .ok (.return_, 1) := by decide +kernel
theorem dX11_xWalks_0 : decode cX11_xWalks 0 = .ok (.iload_n 2, 1) := by decide +kernel
theorem dX11_xWalks_1 : decode cX11_xWalks 1 = .ok (.ifCond .le 15, 3) := by decide +kernel
theorem dX11_xWalks_4 : decode cX11_xWalks 4 = .ok (.bipush 21, 2) := by decide +kernel
theorem dX11_xWalks_6 : decode cX11_xWalks 6 = .ok (.iload_n 1, 1) := by decide +kernel
theorem dX11_xWalks_7 : decode cX11_xWalks 7 = .ok (.imul, 1) := by decide +kernel
theorem dX11_xWalks_8 : decode cX11_xWalks 8 = .ok (.bipush 6, 2) := by decide +kernel
theorem dX11_xWalks_10 : decode cX11_xWalks 10 = .ok (.iadd, 1) := by decide +kernel
theorem dX11_xWalks_11 : decode cX11_xWalks 11 = .ok (.iload_n 2, 1) := by decide +kernel
theorem dX11_xWalks_12 : decode cX11_xWalks 12 = .ok (.iadd, 1) := by decide +kernel
theorem dX11_xWalks_13 : decode cX11_xWalks 13 = .ok (.goto 24, 3) := by decide +kernel
theorem dX11_xWalks_16 : decode cX11_xWalks 16 = .ok (.iload_n 1, 1) := by decide +kernel
theorem dX11_xWalks_17 : decode cX11_xWalks 17 = .ok (.iconst 1, 1) := by decide +kernel
theorem dX11_xWalks_18 : decode cX11_xWalks 18 = .ok (.iadd, 1) := by decide +kernel
theorem dX11_xWalks_19 : decode cX11_xWalks 19 = .ok (.aload_n 0, 1) := by decide +kernel
theorem dX11_xWalks_20 : decode cX11_xWalks 20 = .ok (.getfield 141, 3) := by decide +kernel
theorem dX11_xWalks_23 : decode cX11_xWalks 23 = .ok (.if_icmp .ne 8, 3) := by decide +kernel
theorem dX11_xWalks_26 : decode cX11_xWalks 26 = .ok (.bipush 105, 2) := by decide +kernel
theorem dX11_xWalks_28 : decode cX11_xWalks 28 = .ok (.goto 9, 3) := by decide +kernel
theorem dX11_xWalks_31 : decode cX11_xWalks 31 = .ok (.bipush 21, 2) := by decide +kernel
theorem dX11_xWalks_33 : decode cX11_xWalks 33 = .ok (.iload_n 1, 1) := by decide +kernel
theorem dX11_xWalks_34 : decode cX11_xWalks 34 = .ok (.iconst 1, 1) := by decide +kernel
theorem dX11_xWalks_35 : decode cX11_xWalks 35 = .ok (.iadd, 1) := by decide +kernel
theorem dX11_xWalks_36 : decode cX11_xWalks 36 = .ok (.imul, 1) := by decide +kernel
theorem dX11_xWalks_37 : decode cX11_xWalks 37 = .ok (.ireturn, 1) := by decide +kernel
theorem dX11_yWalks_0 : decode cX11_yWalks 0 = .ok (.iload_n 2, 1) := by decide +kernel
theorem dX11_yWalks_1 : decode cX11_yWalks 1 = .ok (.ifCond .le 14, 3) := by decide +kernel
theorem dX11_yWalks_4 : decode cX11_yWalks 4 = .ok (.bipush 16, 2) := by decide +kernel
theorem dX11_yWalks_6 : decode cX11_yWalks 6 = .ok (.iload_n 1, 1) := by decide +kernel
theorem dX11_yWalks_7 : decode cX11_yWalks 7 = .ok (.imul, 1) := by decide +kernel
theorem dX11_yWalks_8 : decode cX11_yWalks 8 = .ok (.iconst 5, 1) := by decide +kernel
theorem dX11_yWalks_9 : decode cX11_yWalks 9 = .ok (.iadd, 1) := by decide +kernel
theorem dX11_yWalks_10 : decode cX11_yWalks 10 = .ok (.iload_n 2, 1) := by decide +kernel
theorem dX11_yWalks_11 : decode cX11_yWalks 11 = .ok (.iadd, 1) := by decide +kernel
theorem dX11_yWalks_12 : decode cX11_yWalks 12 = .ok (.goto 24, 3) := by decide +kernel
theorem dX11_yWalks_15 : decode cX11_yWalks 15 = .ok (.iload_n 1, 1) := by decide +kernel
theorem dX11_yWalks_16 : decode cX11_yWalks 16 = .ok (.iconst 1, 1) := by decide +kernel
theorem dX11_yWalks_17 : decode cX11_yWalks 17 = .ok (.iadd, 1) := by decide +kernel
theorem dX11_yWalks_18 : decode cX11_yWalks 18 = .ok (.aload_n 0, 1) := by decide +kernel
theorem dX11_yWalks_19 : decode cX11_yWalks 19 = .ok (.getfield 141, 3) := by decide +kernel
theorem dX11_yWalks_22 : decode cX11_yWalks 22 = .ok (.if_icmp .ne 8, 3) := by decide +kernel
theorem dX11_yWalks_25 : decode cX11_yWalks 25 = .ok (.bipush 80, 2) := by decide +kernel
theorem dX11_yWalks_27 : decode cX11_yWalks 27 = .ok (.goto 9, 3) := by decide +kernel
theorem dX11_yWalks_30 : decode cX11_yWalks 30 = .ok (.bipush 16, 2) := by decide +kernel
theorem dX11_yWalks_32 : decode cX11_yWalks 32 = .ok (.iload_n 1, 1) := by decide +kernel
theorem dX11_yWalks_33 : decode cX11_yWalks 33 = .ok (.iconst 1, 1) := by decide +kernel
theorem dX11_yWalks_34 : decode cX11_yWalks 34 = .ok (.iadd, 1) := by decide +kernel
theorem dX11_yWalks_35 : decode cX11_yWalks 35 = .ok (.imul, 1) := by decide +kernel
theorem dX11_yWalks_36 : decode cX11_yWalks 36 = .ok (.ireturn, 1) := by decide +kernel
theorem dX11_xAstray_0 : decode cX11_xAstray 0 = .ok (.iload_n 2, 1) := by decide +kernel
theorem dX11_xAstray_1 : decode cX11_xAstray 1 = .ok (.ifCond .ne 21, 3) := by decide +kernel
theorem dX11_xAstray_4 : decode cX11_xAstray 4 = .ok (.bipush 21, 2) := by decide +kernel
theorem dX11_xAstray_6 : decode cX11_xAstray 6 = .ok (.iload_n 1, 1) := by decide +kernel
theorem dX11_xAstray_7 : decode cX11_xAstray 7 = .ok (.imul, 1) := by decide +kernel
theorem dX11_xAstray_8 : decode cX11_xAstray 8 = .ok (.iload_n 3, 1) := by decide +kernel
theorem dX11_xAstray_9 : decode cX11_xAstray 9 = .ok (.ifCond .eq 8, 3) := by decide +kernel
theorem dX11_xAstray_12 : decode cX11_xAstray 12 = .ok (.bipush 6, 2) := by decide +kernel
theorem dX11_xAstray_14 : decode cX11_xAstray 14 = .ok (.goto 4, 3) := by decide +kernel
theorem dX11_xAstray_17 : decode cX11_xAstray 17 = .ok (.iconst 0, 1) := by decide +kernel
theorem dX11_xAstray_18 : decode cX11_xAstray 18 = .ok (.iadd, 1) := by decide +kernel
theorem dX11_xAstray_19 : decode cX11_xAstray 19 = .ok (.goto 21, 3) := by decide +kernel
theorem dX11_xAstray_22 : decode cX11_xAstray 22 = .ok (.bipush 21, 2) := by decide +kernel
theorem dX11_xAstray_24 : decode cX11_xAstray 24 = .ok (.iload_n 1, 1) := by decide +kernel
theorem dX11_xAstray_25 : decode cX11_xAstray 25 = .ok (.imul, 1) := by decide +kernel
theorem dX11_xAstray_26 : decode cX11_xAstray 26 = .ok (.iload_n 3, 1) := by decide +kernel
theorem dX11_xAstray_27 : decode cX11_xAstray 27 = .ok (.ifCond .eq 8, 3) := by decide +kernel
theorem dX11_xAstray_30 : decode cX11_xAstray 30 = .ok (.bipush 16, 2) := by decide +kernel
theorem dX11_xAstray_32 : decode cX11_xAstray 32 = .ok (.goto 5, 3) := by decide +kernel
theorem dX11_xAstray_35 : decode cX11_xAstray 35 = .ok (.bipush 12, 2) := by decide +kernel
theorem dX11_xAstray_37 : decode cX11_xAstray 37 = .ok (.iadd, 1) := by decide +kernel
theorem dX11_xAstray_38 : decode cX11_xAstray 38 = .ok (.iload_n 2, 1) := by decide +kernel
theorem dX11_xAstray_39 : decode cX11_xAstray 39 = .ok (.iadd, 1) := by decide +kernel
theorem dX11_xAstray_40 : decode cX11_xAstray 40 = .ok (.ireturn, 1) := by decide +kernel
theorem dX11_yAstray_0 : decode cX11_yAstray 0 = .ok (.iload_n 2, 1) := by decide +kernel
theorem dX11_yAstray_1 : decode cX11_yAstray 1 = .ok (.ifCond .ne 10, 3) := by decide +kernel
theorem dX11_yAstray_4 : decode cX11_yAstray 4 = .ok (.bipush 16, 2) := by decide +kernel
theorem dX11_yAstray_6 : decode cX11_yAstray 6 = .ok (.iload_n 1, 1) := by decide +kernel
theorem dX11_yAstray_7 : decode cX11_yAstray 7 = .ok (.imul, 1) := by decide +kernel
theorem dX11_yAstray_8 : decode cX11_yAstray 8 = .ok (.goto 12, 3) := by decide +kernel
theorem dX11_yAstray_11 : decode cX11_yAstray 11 = .ok (.bipush 16, 2) := by decide +kernel
theorem dX11_yAstray_13 : decode cX11_yAstray 13 = .ok (.iload_n 1, 1) := by decide +kernel
theorem dX11_yAstray_14 : decode cX11_yAstray 14 = .ok (.imul, 1) := by decide +kernel
theorem dX11_yAstray_15 : decode cX11_yAstray 15 = .ok (.bipush 11, 2) := by decide +kernel
theorem dX11_yAstray_17 : decode cX11_yAstray 17 = .ok (.iadd, 1) := by decide +kernel
theorem dX11_yAstray_18 : decode cX11_yAstray 18 = .ok (.iload_n 2, 1) := by decide +kernel
theorem dX11_yAstray_19 : decode cX11_yAstray 19 = .ok (.iadd, 1) := by decide +kernel
theorem dX11_yAstray_20 : decode cX11_yAstray 20 = .ok (.ireturn, 1) := by decide +kernel
theorem dX11_isFree_0 : decode cX11_isFree 0 = .ok (.iload_n 0, 1) := by decide +kernel
theorem dX11_isFree_1 : decode cX11_isFree 1 = .ok (.bipush 21, 2) := by decide +kernel
theorem dX11_isFree_3 : decode cX11_isFree 3 = .ok (.irem, 1) := by decide +kernel
theorem dX11_isFree_4 : decode cX11_isFree 4 = .ok (.bipush 7, 2) := by decide +kernel
theorem dX11_isFree_6 : decode cX11_isFree 6 = .ok (.if_icmp .ge 7, 3) := by decide +kernel
theorem dX11_isFree_9 : decode cX11_isFree 9 = .ok (.iconst 1, 1) := by decide +kernel
theorem dX11_isFree_10 : decode cX11_isFree 10 = .ok (.goto 4, 3) := by decide +kernel
theorem dX11_isFree_13 : decode cX11_isFree 13 = .ok (.iconst 0, 1) := by decide +kernel
theorem dX11_isFree_14 : decode cX11_isFree 14 = .ok (.ireturn, 1) := by decide +kernel
theorem dX11_canDo_0 : decode cX11_canDo 0 = .ok (.iload_n 1, 1) := by decide +kernel
theorem dX11_canDo_1 : decode cX11_canDo 1 = .ok (.bipush 21, 2) := by decide +kernel
theorem dX11_canDo_3 : decode cX11_canDo 3 = .ok (.irem, 1) := by decide +kernel
theorem dX11_canDo_4 : decode cX11_canDo 4 = .ok (.bipush 6, 2) := by decide +kernel
theorem dX11_canDo_6 : decode cX11_canDo 6 = .ok (.if_icmp .ne 7, 3) := by decide +kernel
theorem dX11_canDo_9 : decode cX11_canDo 9 = .ok (.iconst 1, 1) := by decide +kernel
theorem dX11_canDo_10 : decode cX11_canDo 10 = .ok (.goto 4, 3) := by decide +kernel
theorem dX11_canDo_13 : decode cX11_canDo 13 = .ok (.iconst 0, 1) := by decide +kernel
theorem dX11_canDo_14 : decode cX11_canDo 14 = .ok (.istore 4, 2) := by decide +kernel
theorem dX11_canDo_16 : decode cX11_canDo 16 = .ok (.iload_n 3, 1) := by decide +kernel
theorem dX11_canDo_17 : decode cX11_canDo 17 = .ok (.tableswitch 86 0 3 #[31, 42, 45, 48], 31) := by decide +kernel
theorem dX11_canDo_48 : decode cX11_canDo 48 = .ok (.iload 4, 2) := by decide +kernel
theorem dX11_canDo_50 : decode cX11_canDo 50 = .ok (.ifCond .ne 7, 3) := by decide +kernel
theorem dX11_canDo_53 : decode cX11_canDo 53 = .ok (.iconst 1, 1) := by decide +kernel
theorem dX11_canDo_54 : decode cX11_canDo 54 = .ok (.goto 4, 3) := by decide +kernel
theorem dX11_canDo_57 : decode cX11_canDo 57 = .ok (.iconst 0, 1) := by decide +kernel
theorem dX11_canDo_58 : decode cX11_canDo 58 = .ok (.ireturn, 1) := by decide +kernel
theorem dX11_canDo_59 : decode cX11_canDo 59 = .ok (.iload 4, 2) := by decide +kernel
theorem dX11_canDo_61 : decode cX11_canDo 61 = .ok (.ireturn, 1) := by decide +kernel
theorem dX11_canDo_62 : decode cX11_canDo 62 = .ok (.iload 4, 2) := by decide +kernel
theorem dX11_canDo_64 : decode cX11_canDo 64 = .ok (.ireturn, 1) := by decide +kernel
theorem dX11_canDo_65 : decode cX11_canDo 65 = .ok (.aload_n 0, 1) := by decide +kernel
theorem dX11_canDo_66 : decode cX11_canDo 66 = .ok (.getfield 159, 3) := by decide +kernel
theorem dX11_canDo_69 : decode cX11_canDo 69 = .ok (.ifCond .ne 32, 3) := by decide +kernel
theorem dX11_canDo_72 : decode cX11_canDo 72 = .ok (.iload_n 2, 1) := by decide +kernel
theorem dX11_canDo_73 : decode cX11_canDo 73 = .ok (.bipush 16, 2) := by decide +kernel
theorem dX11_canDo_75 : decode cX11_canDo 75 = .ok (.idiv, 1) := by decide +kernel
theorem dX11_canDo_76 : decode cX11_canDo 76 = .ok (.iload_n 1, 1) := by decide +kernel
theorem dX11_canDo_77 : decode cX11_canDo 77 = .ok (.bipush 21, 2) := by decide +kernel
theorem dX11_canDo_79 : decode cX11_canDo 79 = .ok (.idiv, 1) := by decide +kernel
theorem dX11_canDo_80 : decode cX11_canDo 80 = .ok (.if_icmp .ne 21, 3) := by decide +kernel
theorem dX11_canDo_83 : decode cX11_canDo 83 = .ok (.iload_n 2, 1) := by decide +kernel
theorem dX11_canDo_84 : decode cX11_canDo 84 = .ok (.bipush 16, 2) := by decide +kernel
theorem dX11_canDo_86 : decode cX11_canDo 86 = .ok (.irem, 1) := by decide +kernel
theorem dX11_canDo_87 : decode cX11_canDo 87 = .ok (.bipush 6, 2) := by decide +kernel
theorem dX11_canDo_89 : decode cX11_canDo 89 = .ok (.bipush 11, 2) := by decide +kernel
theorem dX11_canDo_91 : decode cX11_canDo 91 = .ok (.invokestatic 148, 3) := by decide +kernel
theorem dX11_canDo_94 : decode cX11_canDo 94 = .ok (.ifCond .eq 7, 3) := by decide +kernel
theorem dX11_canDo_97 : decode cX11_canDo 97 = .ok (.iconst 1, 1) := by decide +kernel
theorem dX11_canDo_98 : decode cX11_canDo 98 = .ok (.goto 4, 3) := by decide +kernel
theorem dX11_canDo_101 : decode cX11_canDo 101 = .ok (.iconst 0, 1) := by decide +kernel
theorem dX11_canDo_102 : decode cX11_canDo 102 = .ok (.ireturn, 1) := by decide +kernel
theorem dX11_canDo_103 : decode cX11_canDo 103 = .ok (.iconst 1, 1) := by decide +kernel
theorem dX11_canDo_104 : decode cX11_canDo 104 = .ok (.ireturn, 1) := by decide +kernel
theorem dX11_xDoes_0 : decode cX11_xDoes 0 = .ok (.iload_n 2, 1) := by decide +kernel
theorem dX11_xDoes_1 : decode cX11_xDoes 1 = .ok (.bipush 21, 2) := by decide +kernel
theorem dX11_xDoes_3 : decode cX11_xDoes 3 = .ok (.idiv, 1) := by decide +kernel
theorem dX11_xDoes_4 : decode cX11_xDoes 4 = .ok (.istore 4, 2) := by decide +kernel
theorem dX11_xDoes_6 : decode cX11_xDoes 6 = .ok (.iload_n 2, 1) := by decide +kernel
theorem dX11_xDoes_7 : decode cX11_xDoes 7 = .ok (.bipush 21, 2) := by decide +kernel
theorem dX11_xDoes_9 : decode cX11_xDoes 9 = .ok (.irem, 1) := by decide +kernel
theorem dX11_xDoes_10 : decode cX11_xDoes 10 = .ok (.istore 5, 2) := by decide +kernel
theorem dX11_xDoes_12 : decode cX11_xDoes 12 = .ok (.aload_n 0, 1) := by decide +kernel
theorem dX11_xDoes_13 : decode cX11_xDoes 13 = .ok (.iconst 0, 1) := by decide +kernel
theorem dX11_xDoes_14 : decode cX11_xDoes 14 = .ok (.putfield 355, 3) := by decide +kernel
theorem dX11_xDoes_17 : decode cX11_xDoes 17 = .ok (.aload_n 0, 1) := by decide +kernel
theorem dX11_xDoes_18 : decode cX11_xDoes 18 = .ok (.iconst 0, 1) := by decide +kernel
theorem dX11_xDoes_19 : decode cX11_xDoes 19 = .ok (.putfield 361, 3) := by decide +kernel
theorem dX11_xDoes_22 : decode cX11_xDoes 22 = .ok (.iload 5, 2) := by decide +kernel
theorem dX11_xDoes_24 : decode cX11_xDoes 24 = .ok (.bipush 16, 2) := by decide +kernel
theorem dX11_xDoes_26 : decode cX11_xDoes 26 = .ok (.if_icmp .le 24, 3) := by decide +kernel
theorem dX11_xDoes_29 : decode cX11_xDoes 29 = .ok (.aload_n 0, 1) := by decide +kernel
theorem dX11_xDoes_30 : decode cX11_xDoes 30 = .ok (.aload_n 0, 1) := by decide +kernel
theorem dX11_xDoes_31 : decode cX11_xDoes 31 = .ok (.iload 4, 2) := by decide +kernel
theorem dX11_xDoes_33 : decode cX11_xDoes 33 = .ok (.iload 5, 2) := by decide +kernel
theorem dX11_xDoes_35 : decode cX11_xDoes 35 = .ok (.bipush 17, 2) := by decide +kernel
theorem dX11_xDoes_37 : decode cX11_xDoes 37 = .ok (.isub, 1) := by decide +kernel
theorem dX11_xDoes_38 : decode cX11_xDoes 38 = .ok (.iconst 1, 1) := by decide +kernel
theorem dX11_xDoes_39 : decode cX11_xDoes 39 = .ok (.invokevirtual 364, 3) := by decide +kernel
theorem dX11_xDoes_42 : decode cX11_xDoes 42 = .ok (.bipush 8, 2) := by decide +kernel
theorem dX11_xDoes_44 : decode cX11_xDoes 44 = .ok (.invokevirtual 368, 3) := by decide +kernel
theorem dX11_xDoes_47 : decode cX11_xDoes 47 = .ok (.goto 226, 3) := by decide +kernel
theorem dX11_xDoes_50 : decode cX11_xDoes 50 = .ok (.iload 5, 2) := by decide +kernel
theorem dX11_xDoes_52 : decode cX11_xDoes 52 = .ok (.bipush 12, 2) := by decide +kernel
theorem dX11_xDoes_54 : decode cX11_xDoes 54 = .ok (.if_icmp .le 24, 3) := by decide +kernel
theorem dX11_xDoes_57 : decode cX11_xDoes 57 = .ok (.aload_n 0, 1) := by decide +kernel
theorem dX11_xDoes_58 : decode cX11_xDoes 58 = .ok (.aload_n 0, 1) := by decide +kernel
theorem dX11_xDoes_59 : decode cX11_xDoes 59 = .ok (.iload 4, 2) := by decide +kernel
theorem dX11_xDoes_61 : decode cX11_xDoes 61 = .ok (.iload 5, 2) := by decide +kernel
theorem dX11_xDoes_63 : decode cX11_xDoes 63 = .ok (.bipush 13, 2) := by decide +kernel
theorem dX11_xDoes_65 : decode cX11_xDoes 65 = .ok (.isub, 1) := by decide +kernel
theorem dX11_xDoes_66 : decode cX11_xDoes 66 = .ok (.iconst 0, 1) := by decide +kernel
theorem dX11_xDoes_67 : decode cX11_xDoes 67 = .ok (.invokevirtual 364, 3) := by decide +kernel
theorem dX11_xDoes_70 : decode cX11_xDoes 70 = .ok (.bipush 8, 2) := by decide +kernel
theorem dX11_xDoes_72 : decode cX11_xDoes 72 = .ok (.invokevirtual 368, 3) := by decide +kernel
theorem dX11_xDoes_75 : decode cX11_xDoes 75 = .ok (.goto 198, 3) := by decide +kernel
theorem dX11_xDoes_78 : decode cX11_xDoes 78 = .ok (.iload 5, 2) := by decide +kernel
theorem dX11_xDoes_80 : decode cX11_xDoes 80 = .ok (.bipush 6, 2) := by decide +kernel
theorem dX11_xDoes_82 : decode cX11_xDoes 82 = .ok (.if_icmp .le 23, 3) := by decide +kernel
theorem dX11_xDoes_85 : decode cX11_xDoes 85 = .ok (.aload_n 0, 1) := by decide +kernel
theorem dX11_xDoes_86 : decode cX11_xDoes 86 = .ok (.aload_n 0, 1) := by decide +kernel
theorem dX11_xDoes_87 : decode cX11_xDoes 87 = .ok (.iload 4, 2) := by decide +kernel
theorem dX11_xDoes_89 : decode cX11_xDoes 89 = .ok (.iload 5, 2) := by decide +kernel
theorem dX11_xDoes_91 : decode cX11_xDoes 91 = .ok (.bipush 7, 2) := by decide +kernel
theorem dX11_xDoes_93 : decode cX11_xDoes 93 = .ok (.isub, 1) := by decide +kernel
theorem dX11_xDoes_94 : decode cX11_xDoes 94 = .ok (.invokevirtual 371, 3) := by decide +kernel
theorem dX11_xDoes_97 : decode cX11_xDoes 97 = .ok (.bipush 8, 2) := by decide +kernel
theorem dX11_xDoes_99 : decode cX11_xDoes 99 = .ok (.invokevirtual 368, 3) := by decide +kernel
theorem dX11_xDoes_102 : decode cX11_xDoes 102 = .ok (.goto 171, 3) := by decide +kernel
theorem dX11_xDoes_105 : decode cX11_xDoes 105 = .ok (.iload_n 3, 1) := by decide +kernel
theorem dX11_xDoes_106 : decode cX11_xDoes 106 = .ok (.ifCond .ne 83, 3) := by decide +kernel
theorem dX11_xDoes_109 : decode cX11_xDoes 109 = .ok (.aload_n 0, 1) := by decide +kernel
theorem dX11_xDoes_110 : decode cX11_xDoes 110 = .ok (.iload_n 1, 1) := by decide +kernel
theorem dX11_xDoes_111 : decode cX11_xDoes 111 = .ok (.aload_n 0, 1) := by decide +kernel
theorem dX11_xDoes_112 : decode cX11_xDoes 112 = .ok (.getfield 19, 3) := by decide +kernel
theorem dX11_xDoes_115 : decode cX11_xDoes 115 = .ok (.iload_n 1, 1) := by decide +kernel
theorem dX11_xDoes_116 : decode cX11_xDoes 116 = .ok (.iaload, 1) := by decide +kernel
theorem dX11_xDoes_117 : decode cX11_xDoes 117 = .ok (.iload 4, 2) := by decide +kernel
theorem dX11_xDoes_119 : decode cX11_xDoes 119 = .ok (.iload 5, 2) := by decide +kernel
theorem dX11_xDoes_121 : decode cX11_xDoes 121 = .ok (.invokevirtual 288, 3) := by decide +kernel
theorem dX11_xDoes_124 : decode cX11_xDoes 124 = .ok (.aload_n 0, 1) := by decide +kernel
theorem dX11_xDoes_125 : decode cX11_xDoes 125 = .ok (.bipush 21, 2) := by decide +kernel
theorem dX11_xDoes_127 : decode cX11_xDoes 127 = .ok (.iload 4, 2) := by decide +kernel
theorem dX11_xDoes_129 : decode cX11_xDoes 129 = .ok (.imul, 1) := by decide +kernel
theorem dX11_xDoes_130 : decode cX11_xDoes 130 = .ok (.bipush 6, 2) := by decide +kernel
theorem dX11_xDoes_132 : decode cX11_xDoes 132 = .ok (.iadd, 1) := by decide +kernel
theorem dX11_xDoes_133 : decode cX11_xDoes 133 = .ok (.aload_n 0, 1) := by decide +kernel
theorem dX11_xDoes_134 : decode cX11_xDoes 134 = .ok (.getfield 282, 3) := by decide +kernel
theorem dX11_xDoes_137 : decode cX11_xDoes 137 = .ok (.invokevirtual 368, 3) := by decide +kernel
theorem dX11_xDoes_140 : decode cX11_xDoes 140 = .ok (.aload_n 0, 1) := by decide +kernel
theorem dX11_xDoes_141 : decode cX11_xDoes 141 = .ok (.aload_n 0, 1) := by decide +kernel
theorem dX11_xDoes_142 : decode cX11_xDoes 142 = .ok (.iload 4, 2) := by decide +kernel
theorem dX11_xDoes_144 : decode cX11_xDoes 144 = .ok (.aload_n 0, 1) := by decide +kernel
theorem dX11_xDoes_145 : decode cX11_xDoes 145 = .ok (.getfield 131, 3) := by decide +kernel
theorem dX11_xDoes_148 : decode cX11_xDoes 148 = .ok (.iconst 0, 1) := by decide +kernel
theorem dX11_xDoes_149 : decode cX11_xDoes 149 = .ok (.invokevirtual 364, 3) := by decide +kernel
theorem dX11_xDoes_152 : decode cX11_xDoes 152 = .ok (.aload_n 0, 1) := by decide +kernel
theorem dX11_xDoes_153 : decode cX11_xDoes 153 = .ok (.getfield 285, 3) := by decide +kernel
theorem dX11_xDoes_156 : decode cX11_xDoes 156 = .ok (.invokevirtual 368, 3) := by decide +kernel
theorem dX11_xDoes_159 : decode cX11_xDoes 159 = .ok (.aload_n 0, 1) := by decide +kernel
theorem dX11_xDoes_160 : decode cX11_xDoes 160 = .ok (.bipush 21, 2) := by decide +kernel
theorem dX11_xDoes_162 : decode cX11_xDoes 162 = .ok (.iload 4, 2) := by decide +kernel
theorem dX11_xDoes_164 : decode cX11_xDoes 164 = .ok (.imul, 1) := by decide +kernel
theorem dX11_xDoes_165 : decode cX11_xDoes 165 = .ok (.iload 5, 2) := by decide +kernel
theorem dX11_xDoes_167 : decode cX11_xDoes 167 = .ok (.invokestatic 297, 3) := by decide +kernel
theorem dX11_xDoes_170 : decode cX11_xDoes 170 = .ok (.iadd, 1) := by decide +kernel
theorem dX11_xDoes_171 : decode cX11_xDoes 171 = .ok (.bipush 8, 2) := by decide +kernel
theorem dX11_xDoes_173 : decode cX11_xDoes 173 = .ok (.aload_n 0, 1) := by decide +kernel
theorem dX11_xDoes_174 : decode cX11_xDoes 174 = .ok (.getfield 282, 3) := by decide +kernel
theorem dX11_xDoes_177 : decode cX11_xDoes 177 = .ok (.isub, 1) := by decide +kernel
theorem dX11_xDoes_178 : decode cX11_xDoes 178 = .ok (.aload_n 0, 1) := by decide +kernel
theorem dX11_xDoes_179 : decode cX11_xDoes 179 = .ok (.getfield 285, 3) := by decide +kernel
theorem dX11_xDoes_182 : decode cX11_xDoes 182 = .ok (.isub, 1) := by decide +kernel
theorem dX11_xDoes_183 : decode cX11_xDoes 183 = .ok (.invokevirtual 368, 3) := by decide +kernel
theorem dX11_xDoes_186 : decode cX11_xDoes 186 = .ok (.goto 87, 3) := by decide +kernel
theorem dX11_xDoes_189 : decode cX11_xDoes 189 = .ok (.iload_n 3, 1) := by decide +kernel
theorem dX11_xDoes_190 : decode cX11_xDoes 190 = .ok (.iconst 2, 1) := by decide +kernel
theorem dX11_xDoes_191 : decode cX11_xDoes 191 = .ok (.if_icmp .ne 13, 3) := by decide +kernel
theorem dX11_xDoes_194 : decode cX11_xDoes 194 = .ok (.aload_n 0, 1) := by decide +kernel
theorem dX11_xDoes_195 : decode cX11_xDoes 195 = .ok (.iload_n 2, 1) := by decide +kernel
theorem dX11_xDoes_196 : decode cX11_xDoes 196 = .ok (.bipush 8, 2) := by decide +kernel
theorem dX11_xDoes_198 : decode cX11_xDoes 198 = .ok (.invokevirtual 368, 3) := by decide +kernel
theorem dX11_xDoes_201 : decode cX11_xDoes 201 = .ok (.goto 72, 3) := by decide +kernel
theorem dX11_xDoes_204 : decode cX11_xDoes 204 = .ok (.iload_n 3, 1) := by decide +kernel
theorem dX11_xDoes_205 : decode cX11_xDoes 205 = .ok (.iconst 4, 1) := by decide +kernel
theorem dX11_xDoes_206 : decode cX11_xDoes 206 = .ok (.if_icmp .ne 41, 3) := by decide +kernel
theorem dX11_xDoes_209 : decode cX11_xDoes 209 = .ok (.aload_n 0, 1) := by decide +kernel
theorem dX11_xDoes_210 : decode cX11_xDoes 210 = .ok (.iconst 2, 1) := by decide +kernel
theorem dX11_xDoes_211 : decode cX11_xDoes 211 = .ok (.putfield 361, 3) := by decide +kernel
theorem dX11_xDoes_214 : decode cX11_xDoes 214 = .ok (.aload_n 0, 1) := by decide +kernel
theorem dX11_xDoes_215 : decode cX11_xDoes 215 = .ok (.aload_n 0, 1) := by decide +kernel
theorem dX11_xDoes_216 : decode cX11_xDoes 216 = .ok (.iload 4, 2) := by decide +kernel
theorem dX11_xDoes_218 : decode cX11_xDoes 218 = .ok (.aload_n 0, 1) := by decide +kernel
theorem dX11_xDoes_219 : decode cX11_xDoes 219 = .ok (.getfield 131, 3) := by decide +kernel
theorem dX11_xDoes_222 : decode cX11_xDoes 222 = .ok (.iconst 1, 1) := by decide +kernel
theorem dX11_xDoes_223 : decode cX11_xDoes 223 = .ok (.isub, 1) := by decide +kernel
theorem dX11_xDoes_224 : decode cX11_xDoes 224 = .ok (.iload 5, 2) := by decide +kernel
theorem dX11_xDoes_226 : decode cX11_xDoes 226 = .ok (.bipush 6, 2) := by decide +kernel
theorem dX11_xDoes_228 : decode cX11_xDoes 228 = .ok (.if_icmp .ne 7, 3) := by decide +kernel
theorem dX11_xDoes_231 : decode cX11_xDoes 231 = .ok (.iconst 1, 1) := by decide +kernel
theorem dX11_xDoes_232 : decode cX11_xDoes 232 = .ok (.goto 4, 3) := by decide +kernel
theorem dX11_xDoes_235 : decode cX11_xDoes 235 = .ok (.iconst 0, 1) := by decide +kernel
theorem dX11_xDoes_236 : decode cX11_xDoes 236 = .ok (.invokevirtual 364, 3) := by decide +kernel
theorem dX11_xDoes_239 : decode cX11_xDoes 239 = .ok (.bipush 8, 2) := by decide +kernel
theorem dX11_xDoes_241 : decode cX11_xDoes 241 = .ok (.invokevirtual 368, 3) := by decide +kernel
theorem dX11_xDoes_244 : decode cX11_xDoes 244 = .ok (.goto 29, 3) := by decide +kernel
theorem dX11_xDoes_247 : decode cX11_xDoes 247 = .ok (.aload_n 0, 1) := by decide +kernel
theorem dX11_xDoes_248 : decode cX11_xDoes 248 = .ok (.iconst 1, 1) := by decide +kernel
theorem dX11_xDoes_249 : decode cX11_xDoes 249 = .ok (.putfield 361, 3) := by decide +kernel
theorem dX11_xDoes_252 : decode cX11_xDoes 252 = .ok (.aload_n 0, 1) := by decide +kernel
theorem dX11_xDoes_253 : decode cX11_xDoes 253 = .ok (.aload_n 0, 1) := by decide +kernel
theorem dX11_xDoes_254 : decode cX11_xDoes 254 = .ok (.iload 4, 2) := by decide +kernel
theorem dX11_xDoes_256 : decode cX11_xDoes 256 = .ok (.aload_n 0, 1) := by decide +kernel
theorem dX11_xDoes_257 : decode cX11_xDoes 257 = .ok (.iload_n 1, 1) := by decide +kernel
theorem dX11_xDoes_258 : decode cX11_xDoes 258 = .ok (.iload 4, 2) := by decide +kernel
theorem dX11_xDoes_260 : decode cX11_xDoes 260 = .ok (.invokevirtual 169, 3) := by decide +kernel
theorem dX11_xDoes_263 : decode cX11_xDoes 263 = .ok (.iconst 1, 1) := by decide +kernel
theorem dX11_xDoes_264 : decode cX11_xDoes 264 = .ok (.isub, 1) := by decide +kernel
theorem dX11_xDoes_265 : decode cX11_xDoes 265 = .ok (.invokevirtual 371, 3) := by decide +kernel
theorem dX11_xDoes_268 : decode cX11_xDoes 268 = .ok (.bipush 8, 2) := by decide +kernel
theorem dX11_xDoes_270 : decode cX11_xDoes 270 = .ok (.invokevirtual 368, 3) := by decide +kernel
theorem dX11_xDoes_273 : decode cX11_xDoes 273 = .ok (.return_, 1) := by decide +kernel
theorem dX11_yDoes_0 : decode cX11_yDoes 0 = .ok (.iload_n 2, 1) := by decide +kernel
theorem dX11_yDoes_1 : decode cX11_yDoes 1 = .ok (.bipush 16, 2) := by decide +kernel
theorem dX11_yDoes_3 : decode cX11_yDoes 3 = .ok (.idiv, 1) := by decide +kernel
theorem dX11_yDoes_4 : decode cX11_yDoes 4 = .ok (.istore 4, 2) := by decide +kernel
theorem dX11_yDoes_6 : decode cX11_yDoes 6 = .ok (.iload_n 2, 1) := by decide +kernel
theorem dX11_yDoes_7 : decode cX11_yDoes 7 = .ok (.bipush 16, 2) := by decide +kernel
theorem dX11_yDoes_9 : decode cX11_yDoes 9 = .ok (.irem, 1) := by decide +kernel
theorem dX11_yDoes_10 : decode cX11_yDoes 10 = .ok (.istore 5, 2) := by decide +kernel
theorem dX11_yDoes_12 : decode cX11_yDoes 12 = .ok (.aload_n 0, 1) := by decide +kernel
theorem dX11_yDoes_13 : decode cX11_yDoes 13 = .ok (.iconst 0, 1) := by decide +kernel
theorem dX11_yDoes_14 : decode cX11_yDoes 14 = .ok (.putfield 358, 3) := by decide +kernel
theorem dX11_yDoes_17 : decode cX11_yDoes 17 = .ok (.iload 5, 2) := by decide +kernel
theorem dX11_yDoes_19 : decode cX11_yDoes 19 = .ok (.bipush 11, 2) := by decide +kernel
theorem dX11_yDoes_21 : decode cX11_yDoes 21 = .ok (.if_icmp .le 23, 3) := by decide +kernel
theorem dX11_yDoes_24 : decode cX11_yDoes 24 = .ok (.aload_n 0, 1) := by decide +kernel
theorem dX11_yDoes_25 : decode cX11_yDoes 25 = .ok (.aload_n 0, 1) := by decide +kernel
theorem dX11_yDoes_26 : decode cX11_yDoes 26 = .ok (.iload 4, 2) := by decide +kernel
theorem dX11_yDoes_28 : decode cX11_yDoes 28 = .ok (.iload 5, 2) := by decide +kernel
theorem dX11_yDoes_30 : decode cX11_yDoes 30 = .ok (.bipush 12, 2) := by decide +kernel
theorem dX11_yDoes_32 : decode cX11_yDoes 32 = .ok (.isub, 1) := by decide +kernel
theorem dX11_yDoes_33 : decode cX11_yDoes 33 = .ok (.invokevirtual 374, 3) := by decide +kernel
theorem dX11_yDoes_36 : decode cX11_yDoes 36 = .ok (.bipush 8, 2) := by decide +kernel
theorem dX11_yDoes_38 : decode cX11_yDoes 38 = .ok (.invokevirtual 377, 3) := by decide +kernel
theorem dX11_yDoes_41 : decode cX11_yDoes 41 = .ok (.goto 177, 3) := by decide +kernel
theorem dX11_yDoes_44 : decode cX11_yDoes 44 = .ok (.iload 5, 2) := by decide +kernel
theorem dX11_yDoes_46 : decode cX11_yDoes 46 = .ok (.iconst 5, 1) := by decide +kernel
theorem dX11_yDoes_47 : decode cX11_yDoes 47 = .ok (.if_icmp .le 23, 3) := by decide +kernel
theorem dX11_yDoes_50 : decode cX11_yDoes 50 = .ok (.aload_n 0, 1) := by decide +kernel
theorem dX11_yDoes_51 : decode cX11_yDoes 51 = .ok (.aload_n 0, 1) := by decide +kernel
theorem dX11_yDoes_52 : decode cX11_yDoes 52 = .ok (.iload 4, 2) := by decide +kernel
theorem dX11_yDoes_54 : decode cX11_yDoes 54 = .ok (.iload 5, 2) := by decide +kernel
theorem dX11_yDoes_56 : decode cX11_yDoes 56 = .ok (.bipush 6, 2) := by decide +kernel
theorem dX11_yDoes_58 : decode cX11_yDoes 58 = .ok (.isub, 1) := by decide +kernel
theorem dX11_yDoes_59 : decode cX11_yDoes 59 = .ok (.invokevirtual 380, 3) := by decide +kernel
theorem dX11_yDoes_62 : decode cX11_yDoes 62 = .ok (.bipush 8, 2) := by decide +kernel
theorem dX11_yDoes_64 : decode cX11_yDoes 64 = .ok (.invokevirtual 377, 3) := by decide +kernel
theorem dX11_yDoes_67 : decode cX11_yDoes 67 = .ok (.goto 151, 3) := by decide +kernel
theorem dX11_yDoes_70 : decode cX11_yDoes 70 = .ok (.iload_n 3, 1) := by decide +kernel
theorem dX11_yDoes_71 : decode cX11_yDoes 71 = .ok (.ifCond .le 64, 3) := by decide +kernel
theorem dX11_yDoes_74 : decode cX11_yDoes 74 = .ok (.aload_n 0, 1) := by decide +kernel
theorem dX11_yDoes_75 : decode cX11_yDoes 75 = .ok (.getfield 25, 3) := by decide +kernel
theorem dX11_yDoes_78 : decode cX11_yDoes 78 = .ok (.iload_n 1, 1) := by decide +kernel
theorem dX11_yDoes_79 : decode cX11_yDoes 79 = .ok (.iaload, 1) := by decide +kernel
theorem dX11_yDoes_80 : decode cX11_yDoes 80 = .ok (.iconst 1, 1) := by decide +kernel
theorem dX11_yDoes_81 : decode cX11_yDoes 81 = .ok (.if_icmp .ne 54, 3) := by decide +kernel
theorem dX11_yDoes_84 : decode cX11_yDoes 84 = .ok (.aload_n 0, 1) := by decide +kernel
theorem dX11_yDoes_85 : decode cX11_yDoes 85 = .ok (.getfield 159, 3) := by decide +kernel
theorem dX11_yDoes_88 : decode cX11_yDoes 88 = .ok (.ifCond .ne 47, 3) := by decide +kernel
theorem dX11_yDoes_91 : decode cX11_yDoes 91 = .ok (.aload_n 0, 1) := by decide +kernel
theorem dX11_yDoes_92 : decode cX11_yDoes 92 = .ok (.iload_n 3, 1) := by decide +kernel
theorem dX11_yDoes_93 : decode cX11_yDoes 93 = .ok (.iconst 1, 1) := by decide +kernel
theorem dX11_yDoes_94 : decode cX11_yDoes 94 = .ok (.if_icmp .ne 21, 3) := by decide +kernel
theorem dX11_yDoes_97 : decode cX11_yDoes 97 = .ok (.aload_n 0, 1) := by decide +kernel
theorem dX11_yDoes_98 : decode cX11_yDoes 98 = .ok (.iload 4, 2) := by decide +kernel
theorem dX11_yDoes_100 : decode cX11_yDoes 100 = .ok (.aload_n 0, 1) := by decide +kernel
theorem dX11_yDoes_101 : decode cX11_yDoes 101 = .ok (.iload_n 1, 1) := by decide +kernel
theorem dX11_yDoes_102 : decode cX11_yDoes 102 = .ok (.iload 4, 2) := by decide +kernel
theorem dX11_yDoes_104 : decode cX11_yDoes 104 = .ok (.invokevirtual 169, 3) := by decide +kernel
theorem dX11_yDoes_107 : decode cX11_yDoes 107 = .ok (.iconst 1, 1) := by decide +kernel
theorem dX11_yDoes_108 : decode cX11_yDoes 108 = .ok (.isub, 1) := by decide +kernel
theorem dX11_yDoes_109 : decode cX11_yDoes 109 = .ok (.invokevirtual 380, 3) := by decide +kernel
theorem dX11_yDoes_112 : decode cX11_yDoes 112 = .ok (.goto 15, 3) := by decide +kernel
theorem dX11_yDoes_115 : decode cX11_yDoes 115 = .ok (.aload_n 0, 1) := by decide +kernel
theorem dX11_yDoes_116 : decode cX11_yDoes 116 = .ok (.iload 4, 2) := by decide +kernel
theorem dX11_yDoes_118 : decode cX11_yDoes 118 = .ok (.aload_n 0, 1) := by decide +kernel
theorem dX11_yDoes_119 : decode cX11_yDoes 119 = .ok (.getfield 131, 3) := by decide +kernel
theorem dX11_yDoes_122 : decode cX11_yDoes 122 = .ok (.iconst 1, 1) := by decide +kernel
theorem dX11_yDoes_123 : decode cX11_yDoes 123 = .ok (.isub, 1) := by decide +kernel
theorem dX11_yDoes_124 : decode cX11_yDoes 124 = .ok (.invokevirtual 374, 3) := by decide +kernel
theorem dX11_yDoes_127 : decode cX11_yDoes 127 = .ok (.bipush 8, 2) := by decide +kernel
theorem dX11_yDoes_129 : decode cX11_yDoes 129 = .ok (.invokevirtual 377, 3) := by decide +kernel
theorem dX11_yDoes_132 : decode cX11_yDoes 132 = .ok (.goto 86, 3) := by decide +kernel
theorem dX11_yDoes_135 : decode cX11_yDoes 135 = .ok (.aload_n 0, 1) := by decide +kernel
theorem dX11_yDoes_136 : decode cX11_yDoes 136 = .ok (.iload_n 1, 1) := by decide +kernel
theorem dX11_yDoes_137 : decode cX11_yDoes 137 = .ok (.aload_n 0, 1) := by decide +kernel
theorem dX11_yDoes_138 : decode cX11_yDoes 138 = .ok (.getfield 19, 3) := by decide +kernel
theorem dX11_yDoes_141 : decode cX11_yDoes 141 = .ok (.iload_n 1, 1) := by decide +kernel
theorem dX11_yDoes_142 : decode cX11_yDoes 142 = .ok (.iaload, 1) := by decide +kernel
theorem dX11_yDoes_143 : decode cX11_yDoes 143 = .ok (.iload 4, 2) := by decide +kernel
theorem dX11_yDoes_145 : decode cX11_yDoes 145 = .ok (.iload 5, 2) := by decide +kernel
theorem dX11_yDoes_147 : decode cX11_yDoes 147 = .ok (.invokevirtual 288, 3) := by decide +kernel
theorem dX11_yDoes_150 : decode cX11_yDoes 150 = .ok (.aload_n 0, 1) := by decide +kernel
theorem dX11_yDoes_151 : decode cX11_yDoes 151 = .ok (.bipush 16, 2) := by decide +kernel
theorem dX11_yDoes_153 : decode cX11_yDoes 153 = .ok (.iload 4, 2) := by decide +kernel
theorem dX11_yDoes_155 : decode cX11_yDoes 155 = .ok (.imul, 1) := by decide +kernel
theorem dX11_yDoes_156 : decode cX11_yDoes 156 = .ok (.iconst 5, 1) := by decide +kernel
theorem dX11_yDoes_157 : decode cX11_yDoes 157 = .ok (.iadd, 1) := by decide +kernel
theorem dX11_yDoes_158 : decode cX11_yDoes 158 = .ok (.aload_n 0, 1) := by decide +kernel
theorem dX11_yDoes_159 : decode cX11_yDoes 159 = .ok (.iload_n 1, 1) := by decide +kernel
theorem dX11_yDoes_160 : decode cX11_yDoes 160 = .ok (.iload 4, 2) := by decide +kernel
theorem dX11_yDoes_162 : decode cX11_yDoes 162 = .ok (.invokevirtual 169, 3) := by decide +kernel
theorem dX11_yDoes_165 : decode cX11_yDoes 165 = .ok (.iadd, 1) := by decide +kernel
theorem dX11_yDoes_166 : decode cX11_yDoes 166 = .ok (.aload_n 0, 1) := by decide +kernel
theorem dX11_yDoes_167 : decode cX11_yDoes 167 = .ok (.getfield 282, 3) := by decide +kernel
theorem dX11_yDoes_170 : decode cX11_yDoes 170 = .ok (.invokevirtual 377, 3) := by decide +kernel
theorem dX11_yDoes_173 : decode cX11_yDoes 173 = .ok (.aload_n 0, 1) := by decide +kernel
theorem dX11_yDoes_174 : decode cX11_yDoes 174 = .ok (.aload_n 0, 1) := by decide +kernel
theorem dX11_yDoes_175 : decode cX11_yDoes 175 = .ok (.iload 4, 2) := by decide +kernel
theorem dX11_yDoes_177 : decode cX11_yDoes 177 = .ok (.aload_n 0, 1) := by decide +kernel
theorem dX11_yDoes_178 : decode cX11_yDoes 178 = .ok (.getfield 131, 3) := by decide +kernel
theorem dX11_yDoes_181 : decode cX11_yDoes 181 = .ok (.invokevirtual 374, 3) := by decide +kernel
theorem dX11_yDoes_184 : decode cX11_yDoes 184 = .ok (.aload_n 0, 1) := by decide +kernel
theorem dX11_yDoes_185 : decode cX11_yDoes 185 = .ok (.getfield 285, 3) := by decide +kernel
theorem dX11_yDoes_188 : decode cX11_yDoes 188 = .ok (.invokevirtual 377, 3) := by decide +kernel
theorem dX11_yDoes_191 : decode cX11_yDoes 191 = .ok (.aload_n 0, 1) := by decide +kernel
theorem dX11_yDoes_192 : decode cX11_yDoes 192 = .ok (.bipush 16, 2) := by decide +kernel
theorem dX11_yDoes_194 : decode cX11_yDoes 194 = .ok (.iload 4, 2) := by decide +kernel
theorem dX11_yDoes_196 : decode cX11_yDoes 196 = .ok (.imul, 1) := by decide +kernel
theorem dX11_yDoes_197 : decode cX11_yDoes 197 = .ok (.iload 5, 2) := by decide +kernel
theorem dX11_yDoes_199 : decode cX11_yDoes 199 = .ok (.invokestatic 297, 3) := by decide +kernel
theorem dX11_yDoes_202 : decode cX11_yDoes 202 = .ok (.iadd, 1) := by decide +kernel
theorem dX11_yDoes_203 : decode cX11_yDoes 203 = .ok (.bipush 8, 2) := by decide +kernel
theorem dX11_yDoes_205 : decode cX11_yDoes 205 = .ok (.aload_n 0, 1) := by decide +kernel
theorem dX11_yDoes_206 : decode cX11_yDoes 206 = .ok (.getfield 282, 3) := by decide +kernel
theorem dX11_yDoes_209 : decode cX11_yDoes 209 = .ok (.isub, 1) := by decide +kernel
theorem dX11_yDoes_210 : decode cX11_yDoes 210 = .ok (.aload_n 0, 1) := by decide +kernel
theorem dX11_yDoes_211 : decode cX11_yDoes 211 = .ok (.getfield 285, 3) := by decide +kernel
theorem dX11_yDoes_214 : decode cX11_yDoes 214 = .ok (.isub, 1) := by decide +kernel
theorem dX11_yDoes_215 : decode cX11_yDoes 215 = .ok (.invokevirtual 377, 3) := by decide +kernel
theorem dX11_yDoes_218 : decode cX11_yDoes 218 = .ok (.return_, 1) := by decide +kernel
theorem dX11_beganAt_0 : decode cX11_beganAt 0 = .ok (.iload_n 3, 1) := by decide +kernel
theorem dX11_beganAt_1 : decode cX11_beganAt 1 = .ok (.bipush 80, 2) := by decide +kernel
theorem dX11_beganAt_3 : decode cX11_beganAt 3 = .ok (.if_icmp .ge 32, 3) := by decide +kernel
theorem dX11_beganAt_6 : decode cX11_beganAt 6 = .ok (.iload_n 1, 1) := by decide +kernel
theorem dX11_beganAt_7 : decode cX11_beganAt 7 = .ok (.bipush 21, 2) := by decide +kernel
theorem dX11_beganAt_9 : decode cX11_beganAt 9 = .ok (.idiv, 1) := by decide +kernel
theorem dX11_beganAt_10 : decode cX11_beganAt 10 = .ok (.iload_n 2, 1) := by decide +kernel
theorem dX11_beganAt_11 : decode cX11_beganAt 11 = .ok (.bipush 16, 2) := by decide +kernel
theorem dX11_beganAt_13 : decode cX11_beganAt 13 = .ok (.idiv, 1) := by decide +kernel
theorem dX11_beganAt_14 : decode cX11_beganAt 14 = .ok (.if_icmp .ne 21, 3) := by decide +kernel
theorem dX11_beganAt_17 : decode cX11_beganAt 17 = .ok (.iload_n 3, 1) := by decide +kernel
theorem dX11_beganAt_18 : decode cX11_beganAt 18 = .ok (.bipush 16, 2) := by decide +kernel
theorem dX11_beganAt_20 : decode cX11_beganAt 20 = .ok (.idiv, 1) := by decide +kernel
theorem dX11_beganAt_21 : decode cX11_beganAt 21 = .ok (.iload_n 2, 1) := by decide +kernel
theorem dX11_beganAt_22 : decode cX11_beganAt 22 = .ok (.bipush 16, 2) := by decide +kernel
theorem dX11_beganAt_24 : decode cX11_beganAt 24 = .ok (.idiv, 1) := by decide +kernel
theorem dX11_beganAt_25 : decode cX11_beganAt 25 = .ok (.if_icmp .ne 10, 3) := by decide +kernel
theorem dX11_beganAt_28 : decode cX11_beganAt 28 = .ok (.aload_n 0, 1) := by decide +kernel
theorem dX11_beganAt_29 : decode cX11_beganAt 29 = .ok (.getfield 361, 3) := by decide +kernel
theorem dX11_beganAt_32 : decode cX11_beganAt 32 = .ok (.goto 4, 3) := by decide +kernel
theorem dX11_beganAt_35 : decode cX11_beganAt 35 = .ok (.iconst 0, 1) := by decide +kernel
theorem dX11_beganAt_36 : decode cX11_beganAt 36 = .ok (.ireturn, 1) := by decide +kernel
theorem dX11_placeIn_0 : decode cX11_placeIn 0 = .ok (.sipush 25200, 3) := by decide +kernel
theorem dX11_placeIn_3 : decode cX11_placeIn 3 = .ok (.iload_n 0, 1) := by decide +kernel
theorem dX11_placeIn_4 : decode cX11_placeIn 4 = .ok (.imul, 1) := by decide +kernel
theorem dX11_placeIn_5 : decode cX11_placeIn 5 = .ok (.iconst 3, 1) := by decide +kernel
theorem dX11_placeIn_6 : decode cX11_placeIn 6 = .ok (.bipush 80, 2) := by decide +kernel
theorem dX11_placeIn_8 : decode cX11_placeIn 8 = .ok (.iload_n 1, 1) := by decide +kernel
theorem dX11_placeIn_9 : decode cX11_placeIn 9 = .ok (.imul, 1) := by decide +kernel
theorem dX11_placeIn_10 : decode cX11_placeIn 10 = .ok (.iload_n 2, 1) := by decide +kernel
theorem dX11_placeIn_11 : decode cX11_placeIn 11 = .ok (.iadd, 1) := by decide +kernel
theorem dX11_placeIn_12 : decode cX11_placeIn 12 = .ok (.imul, 1) := by decide +kernel
theorem dX11_placeIn_13 : decode cX11_placeIn 13 = .ok (.iadd, 1) := by decide +kernel
theorem dX11_placeIn_14 : decode cX11_placeIn 14 = .ok (.iload_n 3, 1) := by decide +kernel
theorem dX11_placeIn_15 : decode cX11_placeIn 15 = .ok (.iadd, 1) := by decide +kernel
theorem dX11_placeIn_16 : decode cX11_placeIn 16 = .ok (.ireturn, 1) := by decide +kernel
theorem dX11_sixtyFours_0 : decode cX11_sixtyFours 0 = .ok (.lconst 1, 1) := by decide +kernel
theorem dX11_sixtyFours_1 : decode cX11_sixtyFours 1 = .ok (.lstore_n 1, 1) := by decide +kernel
theorem dX11_sixtyFours_2 : decode cX11_sixtyFours 2 = .ok (.iconst 0, 1) := by decide +kernel
theorem dX11_sixtyFours_3 : decode cX11_sixtyFours 3 = .ok (.istore_n 3, 1) := by decide +kernel
theorem dX11_sixtyFours_4 : decode cX11_sixtyFours 4 = .ok (.iload_n 3, 1) := by decide +kernel
theorem dX11_sixtyFours_5 : decode cX11_sixtyFours 5 = .ok (.iload_n 0, 1) := by decide +kernel
theorem dX11_sixtyFours_6 : decode cX11_sixtyFours 6 = .ok (.if_icmp .ge 15, 3) := by decide +kernel
theorem dX11_sixtyFours_9 : decode cX11_sixtyFours 9 = .ok (.lload_n 1, 1) := by decide +kernel
theorem dX11_sixtyFours_10 : decode cX11_sixtyFours 10 = .ok (.ldc2_w 334, 3) := by decide +kernel
theorem dX11_sixtyFours_13 : decode cX11_sixtyFours 13 = .ok (.lmul, 1) := by decide +kernel
theorem dX11_sixtyFours_14 : decode cX11_sixtyFours 14 = .ok (.lstore_n 1, 1) := by decide +kernel
theorem dX11_sixtyFours_15 : decode cX11_sixtyFours 15 = .ok (.iinc 3 1, 3) := by decide +kernel
theorem dX11_sixtyFours_18 : decode cX11_sixtyFours 18 = .ok (.goto (-14), 3) := by decide +kernel
theorem dX11_sixtyFours_21 : decode cX11_sixtyFours 21 = .ok (.lload_n 1, 1) := by decide +kernel
theorem dX11_sixtyFours_22 : decode cX11_sixtyFours 22 = .ok (.lreturn, 1) := by decide +kernel
theorem dX11_behind_0 : decode cX11_behind 0 = .ok (.lconst 0, 1) := by decide +kernel
theorem dX11_behind_1 : decode cX11_behind 1 = .ok (.lstore 5, 2) := by decide +kernel
theorem dX11_behind_3 : decode cX11_behind 3 = .ok (.iconst 0, 1) := by decide +kernel
theorem dX11_behind_4 : decode cX11_behind 4 = .ok (.istore 7, 2) := by decide +kernel
theorem dX11_behind_6 : decode cX11_behind 6 = .ok (.iload 7, 2) := by decide +kernel
theorem dX11_behind_8 : decode cX11_behind 8 = .ok (.aload_n 0, 1) := by decide +kernel
theorem dX11_behind_9 : decode cX11_behind 9 = .ok (.getfield 355, 3) := by decide +kernel
theorem dX11_behind_12 : decode cX11_behind 12 = .ok (.if_icmp .ge 207, 3) := by decide +kernel
theorem dX11_behind_15 : decode cX11_behind 15 = .ok (.iconst 0, 1) := by decide +kernel
theorem dX11_behind_16 : decode cX11_behind 16 = .ok (.istore 8, 2) := by decide +kernel
theorem dX11_behind_18 : decode cX11_behind 18 = .ok (.iload 8, 2) := by decide +kernel
theorem dX11_behind_20 : decode cX11_behind 20 = .ok (.aload_n 0, 1) := by decide +kernel
theorem dX11_behind_21 : decode cX11_behind 21 = .ok (.getfield 358, 3) := by decide +kernel
theorem dX11_behind_24 : decode cX11_behind 24 = .ok (.if_icmp .ge 189, 3) := by decide +kernel
theorem dX11_behind_27 : decode cX11_behind 27 = .ok (.aload_n 0, 1) := by decide +kernel
theorem dX11_behind_28 : decode cX11_behind 28 = .ok (.getfield 98, 3) := by decide +kernel
theorem dX11_behind_31 : decode cX11_behind 31 = .ok (.iload 7, 2) := by decide +kernel
theorem dX11_behind_33 : decode cX11_behind 33 = .ok (.iaload, 1) := by decide +kernel
theorem dX11_behind_34 : decode cX11_behind 34 = .ok (.i2l, 1) := by decide +kernel
theorem dX11_behind_35 : decode cX11_behind 35 = .ok (.aload_n 0, 1) := by decide +kernel
theorem dX11_behind_36 : decode cX11_behind 36 = .ok (.getfield 104, 3) := by decide +kernel
theorem dX11_behind_39 : decode cX11_behind 39 = .ok (.iload 8, 2) := by decide +kernel
theorem dX11_behind_41 : decode cX11_behind 41 = .ok (.iaload, 1) := by decide +kernel
theorem dX11_behind_42 : decode cX11_behind 42 = .ok (.i2l, 1) := by decide +kernel
theorem dX11_behind_43 : decode cX11_behind 43 = .ok (.lmul, 1) := by decide +kernel
theorem dX11_behind_44 : decode cX11_behind 44 = .ok (.lstore 9, 2) := by decide +kernel
theorem dX11_behind_46 : decode cX11_behind 46 = .ok (.aload_n 0, 1) := by decide +kernel
theorem dX11_behind_47 : decode cX11_behind 47 = .ok (.getfield 95, 3) := by decide +kernel
theorem dX11_behind_50 : decode cX11_behind 50 = .ok (.iload 7, 2) := by decide +kernel
theorem dX11_behind_52 : decode cX11_behind 52 = .ok (.iaload, 1) := by decide +kernel
theorem dX11_behind_53 : decode cX11_behind 53 = .ok (.bipush 105, 2) := by decide +kernel
theorem dX11_behind_55 : decode cX11_behind 55 = .ok (.if_icmp .eq 15, 3) := by decide +kernel
theorem dX11_behind_58 : decode cX11_behind 58 = .ok (.aload_n 0, 1) := by decide +kernel
theorem dX11_behind_59 : decode cX11_behind 59 = .ok (.getfield 101, 3) := by decide +kernel
theorem dX11_behind_62 : decode cX11_behind 62 = .ok (.iload 8, 2) := by decide +kernel
theorem dX11_behind_64 : decode cX11_behind 64 = .ok (.iaload, 1) := by decide +kernel
theorem dX11_behind_65 : decode cX11_behind 65 = .ok (.bipush 80, 2) := by decide +kernel
theorem dX11_behind_67 : decode cX11_behind 67 = .ok (.if_icmp .ne 59, 3) := by decide +kernel
theorem dX11_behind_70 : decode cX11_behind 70 = .ok (.aload_n 0, 1) := by decide +kernel
theorem dX11_behind_71 : decode cX11_behind 71 = .ok (.getfield 95, 3) := by decide +kernel
theorem dX11_behind_74 : decode cX11_behind 74 = .ok (.iload 7, 2) := by decide +kernel
theorem dX11_behind_76 : decode cX11_behind 76 = .ok (.iaload, 1) := by decide +kernel
theorem dX11_behind_77 : decode cX11_behind 77 = .ok (.bipush 105, 2) := by decide +kernel
theorem dX11_behind_79 : decode cX11_behind 79 = .ok (.if_icmp .eq 7, 3) := by decide +kernel
theorem dX11_behind_82 : decode cX11_behind 82 = .ok (.iconst 0, 1) := by decide +kernel
theorem dX11_behind_83 : decode cX11_behind 83 = .ok (.goto 20, 3) := by decide +kernel
theorem dX11_behind_86 : decode cX11_behind 86 = .ok (.aload_n 0, 1) := by decide +kernel
theorem dX11_behind_87 : decode cX11_behind 87 = .ok (.getfield 101, 3) := by decide +kernel
theorem dX11_behind_90 : decode cX11_behind 90 = .ok (.iload 8, 2) := by decide +kernel
theorem dX11_behind_92 : decode cX11_behind 92 = .ok (.iaload, 1) := by decide +kernel
theorem dX11_behind_93 : decode cX11_behind 93 = .ok (.bipush 80, 2) := by decide +kernel
theorem dX11_behind_95 : decode cX11_behind 95 = .ok (.if_icmp .ne 7, 3) := by decide +kernel
theorem dX11_behind_98 : decode cX11_behind 98 = .ok (.iconst 1, 1) := by decide +kernel
theorem dX11_behind_99 : decode cX11_behind 99 = .ok (.goto 4, 3) := by decide +kernel
theorem dX11_behind_102 : decode cX11_behind 102 = .ok (.iconst 2, 1) := by decide +kernel
theorem dX11_behind_103 : decode cX11_behind 103 = .ok (.istore 11, 2) := by decide +kernel
theorem dX11_behind_105 : decode cX11_behind 105 = .ok (.lload 5, 2) := by decide +kernel
theorem dX11_behind_107 : decode cX11_behind 107 = .ok (.lload 9, 2) := by decide +kernel
theorem dX11_behind_109 : decode cX11_behind 109 = .ok (.iload 11, 2) := by decide +kernel
theorem dX11_behind_111 : decode cX11_behind 111 = .ok (.i2l, 1) := by decide +kernel
theorem dX11_behind_112 : decode cX11_behind 112 = .ok (.lmul, 1) := by decide +kernel
theorem dX11_behind_113 : decode cX11_behind 113 = .ok (.iload_n 1, 1) := by decide +kernel
theorem dX11_behind_114 : decode cX11_behind 114 = .ok (.iconst 1, 1) := by decide +kernel
theorem dX11_behind_115 : decode cX11_behind 115 = .ok (.isub, 1) := by decide +kernel
theorem dX11_behind_116 : decode cX11_behind 116 = .ok (.invokestatic 383, 3) := by decide +kernel
theorem dX11_behind_119 : decode cX11_behind 119 = .ok (.lmul, 1) := by decide +kernel
theorem dX11_behind_120 : decode cX11_behind 120 = .ok (.ladd, 1) := by decide +kernel
theorem dX11_behind_121 : decode cX11_behind 121 = .ok (.lstore 5, 2) := by decide +kernel
theorem dX11_behind_123 : decode cX11_behind 123 = .ok (.goto 84, 3) := by decide +kernel
theorem dX11_behind_126 : decode cX11_behind 126 = .ok (.iload_n 1, 1) := by decide +kernel
theorem dX11_behind_127 : decode cX11_behind 127 = .ok (.iconst 1, 1) := by decide +kernel
theorem dX11_behind_128 : decode cX11_behind 128 = .ok (.if_icmp .ne 13, 3) := by decide +kernel
theorem dX11_behind_131 : decode cX11_behind 131 = .ok (.lload 5, 2) := by decide +kernel
theorem dX11_behind_133 : decode cX11_behind 133 = .ok (.lload 9, 2) := by decide +kernel
theorem dX11_behind_135 : decode cX11_behind 135 = .ok (.ladd, 1) := by decide +kernel
theorem dX11_behind_136 : decode cX11_behind 136 = .ok (.lstore 5, 2) := by decide +kernel
theorem dX11_behind_138 : decode cX11_behind 138 = .ok (.goto 69, 3) := by decide +kernel
theorem dX11_behind_141 : decode cX11_behind 141 = .ok (.iload_n 1, 1) := by decide +kernel
theorem dX11_behind_142 : decode cX11_behind 142 = .ok (.iconst 1, 1) := by decide +kernel
theorem dX11_behind_143 : decode cX11_behind 143 = .ok (.isub, 1) := by decide +kernel
theorem dX11_behind_144 : decode cX11_behind 144 = .ok (.aload_n 0, 1) := by decide +kernel
theorem dX11_behind_145 : decode cX11_behind 145 = .ok (.getfield 95, 3) := by decide +kernel
theorem dX11_behind_148 : decode cX11_behind 148 = .ok (.iload 7, 2) := by decide +kernel
theorem dX11_behind_150 : decode cX11_behind 150 = .ok (.iaload, 1) := by decide +kernel
theorem dX11_behind_151 : decode cX11_behind 151 = .ok (.aload_n 0, 1) := by decide +kernel
theorem dX11_behind_152 : decode cX11_behind 152 = .ok (.getfield 101, 3) := by decide +kernel
theorem dX11_behind_155 : decode cX11_behind 155 = .ok (.iload 8, 2) := by decide +kernel
theorem dX11_behind_157 : decode cX11_behind 157 = .ok (.iaload, 1) := by decide +kernel
theorem dX11_behind_158 : decode cX11_behind 158 = .ok (.aload_n 0, 1) := by decide +kernel
theorem dX11_behind_159 : decode cX11_behind 159 = .ok (.iload_n 2, 1) := by decide +kernel
theorem dX11_behind_160 : decode cX11_behind 160 = .ok (.iload_n 3, 1) := by decide +kernel
theorem dX11_behind_161 : decode cX11_behind 161 = .ok (.aload_n 0, 1) := by decide +kernel
theorem dX11_behind_162 : decode cX11_behind 162 = .ok (.getfield 101, 3) := by decide +kernel
theorem dX11_behind_165 : decode cX11_behind 165 = .ok (.iload 8, 2) := by decide +kernel
theorem dX11_behind_167 : decode cX11_behind 167 = .ok (.iaload, 1) := by decide +kernel
theorem dX11_behind_168 : decode cX11_behind 168 = .ok (.invokevirtual 386, 3) := by decide +kernel
theorem dX11_behind_171 : decode cX11_behind 171 = .ok (.invokestatic 389, 3) := by decide +kernel
theorem dX11_behind_174 : decode cX11_behind 174 = .ok (.istore 11, 2) := by decide +kernel
theorem dX11_behind_176 : decode cX11_behind 176 = .ok (.iload 4, 2) := by decide +kernel
theorem dX11_behind_178 : decode cX11_behind 178 = .ok (.ifCond .eq 14, 3) := by decide +kernel
theorem dX11_behind_181 : decode cX11_behind 181 = .ok (.aload_n 0, 1) := by decide +kernel
theorem dX11_behind_182 : decode cX11_behind 182 = .ok (.getfield 85, 3) := by decide +kernel
theorem dX11_behind_185 : decode cX11_behind 185 = .ok (.iload 11, 2) := by decide +kernel
theorem dX11_behind_187 : decode cX11_behind 187 = .ok (.iconst 1, 1) := by decide +kernel
theorem dX11_behind_188 : decode cX11_behind 188 = .ok (.bastore, 1) := by decide +kernel
theorem dX11_behind_189 : decode cX11_behind 189 = .ok (.goto 18, 3) := by decide +kernel
theorem dX11_behind_192 : decode cX11_behind 192 = .ok (.lload 5, 2) := by decide +kernel
theorem dX11_behind_194 : decode cX11_behind 194 = .ok (.lload 9, 2) := by decide +kernel
theorem dX11_behind_196 : decode cX11_behind 196 = .ok (.aload_n 0, 1) := by decide +kernel
theorem dX11_behind_197 : decode cX11_behind 197 = .ok (.getfield 89, 3) := by decide +kernel
theorem dX11_behind_200 : decode cX11_behind 200 = .ok (.iload 11, 2) := by decide +kernel
theorem dX11_behind_202 : decode cX11_behind 202 = .ok (.laload, 1) := by decide +kernel
theorem dX11_behind_203 : decode cX11_behind 203 = .ok (.lmul, 1) := by decide +kernel
theorem dX11_behind_204 : decode cX11_behind 204 = .ok (.ladd, 1) := by decide +kernel
theorem dX11_behind_205 : decode cX11_behind 205 = .ok (.lstore 5, 2) := by decide +kernel
theorem dX11_behind_207 : decode cX11_behind 207 = .ok (.iinc 8 1, 3) := by decide +kernel
theorem dX11_behind_210 : decode cX11_behind 210 = .ok (.goto (-192), 3) := by decide +kernel
theorem dX11_behind_213 : decode cX11_behind 213 = .ok (.iinc 7 1, 3) := by decide +kernel
theorem dX11_behind_216 : decode cX11_behind 216 = .ok (.goto (-210), 3) := by decide +kernel
theorem dX11_behind_219 : decode cX11_behind 219 = .ok (.lload 5, 2) := by decide +kernel
theorem dX11_behind_221 : decode cX11_behind 221 = .ok (.lreturn, 1) := by decide +kernel
theorem dX11_isLet_0 : decode cX11_isLet 0 = .ok (.iload_n 1, 1) := by decide +kernel
theorem dX11_isLet_1 : decode cX11_isLet 1 = .ok (.iconst 2, 1) := by decide +kernel
theorem dX11_isLet_2 : decode cX11_isLet 2 = .ok (.if_icmp .lt 13, 3) := by decide +kernel
theorem dX11_isLet_5 : decode cX11_isLet 5 = .ok (.iload_n 2, 1) := by decide +kernel
theorem dX11_isLet_6 : decode cX11_isLet 6 = .ok (.iload_n 1, 1) := by decide +kernel
theorem dX11_isLet_7 : decode cX11_isLet 7 = .ok (.iconst 2, 1) := by decide +kernel
theorem dX11_isLet_8 : decode cX11_isLet 8 = .ok (.isub, 1) := by decide +kernel
theorem dX11_isLet_9 : decode cX11_isLet 9 = .ok (.ishr, 1) := by decide +kernel
theorem dX11_isLet_10 : decode cX11_isLet 10 = .ok (.iconst 1, 1) := by decide +kernel
theorem dX11_isLet_11 : decode cX11_isLet 11 = .ok (.iand, 1) := by decide +kernel
theorem dX11_isLet_12 : decode cX11_isLet 12 = .ok (.ifCond .ne 7, 3) := by decide +kernel
theorem dX11_isLet_15 : decode cX11_isLet 15 = .ok (.iconst 1, 1) := by decide +kernel
theorem dX11_isLet_16 : decode cX11_isLet 16 = .ok (.goto 4, 3) := by decide +kernel
theorem dX11_isLet_19 : decode cX11_isLet 19 = .ok (.iconst 0, 1) := by decide +kernel
theorem dX11_isLet_20 : decode cX11_isLet 20 = .ok (.ireturn, 1) := by decide +kernel
theorem dX11_acts_0 : decode cX11_acts 0 = .ok (.iload 4, 2) := by decide +kernel
theorem dX11_acts_2 : decode cX11_acts 2 = .ok (.iconst 3, 1) := by decide +kernel
theorem dX11_acts_3 : decode cX11_acts 3 = .ok (.irem, 1) := by decide +kernel
theorem dX11_acts_4 : decode cX11_acts 4 = .ok (.istore 7, 2) := by decide +kernel
theorem dX11_acts_6 : decode cX11_acts 6 = .ok (.iload 4, 2) := by decide +kernel
theorem dX11_acts_8 : decode cX11_acts 8 = .ok (.iconst 3, 1) := by decide +kernel
theorem dX11_acts_9 : decode cX11_acts 9 = .ok (.idiv, 1) := by decide +kernel
theorem dX11_acts_10 : decode cX11_acts 10 = .ok (.bipush 80, 2) := by decide +kernel
theorem dX11_acts_12 : decode cX11_acts 12 = .ok (.idiv, 1) := by decide +kernel
theorem dX11_acts_13 : decode cX11_acts 13 = .ok (.istore 8, 2) := by decide +kernel
theorem dX11_acts_15 : decode cX11_acts 15 = .ok (.iload 4, 2) := by decide +kernel
theorem dX11_acts_17 : decode cX11_acts 17 = .ok (.iconst 3, 1) := by decide +kernel
theorem dX11_acts_18 : decode cX11_acts 18 = .ok (.idiv, 1) := by decide +kernel
theorem dX11_acts_19 : decode cX11_acts 19 = .ok (.bipush 80, 2) := by decide +kernel
theorem dX11_acts_21 : decode cX11_acts 21 = .ok (.irem, 1) := by decide +kernel
theorem dX11_acts_22 : decode cX11_acts 22 = .ok (.istore 9, 2) := by decide +kernel
theorem dX11_acts_24 : decode cX11_acts 24 = .ok (.sipush 25200, 3) := by decide +kernel
theorem dX11_acts_27 : decode cX11_acts 27 = .ok (.iload_n 3, 1) := by decide +kernel
theorem dX11_acts_28 : decode cX11_acts 28 = .ok (.imul, 1) := by decide +kernel
theorem dX11_acts_29 : decode cX11_acts 29 = .ok (.iload 4, 2) := by decide +kernel
theorem dX11_acts_31 : decode cX11_acts 31 = .ok (.iadd, 1) := by decide +kernel
theorem dX11_acts_32 : decode cX11_acts 32 = .ok (.istore 10, 2) := by decide +kernel
theorem dX11_acts_34 : decode cX11_acts 34 = .ok (.iconst 0, 1) := by decide +kernel
theorem dX11_acts_35 : decode cX11_acts 35 = .ok (.istore 11, 2) := by decide +kernel
theorem dX11_acts_37 : decode cX11_acts 37 = .ok (.iconst 0, 1) := by decide +kernel
theorem dX11_acts_38 : decode cX11_acts 38 = .ok (.istore 12, 2) := by decide +kernel
theorem dX11_acts_40 : decode cX11_acts 40 = .ok (.iload 12, 2) := by decide +kernel
theorem dX11_acts_42 : decode cX11_acts 42 = .ok (.iconst 5, 1) := by decide +kernel
theorem dX11_acts_43 : decode cX11_acts 43 = .ok (.if_icmp .ge 143, 3) := by decide +kernel
theorem dX11_acts_46 : decode cX11_acts 46 = .ok (.iload 8, 2) := by decide +kernel
theorem dX11_acts_48 : decode cX11_acts 48 = .ok (.invokestatic 393, 3) := by decide +kernel
theorem dX11_acts_51 : decode cX11_acts 51 = .ok (.ifCond .eq 30, 3) := by decide +kernel
theorem dX11_acts_54 : decode cX11_acts 54 = .ok (.aload_n 0, 1) := by decide +kernel
theorem dX11_acts_55 : decode cX11_acts 55 = .ok (.iload 8, 2) := by decide +kernel
theorem dX11_acts_57 : decode cX11_acts 57 = .ok (.iload 9, 2) := by decide +kernel
theorem dX11_acts_59 : decode cX11_acts 59 = .ok (.iload 12, 2) := by decide +kernel
theorem dX11_acts_61 : decode cX11_acts 61 = .ok (.invokevirtual 396, 3) := by decide +kernel
theorem dX11_acts_64 : decode cX11_acts 64 = .ok (.ifCond .eq 116, 3) := by decide +kernel
theorem dX11_acts_67 : decode cX11_acts 67 = .ok (.aload_n 0, 1) := by decide +kernel
theorem dX11_acts_68 : decode cX11_acts 68 = .ok (.iload 12, 2) := by decide +kernel
theorem dX11_acts_70 : decode cX11_acts 70 = .ok (.iload 5, 2) := by decide +kernel
theorem dX11_acts_72 : decode cX11_acts 72 = .ok (.invokevirtual 399, 3) := by decide +kernel
theorem dX11_acts_75 : decode cX11_acts 75 = .ok (.ifCond .ne 14, 3) := by decide +kernel
theorem dX11_acts_78 : decode cX11_acts 78 = .ok (.goto 102, 3) := by decide +kernel
theorem dX11_acts_81 : decode cX11_acts 81 = .ok (.iload 12, 2) := by decide +kernel
theorem dX11_acts_83 : decode cX11_acts 83 = .ok (.ifCond .le 6, 3) := by decide +kernel
theorem dX11_acts_86 : decode cX11_acts 86 = .ok (.goto 94, 3) := by decide +kernel
theorem dX11_acts_89 : decode cX11_acts 89 = .ok (.aload_n 0, 1) := by decide +kernel
theorem dX11_acts_90 : decode cX11_acts 90 = .ok (.iload_n 1, 1) := by decide +kernel
theorem dX11_acts_91 : decode cX11_acts 91 = .ok (.iload 8, 2) := by decide +kernel
theorem dX11_acts_93 : decode cX11_acts 93 = .ok (.iload 12, 2) := by decide +kernel
theorem dX11_acts_95 : decode cX11_acts 95 = .ok (.invokevirtual 402, 3) := by decide +kernel
theorem dX11_acts_98 : decode cX11_acts 98 = .ok (.aload_n 0, 1) := by decide +kernel
theorem dX11_acts_99 : decode cX11_acts 99 = .ok (.iload_n 2, 1) := by decide +kernel
theorem dX11_acts_100 : decode cX11_acts 100 = .ok (.iload 9, 2) := by decide +kernel
theorem dX11_acts_102 : decode cX11_acts 102 = .ok (.iload 7, 2) := by decide +kernel
theorem dX11_acts_104 : decode cX11_acts 104 = .ok (.invokevirtual 405, 3) := by decide +kernel
theorem dX11_acts_107 : decode cX11_acts 107 = .ok (.aload_n 0, 1) := by decide +kernel
theorem dX11_acts_108 : decode cX11_acts 108 = .ok (.iload_n 3, 1) := by decide +kernel
theorem dX11_acts_109 : decode cX11_acts 109 = .ok (.iload 8, 2) := by decide +kernel
theorem dX11_acts_111 : decode cX11_acts 111 = .ok (.iload 9, 2) := by decide +kernel
theorem dX11_acts_113 : decode cX11_acts 113 = .ok (.iload 6, 2) := by decide +kernel
theorem dX11_acts_115 : decode cX11_acts 115 = .ok (.invokevirtual 408, 3) := by decide +kernel
theorem dX11_acts_118 : decode cX11_acts 118 = .ok (.lstore 13, 2) := by decide +kernel
theorem dX11_acts_120 : decode cX11_acts 120 = .ok (.iload 6, 2) := by decide +kernel
theorem dX11_acts_122 : decode cX11_acts 122 = .ok (.ifCond .ne 58, 3) := by decide +kernel
theorem dX11_acts_125 : decode cX11_acts 125 = .ok (.iload 11, 2) := by decide +kernel
theorem dX11_acts_127 : decode cX11_acts 127 = .ok (.ifCond .eq 19, 3) := by decide +kernel
theorem dX11_acts_130 : decode cX11_acts 130 = .ok (.lload 13, 2) := by decide +kernel
theorem dX11_acts_132 : decode cX11_acts 132 = .ok (.aload_n 0, 1) := by decide +kernel
theorem dX11_acts_133 : decode cX11_acts 133 = .ok (.getfield 89, 3) := by decide +kernel
theorem dX11_acts_136 : decode cX11_acts 136 = .ok (.iload 10, 2) := by decide +kernel
theorem dX11_acts_138 : decode cX11_acts 138 = .ok (.laload, 1) := by decide +kernel
theorem dX11_acts_139 : decode cX11_acts 139 = .ok (.lcmp, 1) := by decide +kernel
theorem dX11_acts_140 : decode cX11_acts 140 = .ok (.ifCond .gt 6, 3) := by decide +kernel
theorem dX11_acts_143 : decode cX11_acts 143 = .ok (.goto 37, 3) := by decide +kernel
theorem dX11_acts_146 : decode cX11_acts 146 = .ok (.iconst 1, 1) := by decide +kernel
theorem dX11_acts_147 : decode cX11_acts 147 = .ok (.istore 11, 2) := by decide +kernel
theorem dX11_acts_149 : decode cX11_acts 149 = .ok (.aload_n 0, 1) := by decide +kernel
theorem dX11_acts_150 : decode cX11_acts 150 = .ok (.getfield 89, 3) := by decide +kernel
theorem dX11_acts_153 : decode cX11_acts 153 = .ok (.iload 10, 2) := by decide +kernel
theorem dX11_acts_155 : decode cX11_acts 155 = .ok (.lload 13, 2) := by decide +kernel
theorem dX11_acts_157 : decode cX11_acts 157 = .ok (.lastore, 1) := by decide +kernel
theorem dX11_acts_158 : decode cX11_acts 158 = .ok (.aload_n 0, 1) := by decide +kernel
theorem dX11_acts_159 : decode cX11_acts 159 = .ok (.getfield 92, 3) := by decide +kernel
theorem dX11_acts_162 : decode cX11_acts 162 = .ok (.iload 10, 2) := by decide +kernel
theorem dX11_acts_164 : decode cX11_acts 164 = .ok (.iload 8, 2) := by decide +kernel
theorem dX11_acts_166 : decode cX11_acts 166 = .ok (.invokestatic 393, 3) := by decide +kernel
theorem dX11_acts_169 : decode cX11_acts 169 = .ok (.ifCond .eq 8, 3) := by decide +kernel
theorem dX11_acts_172 : decode cX11_acts 172 = .ok (.iload 12, 2) := by decide +kernel
theorem dX11_acts_174 : decode cX11_acts 174 = .ok (.goto 4, 3) := by decide +kernel
theorem dX11_acts_177 : decode cX11_acts 177 = .ok (.iconst (-1), 1) := by decide +kernel
theorem dX11_acts_178 : decode cX11_acts 178 = .ok (.i2b, 1) := by decide +kernel
theorem dX11_acts_179 : decode cX11_acts 179 = .ok (.bastore, 1) := by decide +kernel
theorem dX11_acts_180 : decode cX11_acts 180 = .ok (.iinc 12 1, 3) := by decide +kernel
theorem dX11_acts_183 : decode cX11_acts 183 = .ok (.goto (-143), 3) := by decide +kernel
theorem dX11_acts_186 : decode cX11_acts 186 = .ok (.return_, 1) := by decide +kernel
theorem dX11_bestOf_0 : decode cX11_bestOf 0 = .ok (.iload_n 3, 1) := by decide +kernel
theorem dX11_bestOf_1 : decode cX11_bestOf 1 = .ok (.ifCond .ne 5, 3) := by decide +kernel
theorem dX11_bestOf_4 : decode cX11_bestOf 4 = .ok (.lconst 1, 1) := by decide +kernel
theorem dX11_bestOf_5 : decode cX11_bestOf 5 = .ok (.lreturn, 1) := by decide +kernel
theorem dX11_bestOf_6 : decode cX11_bestOf 6 = .ok (.iconst 0, 1) := by decide +kernel
theorem dX11_bestOf_7 : decode cX11_bestOf 7 = .ok (.istore 8, 2) := by decide +kernel
theorem dX11_bestOf_9 : decode cX11_bestOf 9 = .ok (.iload 8, 2) := by decide +kernel
theorem dX11_bestOf_11 : decode cX11_bestOf 11 = .ok (.sipush 25200, 3) := by decide +kernel
theorem dX11_bestOf_14 : decode cX11_bestOf 14 = .ok (.iload_n 3, 1) := by decide +kernel
theorem dX11_bestOf_15 : decode cX11_bestOf 15 = .ok (.iconst 1, 1) := by decide +kernel
theorem dX11_bestOf_16 : decode cX11_bestOf 16 = .ok (.iadd, 1) := by decide +kernel
theorem dX11_bestOf_17 : decode cX11_bestOf 17 = .ok (.imul, 1) := by decide +kernel
theorem dX11_bestOf_18 : decode cX11_bestOf 18 = .ok (.if_icmp .ge 17, 3) := by decide +kernel
theorem dX11_bestOf_21 : decode cX11_bestOf 21 = .ok (.aload_n 0, 1) := by decide +kernel
theorem dX11_bestOf_22 : decode cX11_bestOf 22 = .ok (.getfield 85, 3) := by decide +kernel
theorem dX11_bestOf_25 : decode cX11_bestOf 25 = .ok (.iload 8, 2) := by decide +kernel
theorem dX11_bestOf_27 : decode cX11_bestOf 27 = .ok (.iconst 0, 1) := by decide +kernel
theorem dX11_bestOf_28 : decode cX11_bestOf 28 = .ok (.bastore, 1) := by decide +kernel
theorem dX11_bestOf_29 : decode cX11_bestOf 29 = .ok (.iinc 8 1, 3) := by decide +kernel
theorem dX11_bestOf_32 : decode cX11_bestOf 32 = .ok (.goto (-23), 3) := by decide +kernel
theorem dX11_bestOf_35 : decode cX11_bestOf 35 = .ok (.aload_n 0, 1) := by decide +kernel
theorem dX11_bestOf_36 : decode cX11_bestOf 36 = .ok (.getfield 85, 3) := by decide +kernel
theorem dX11_bestOf_39 : decode cX11_bestOf 39 = .ok (.iload_n 3, 1) := by decide +kernel
theorem dX11_bestOf_40 : decode cX11_bestOf 40 = .ok (.iload 4, 2) := by decide +kernel
theorem dX11_bestOf_42 : decode cX11_bestOf 42 = .ok (.iload 5, 2) := by decide +kernel
theorem dX11_bestOf_44 : decode cX11_bestOf 44 = .ok (.iload 6, 2) := by decide +kernel
theorem dX11_bestOf_46 : decode cX11_bestOf 46 = .ok (.invokestatic 389, 3) := by decide +kernel
theorem dX11_bestOf_49 : decode cX11_bestOf 49 = .ok (.iconst 1, 1) := by decide +kernel
theorem dX11_bestOf_50 : decode cX11_bestOf 50 = .ok (.bastore, 1) := by decide +kernel
theorem dX11_bestOf_51 : decode cX11_bestOf 51 = .ok (.iload_n 3, 1) := by decide +kernel
theorem dX11_bestOf_52 : decode cX11_bestOf 52 = .ok (.istore 8, 2) := by decide +kernel
theorem dX11_bestOf_54 : decode cX11_bestOf 54 = .ok (.iload 8, 2) := by decide +kernel
theorem dX11_bestOf_56 : decode cX11_bestOf 56 = .ok (.iconst 1, 1) := by decide +kernel
theorem dX11_bestOf_57 : decode cX11_bestOf 57 = .ok (.if_icmp .le 56, 3) := by decide +kernel
theorem dX11_bestOf_60 : decode cX11_bestOf 60 = .ok (.iconst 0, 1) := by decide +kernel
theorem dX11_bestOf_61 : decode cX11_bestOf 61 = .ok (.istore 9, 2) := by decide +kernel
theorem dX11_bestOf_63 : decode cX11_bestOf 63 = .ok (.iload 9, 2) := by decide +kernel
theorem dX11_bestOf_65 : decode cX11_bestOf 65 = .ok (.sipush 25200, 3) := by decide +kernel
theorem dX11_bestOf_68 : decode cX11_bestOf 68 = .ok (.if_icmp .ge 39, 3) := by decide +kernel
theorem dX11_bestOf_71 : decode cX11_bestOf 71 = .ok (.aload_n 0, 1) := by decide +kernel
theorem dX11_bestOf_72 : decode cX11_bestOf 72 = .ok (.getfield 85, 3) := by decide +kernel
theorem dX11_bestOf_75 : decode cX11_bestOf 75 = .ok (.sipush 25200, 3) := by decide +kernel
theorem dX11_bestOf_78 : decode cX11_bestOf 78 = .ok (.iload 8, 2) := by decide +kernel
theorem dX11_bestOf_80 : decode cX11_bestOf 80 = .ok (.imul, 1) := by decide +kernel
theorem dX11_bestOf_81 : decode cX11_bestOf 81 = .ok (.iload 9, 2) := by decide +kernel
theorem dX11_bestOf_83 : decode cX11_bestOf 83 = .ok (.iadd, 1) := by decide +kernel
theorem dX11_bestOf_84 : decode cX11_bestOf 84 = .ok (.baload, 1) := by decide +kernel
theorem dX11_bestOf_85 : decode cX11_bestOf 85 = .ok (.ifCond .eq 16, 3) := by decide +kernel
theorem dX11_bestOf_88 : decode cX11_bestOf 88 = .ok (.aload_n 0, 1) := by decide +kernel
theorem dX11_bestOf_89 : decode cX11_bestOf 89 = .ok (.iload_n 1, 1) := by decide +kernel
theorem dX11_bestOf_90 : decode cX11_bestOf 90 = .ok (.iload_n 2, 1) := by decide +kernel
theorem dX11_bestOf_91 : decode cX11_bestOf 91 = .ok (.iload 8, 2) := by decide +kernel
theorem dX11_bestOf_93 : decode cX11_bestOf 93 = .ok (.iload 9, 2) := by decide +kernel
theorem dX11_bestOf_95 : decode cX11_bestOf 95 = .ok (.iload 7, 2) := by decide +kernel
theorem dX11_bestOf_97 : decode cX11_bestOf 97 = .ok (.iconst 1, 1) := by decide +kernel
theorem dX11_bestOf_98 : decode cX11_bestOf 98 = .ok (.invokevirtual 412, 3) := by decide +kernel
theorem dX11_bestOf_101 : decode cX11_bestOf 101 = .ok (.iinc 9 1, 3) := by decide +kernel
theorem dX11_bestOf_104 : decode cX11_bestOf 104 = .ok (.goto (-41), 3) := by decide +kernel
theorem dX11_bestOf_107 : decode cX11_bestOf 107 = .ok (.iinc 8 (-1), 3) := by decide +kernel
theorem dX11_bestOf_110 : decode cX11_bestOf 110 = .ok (.goto (-56), 3) := by decide +kernel
theorem dX11_bestOf_113 : decode cX11_bestOf 113 = .ok (.iconst 1, 1) := by decide +kernel
theorem dX11_bestOf_114 : decode cX11_bestOf 114 = .ok (.istore 8, 2) := by decide +kernel
theorem dX11_bestOf_116 : decode cX11_bestOf 116 = .ok (.iload 8, 2) := by decide +kernel
theorem dX11_bestOf_118 : decode cX11_bestOf 118 = .ok (.iload_n 3, 1) := by decide +kernel
theorem dX11_bestOf_119 : decode cX11_bestOf 119 = .ok (.if_icmp .gt 56, 3) := by decide +kernel
theorem dX11_bestOf_122 : decode cX11_bestOf 122 = .ok (.iconst 0, 1) := by decide +kernel
theorem dX11_bestOf_123 : decode cX11_bestOf 123 = .ok (.istore 9, 2) := by decide +kernel
theorem dX11_bestOf_125 : decode cX11_bestOf 125 = .ok (.iload 9, 2) := by decide +kernel
theorem dX11_bestOf_127 : decode cX11_bestOf 127 = .ok (.sipush 25200, 3) := by decide +kernel
theorem dX11_bestOf_130 : decode cX11_bestOf 130 = .ok (.if_icmp .ge 39, 3) := by decide +kernel
theorem dX11_bestOf_133 : decode cX11_bestOf 133 = .ok (.aload_n 0, 1) := by decide +kernel
theorem dX11_bestOf_134 : decode cX11_bestOf 134 = .ok (.getfield 85, 3) := by decide +kernel
theorem dX11_bestOf_137 : decode cX11_bestOf 137 = .ok (.sipush 25200, 3) := by decide +kernel
theorem dX11_bestOf_140 : decode cX11_bestOf 140 = .ok (.iload 8, 2) := by decide +kernel
theorem dX11_bestOf_142 : decode cX11_bestOf 142 = .ok (.imul, 1) := by decide +kernel
theorem dX11_bestOf_143 : decode cX11_bestOf 143 = .ok (.iload 9, 2) := by decide +kernel
theorem dX11_bestOf_145 : decode cX11_bestOf 145 = .ok (.iadd, 1) := by decide +kernel
theorem dX11_bestOf_146 : decode cX11_bestOf 146 = .ok (.baload, 1) := by decide +kernel
theorem dX11_bestOf_147 : decode cX11_bestOf 147 = .ok (.ifCond .eq 16, 3) := by decide +kernel
theorem dX11_bestOf_150 : decode cX11_bestOf 150 = .ok (.aload_n 0, 1) := by decide +kernel
theorem dX11_bestOf_151 : decode cX11_bestOf 151 = .ok (.iload_n 1, 1) := by decide +kernel
theorem dX11_bestOf_152 : decode cX11_bestOf 152 = .ok (.iload_n 2, 1) := by decide +kernel
theorem dX11_bestOf_153 : decode cX11_bestOf 153 = .ok (.iload 8, 2) := by decide +kernel
theorem dX11_bestOf_155 : decode cX11_bestOf 155 = .ok (.iload 9, 2) := by decide +kernel
theorem dX11_bestOf_157 : decode cX11_bestOf 157 = .ok (.iload 7, 2) := by decide +kernel
theorem dX11_bestOf_159 : decode cX11_bestOf 159 = .ok (.iconst 0, 1) := by decide +kernel
theorem dX11_bestOf_160 : decode cX11_bestOf 160 = .ok (.invokevirtual 412, 3) := by decide +kernel
theorem dX11_bestOf_163 : decode cX11_bestOf 163 = .ok (.iinc 9 1, 3) := by decide +kernel
theorem dX11_bestOf_166 : decode cX11_bestOf 166 = .ok (.goto (-41), 3) := by decide +kernel
theorem dX11_bestOf_169 : decode cX11_bestOf 169 = .ok (.iinc 8 1, 3) := by decide +kernel
theorem dX11_bestOf_172 : decode cX11_bestOf 172 = .ok (.goto (-56), 3) := by decide +kernel
theorem dX11_bestOf_175 : decode cX11_bestOf 175 = .ok (.aload_n 0, 1) := by decide +kernel
theorem dX11_bestOf_176 : decode cX11_bestOf 176 = .ok (.getfield 89, 3) := by decide +kernel
theorem dX11_bestOf_179 : decode cX11_bestOf 179 = .ok (.iload_n 3, 1) := by decide +kernel
theorem dX11_bestOf_180 : decode cX11_bestOf 180 = .ok (.iload 4, 2) := by decide +kernel
theorem dX11_bestOf_182 : decode cX11_bestOf 182 = .ok (.iload 5, 2) := by decide +kernel
theorem dX11_bestOf_184 : decode cX11_bestOf 184 = .ok (.iload 6, 2) := by decide +kernel
theorem dX11_bestOf_186 : decode cX11_bestOf 186 = .ok (.invokestatic 389, 3) := by decide +kernel
theorem dX11_bestOf_189 : decode cX11_bestOf 189 = .ok (.laload, 1) := by decide +kernel
theorem dX11_bestOf_190 : decode cX11_bestOf 190 = .ok (.lreturn, 1) := by decide +kernel
theorem dX11_best_0 : decode cX11_best 0 = .ok (.aload_n 0, 1) := by decide +kernel
theorem dX11_best_1 : decode cX11_best 1 = .ok (.iload_n 1, 1) := by decide +kernel
theorem dX11_best_2 : decode cX11_best 2 = .ok (.iload_n 2, 1) := by decide +kernel
theorem dX11_best_3 : decode cX11_best 3 = .ok (.invokevirtual 323, 3) := by decide +kernel
theorem dX11_best_6 : decode cX11_best 6 = .ok (.ifCond .eq 33, 3) := by decide +kernel
theorem dX11_best_9 : decode cX11_best 9 = .ok (.iload_n 3, 1) := by decide +kernel
theorem dX11_best_10 : decode cX11_best 10 = .ok (.iconst 0, 1) := by decide +kernel
theorem dX11_best_11 : decode cX11_best 11 = .ok (.bipush 10, 2) := by decide +kernel
theorem dX11_best_13 : decode cX11_best 13 = .ok (.invokestatic 148, 3) := by decide +kernel
theorem dX11_best_16 : decode cX11_best 16 = .ok (.ifCond .eq 23, 3) := by decide +kernel
theorem dX11_best_19 : decode cX11_best 19 = .ok (.iload 6, 2) := by decide +kernel
theorem dX11_best_21 : decode cX11_best 21 = .ok (.iconst 0, 1) := by decide +kernel
theorem dX11_best_22 : decode cX11_best 22 = .ok (.iconst 2, 1) := by decide +kernel
theorem dX11_best_23 : decode cX11_best 23 = .ok (.invokestatic 148, 3) := by decide +kernel
theorem dX11_best_26 : decode cX11_best 26 = .ok (.ifCond .eq 13, 3) := by decide +kernel
theorem dX11_best_29 : decode cX11_best 29 = .ok (.iload 7, 2) := by decide +kernel
theorem dX11_best_31 : decode cX11_best 31 = .ok (.iconst 0, 1) := by decide +kernel
theorem dX11_best_32 : decode cX11_best 32 = .ok (.iconst 1, 1) := by decide +kernel
theorem dX11_best_33 : decode cX11_best 33 = .ok (.invokestatic 148, 3) := by decide +kernel
theorem dX11_best_36 : decode cX11_best 36 = .ok (.ifCond .ne 7, 3) := by decide +kernel
theorem dX11_best_39 : decode cX11_best 39 = .ok (.ldc2_w 308, 3) := by decide +kernel
theorem dX11_best_42 : decode cX11_best 42 = .ok (.lreturn, 1) := by decide +kernel
theorem dX11_best_43 : decode cX11_best 43 = .ok (.aload_n 0, 1) := by decide +kernel
theorem dX11_best_44 : decode cX11_best 44 = .ok (.iload 4, 2) := by decide +kernel
theorem dX11_best_46 : decode cX11_best 46 = .ok (.invokevirtual 416, 3) := by decide +kernel
theorem dX11_best_49 : decode cX11_best 49 = .ok (.istore 8, 2) := by decide +kernel
theorem dX11_best_51 : decode cX11_best 51 = .ok (.aload_n 0, 1) := by decide +kernel
theorem dX11_best_52 : decode cX11_best 52 = .ok (.iload 5, 2) := by decide +kernel
theorem dX11_best_54 : decode cX11_best 54 = .ok (.invokevirtual 419, 3) := by decide +kernel
theorem dX11_best_57 : decode cX11_best 57 = .ok (.istore 9, 2) := by decide +kernel
theorem dX11_best_59 : decode cX11_best 59 = .ok (.iload 8, 2) := by decide +kernel
theorem dX11_best_61 : decode cX11_best 61 = .ok (.iconst (-1), 1) := by decide +kernel
theorem dX11_best_62 : decode cX11_best 62 = .ok (.if_icmp .eq 9, 3) := by decide +kernel
theorem dX11_best_65 : decode cX11_best 65 = .ok (.iload 9, 2) := by decide +kernel
theorem dX11_best_67 : decode cX11_best 67 = .ok (.iconst (-1), 1) := by decide +kernel
theorem dX11_best_68 : decode cX11_best 68 = .ok (.if_icmp .ne 7, 3) := by decide +kernel
theorem dX11_best_71 : decode cX11_best 71 = .ok (.ldc2_w 308, 3) := by decide +kernel
theorem dX11_best_74 : decode cX11_best 74 = .ok (.lreturn, 1) := by decide +kernel
theorem dX11_best_75 : decode cX11_best 75 = .ok (.aload_n 0, 1) := by decide +kernel
theorem dX11_best_76 : decode cX11_best 76 = .ok (.iload_n 1, 1) := by decide +kernel
theorem dX11_best_77 : decode cX11_best 77 = .ok (.iload_n 2, 1) := by decide +kernel
theorem dX11_best_78 : decode cX11_best 78 = .ok (.iload_n 3, 1) := by decide +kernel
theorem dX11_best_79 : decode cX11_best 79 = .ok (.iload 8, 2) := by decide +kernel
theorem dX11_best_81 : decode cX11_best 81 = .ok (.iload 9, 2) := by decide +kernel
theorem dX11_best_83 : decode cX11_best 83 = .ok (.iload 6, 2) := by decide +kernel
theorem dX11_best_85 : decode cX11_best 85 = .ok (.iconst 0, 1) := by decide +kernel
theorem dX11_best_86 : decode cX11_best 86 = .ok (.invokevirtual 422, 3) := by decide +kernel
theorem dX11_best_89 : decode cX11_best 89 = .ok (.lstore 10, 2) := by decide +kernel
theorem dX11_best_91 : decode cX11_best 91 = .ok (.iload 7, 2) := by decide +kernel
theorem dX11_best_93 : decode cX11_best 93 = .ok (.ifCond .ne 8, 3) := by decide +kernel
theorem dX11_best_96 : decode cX11_best 96 = .ok (.lload 10, 2) := by decide +kernel
theorem dX11_best_98 : decode cX11_best 98 = .ok (.goto 29, 3) := by decide +kernel
theorem dX11_best_101 : decode cX11_best 101 = .ok (.iload_n 3, 1) := by decide +kernel
theorem dX11_best_102 : decode cX11_best 102 = .ok (.ifCond .ne 9, 3) := by decide +kernel
theorem dX11_best_105 : decode cX11_best 105 = .ok (.ldc2_w 308, 3) := by decide +kernel
theorem dX11_best_108 : decode cX11_best 108 = .ok (.goto 19, 3) := by decide +kernel
theorem dX11_best_111 : decode cX11_best 111 = .ok (.aload_n 0, 1) := by decide +kernel
theorem dX11_best_112 : decode cX11_best 112 = .ok (.getfield 92, 3) := by decide +kernel
theorem dX11_best_115 : decode cX11_best 115 = .ok (.iload_n 3, 1) := by decide +kernel
theorem dX11_best_116 : decode cX11_best 116 = .ok (.iload 8, 2) := by decide +kernel
theorem dX11_best_118 : decode cX11_best 118 = .ok (.iload 9, 2) := by decide +kernel
theorem dX11_best_120 : decode cX11_best 120 = .ok (.iload 6, 2) := by decide +kernel
theorem dX11_best_122 : decode cX11_best 122 = .ok (.invokestatic 389, 3) := by decide +kernel
theorem dX11_best_125 : decode cX11_best 125 = .ok (.baload, 1) := by decide +kernel
theorem dX11_best_126 : decode cX11_best 126 = .ok (.i2l, 1) := by decide +kernel
theorem dX11_best_127 : decode cX11_best 127 = .ok (.lreturn, 1) := by decide +kernel
theorem dX11_without_0 : decode cX11_without 0 = .ok (.aload_n 0, 1) := by decide +kernel
theorem dX11_without_1 : decode cX11_without 1 = .ok (.iload_n 1, 1) := by decide +kernel
theorem dX11_without_2 : decode cX11_without 2 = .ok (.iload_n 2, 1) := by decide +kernel
theorem dX11_without_3 : decode cX11_without 3 = .ok (.invokevirtual 323, 3) := by decide +kernel
theorem dX11_without_6 : decode cX11_without 6 = .ok (.ifCond .eq 13, 3) := by decide +kernel
theorem dX11_without_9 : decode cX11_without 9 = .ok (.iload_n 3, 1) := by decide +kernel
theorem dX11_without_10 : decode cX11_without 10 = .ok (.iconst 1, 1) := by decide +kernel
theorem dX11_without_11 : decode cX11_without 11 = .ok (.bipush 7, 2) := by decide +kernel
theorem dX11_without_13 : decode cX11_without 13 = .ok (.invokestatic 148, 3) := by decide +kernel
theorem dX11_without_16 : decode cX11_without 16 = .ok (.ifCond .ne 5, 3) := by decide +kernel
theorem dX11_without_19 : decode cX11_without 19 = .ok (.lconst 1, 1) := by decide +kernel
theorem dX11_without_20 : decode cX11_without 20 = .ok (.lreturn, 1) := by decide +kernel
theorem dX11_without_21 : decode cX11_without 21 = .ok (.aload_n 0, 1) := by decide +kernel
theorem dX11_without_22 : decode cX11_without 22 = .ok (.iload_n 1, 1) := by decide +kernel
theorem dX11_without_23 : decode cX11_without 23 = .ok (.iload_n 2, 1) := by decide +kernel
theorem dX11_without_24 : decode cX11_without 24 = .ok (.bipush 10, 2) := by decide +kernel
theorem dX11_without_26 : decode cX11_without 26 = .ok (.iconst 0, 1) := by decide +kernel
theorem dX11_without_27 : decode cX11_without 27 = .ok (.iconst 0, 1) := by decide +kernel
theorem dX11_without_28 : decode cX11_without 28 = .ok (.iconst 0, 1) := by decide +kernel
theorem dX11_without_29 : decode cX11_without 29 = .ok (.iload_n 3, 1) := by decide +kernel
theorem dX11_without_30 : decode cX11_without 30 = .ok (.invokevirtual 422, 3) := by decide +kernel
theorem dX11_without_33 : decode cX11_without 33 = .ok (.lstore 4, 2) := by decide +kernel
theorem dX11_without_35 : decode cX11_without 35 = .ok (.lload 4, 2) := by decide +kernel
theorem dX11_without_37 : decode cX11_without 37 = .ok (.aload_n 0, 1) := by decide +kernel
theorem dX11_without_38 : decode cX11_without 38 = .ok (.iload_n 1, 1) := by decide +kernel
theorem dX11_without_39 : decode cX11_without 39 = .ok (.iload_n 2, 1) := by decide +kernel
theorem dX11_without_40 : decode cX11_without 40 = .ok (.bipush 10, 2) := by decide +kernel
theorem dX11_without_42 : decode cX11_without 42 = .ok (.iconst 0, 1) := by decide +kernel
theorem dX11_without_43 : decode cX11_without 43 = .ok (.iconst 0, 1) := by decide +kernel
theorem dX11_without_44 : decode cX11_without 44 = .ok (.iconst 0, 1) := by decide +kernel
theorem dX11_without_45 : decode cX11_without 45 = .ok (.iconst 0, 1) := by decide +kernel
theorem dX11_without_46 : decode cX11_without 46 = .ok (.invokevirtual 422, 3) := by decide +kernel
theorem dX11_without_49 : decode cX11_without 49 = .ok (.lsub, 1) := by decide +kernel
theorem dX11_without_50 : decode cX11_without 50 = .ok (.lreturn, 1) := by decide +kernel
theorem dX11_waits_0 : decode cX11_waits 0 = .ok (.aload_n 0, 1) := by decide +kernel
theorem dX11_waits_1 : decode cX11_waits 1 = .ok (.iload_n 1, 1) := by decide +kernel
theorem dX11_waits_2 : decode cX11_waits 2 = .ok (.iload_n 2, 1) := by decide +kernel
theorem dX11_waits_3 : decode cX11_waits 3 = .ok (.invokevirtual 323, 3) := by decide +kernel
theorem dX11_waits_6 : decode cX11_waits 6 = .ok (.ifCond .eq 32, 3) := by decide +kernel
theorem dX11_waits_9 : decode cX11_waits 9 = .ok (.aload_n 0, 1) := by decide +kernel
theorem dX11_waits_10 : decode cX11_waits 10 = .ok (.iload_n 3, 1) := by decide +kernel
theorem dX11_waits_11 : decode cX11_waits 11 = .ok (.invokevirtual 166, 3) := by decide +kernel
theorem dX11_waits_14 : decode cX11_waits 14 = .ok (.ifCond .eq 24, 3) := by decide +kernel
theorem dX11_waits_17 : decode cX11_waits 17 = .ok (.iload 4, 2) := by decide +kernel
theorem dX11_waits_19 : decode cX11_waits 19 = .ok (.iconst 1, 1) := by decide +kernel
theorem dX11_waits_20 : decode cX11_waits 20 = .ok (.bipush 10, 2) := by decide +kernel
theorem dX11_waits_22 : decode cX11_waits 22 = .ok (.invokestatic 148, 3) := by decide +kernel
theorem dX11_waits_25 : decode cX11_waits 25 = .ok (.ifCond .eq 13, 3) := by decide +kernel
theorem dX11_waits_28 : decode cX11_waits 28 = .ok (.iload 5, 2) := by decide +kernel
theorem dX11_waits_30 : decode cX11_waits 30 = .ok (.iconst 0, 1) := by decide +kernel
theorem dX11_waits_31 : decode cX11_waits 31 = .ok (.iconst 5, 1) := by decide +kernel
theorem dX11_waits_32 : decode cX11_waits 32 = .ok (.invokestatic 148, 3) := by decide +kernel
theorem dX11_waits_35 : decode cX11_waits 35 = .ok (.ifCond .ne 5, 3) := by decide +kernel
theorem dX11_waits_38 : decode cX11_waits 38 = .ok (.iconst (-1), 1) := by decide +kernel
theorem dX11_waits_39 : decode cX11_waits 39 = .ok (.ireturn, 1) := by decide +kernel
theorem dX11_waits_40 : decode cX11_waits 40 = .ok (.bipush 21, 2) := by decide +kernel
theorem dX11_waits_42 : decode cX11_waits 42 = .ok (.iload_n 3, 1) := by decide +kernel
theorem dX11_waits_43 : decode cX11_waits 43 = .ok (.imul, 1) := by decide +kernel
theorem dX11_waits_44 : decode cX11_waits 44 = .ok (.bipush 6, 2) := by decide +kernel
theorem dX11_waits_46 : decode cX11_waits 46 = .ok (.iadd, 1) := by decide +kernel
theorem dX11_waits_47 : decode cX11_waits 47 = .ok (.istore 6, 2) := by decide +kernel
theorem dX11_waits_49 : decode cX11_waits 49 = .ok (.iconst 0, 1) := by decide +kernel
theorem dX11_waits_50 : decode cX11_waits 50 = .ok (.istore 7, 2) := by decide +kernel
theorem dX11_waits_52 : decode cX11_waits 52 = .ok (.iload 5, 2) := by decide +kernel
theorem dX11_waits_54 : decode cX11_waits 54 = .ok (.istore 8, 2) := by decide +kernel
theorem dX11_waits_56 : decode cX11_waits 56 = .ok (.iload 7, 2) := by decide +kernel
theorem dX11_waits_58 : decode cX11_waits 58 = .ok (.iload 4, 2) := by decide +kernel
theorem dX11_waits_60 : decode cX11_waits 60 = .ok (.if_icmp .ge 72, 3) := by decide +kernel
theorem dX11_waits_63 : decode cX11_waits 63 = .ok (.aload_n 0, 1) := by decide +kernel
theorem dX11_waits_64 : decode cX11_waits 64 = .ok (.iload_n 1, 1) := by decide +kernel
theorem dX11_waits_65 : decode cX11_waits 65 = .ok (.iload_n 2, 1) := by decide +kernel
theorem dX11_waits_66 : decode cX11_waits 66 = .ok (.iload 4, 2) := by decide +kernel
theorem dX11_waits_68 : decode cX11_waits 68 = .ok (.iload 7, 2) := by decide +kernel
theorem dX11_waits_70 : decode cX11_waits 70 = .ok (.isub, 1) := by decide +kernel
theorem dX11_waits_71 : decode cX11_waits 71 = .ok (.iload 6, 2) := by decide +kernel
theorem dX11_waits_73 : decode cX11_waits 73 = .ok (.bipush 16, 2) := by decide +kernel
theorem dX11_waits_75 : decode cX11_waits 75 = .ok (.iload_n 3, 1) := by decide +kernel
theorem dX11_waits_76 : decode cX11_waits 76 = .ok (.imul, 1) := by decide +kernel
theorem dX11_waits_77 : decode cX11_waits 77 = .ok (.iload 8, 2) := by decide +kernel
theorem dX11_waits_79 : decode cX11_waits 79 = .ok (.iadd, 1) := by decide +kernel
theorem dX11_waits_80 : decode cX11_waits 80 = .ok (.iconst 0, 1) := by decide +kernel
theorem dX11_waits_81 : decode cX11_waits 81 = .ok (.iconst 0, 1) := by decide +kernel
theorem dX11_waits_82 : decode cX11_waits 82 = .ok (.invokevirtual 422, 3) := by decide +kernel
theorem dX11_waits_85 : decode cX11_waits 85 = .ok (.pop2, 1) := by decide +kernel
theorem dX11_waits_86 : decode cX11_waits 86 = .ok (.aload_n 0, 1) := by decide +kernel
theorem dX11_waits_87 : decode cX11_waits 87 = .ok (.getfield 92, 3) := by decide +kernel
theorem dX11_waits_90 : decode cX11_waits 90 = .ok (.iload 4, 2) := by decide +kernel
theorem dX11_waits_92 : decode cX11_waits 92 = .ok (.iload 7, 2) := by decide +kernel
theorem dX11_waits_94 : decode cX11_waits 94 = .ok (.isub, 1) := by decide +kernel
theorem dX11_waits_95 : decode cX11_waits 95 = .ok (.iload 6, 2) := by decide +kernel
theorem dX11_waits_97 : decode cX11_waits 97 = .ok (.bipush 16, 2) := by decide +kernel
theorem dX11_waits_99 : decode cX11_waits 99 = .ok (.iload_n 3, 1) := by decide +kernel
theorem dX11_waits_100 : decode cX11_waits 100 = .ok (.imul, 1) := by decide +kernel
theorem dX11_waits_101 : decode cX11_waits 101 = .ok (.iload 8, 2) := by decide +kernel
theorem dX11_waits_103 : decode cX11_waits 103 = .ok (.iadd, 1) := by decide +kernel
theorem dX11_waits_104 : decode cX11_waits 104 = .ok (.iconst 0, 1) := by decide +kernel
theorem dX11_waits_105 : decode cX11_waits 105 = .ok (.invokestatic 389, 3) := by decide +kernel
theorem dX11_waits_108 : decode cX11_waits 108 = .ok (.baload, 1) := by decide +kernel
theorem dX11_waits_109 : decode cX11_waits 109 = .ok (.iconst 2, 1) := by decide +kernel
theorem dX11_waits_110 : decode cX11_waits 110 = .ok (.if_icmp .eq 6, 3) := by decide +kernel
theorem dX11_waits_113 : decode cX11_waits 113 = .ok (.iload 7, 2) := by decide +kernel
theorem dX11_waits_115 : decode cX11_waits 115 = .ok (.ireturn, 1) := by decide +kernel
theorem dX11_waits_116 : decode cX11_waits 116 = .ok (.iload 7, 2) := by decide +kernel
theorem dX11_waits_118 : decode cX11_waits 118 = .ok (.iconst 1, 1) := by decide +kernel
theorem dX11_waits_119 : decode cX11_waits 119 = .ok (.iadd, 1) := by decide +kernel
theorem dX11_waits_120 : decode cX11_waits 120 = .ok (.istore 7, 2) := by decide +kernel
theorem dX11_waits_122 : decode cX11_waits 122 = .ok (.iload 8, 2) := by decide +kernel
theorem dX11_waits_124 : decode cX11_waits 124 = .ok (.invokestatic 297, 3) := by decide +kernel
theorem dX11_waits_127 : decode cX11_waits 127 = .ok (.istore 8, 2) := by decide +kernel
theorem dX11_waits_129 : decode cX11_waits 129 = .ok (.goto (-73), 3) := by decide +kernel
theorem dX11_waits_132 : decode cX11_waits 132 = .ok (.iload 7, 2) := by decide +kernel
theorem dX11_waits_134 : decode cX11_waits 134 = .ok (.ireturn, 1) := by decide +kernel
theorem dX11_order_0 : decode cX11_order 0 = .ok (.aload_n 0, 1) := by decide +kernel
theorem dX11_order_1 : decode cX11_order 1 = .ok (.getfield 141, 3) := by decide +kernel
theorem dX11_order_4 : decode cX11_order 4 = .ok (.ifCond .eq 22, 3) := by decide +kernel
theorem dX11_order_7 : decode cX11_order 7 = .ok (.aload_n 0, 1) := by decide +kernel
theorem dX11_order_8 : decode cX11_order 8 = .ok (.getfield 152, 3) := by decide +kernel
theorem dX11_order_11 : decode cX11_order 11 = .ok (.iconst 5, 1) := by decide +kernel
theorem dX11_order_12 : decode cX11_order 12 = .ok (.if_icmp .eq 14, 3) := by decide +kernel
theorem dX11_order_15 : decode cX11_order 15 = .ok (.aload_n 0, 1) := by decide +kernel
theorem dX11_order_16 : decode cX11_order 16 = .ok (.getfield 172, 3) := by decide +kernel
theorem dX11_order_19 : decode cX11_order 19 = .ok (.aload_n 0, 1) := by decide +kernel
theorem dX11_order_20 : decode cX11_order 20 = .ok (.getfield 141, 3) := by decide +kernel
theorem dX11_order_23 : decode cX11_order 23 = .ok (.if_icmp .ge 5, 3) := by decide +kernel
theorem dX11_order_26 : decode cX11_order 26 = .ok (.iconst (-1), 1) := by decide +kernel
theorem dX11_order_27 : decode cX11_order 27 = .ok (.ireturn, 1) := by decide +kernel
theorem dX11_order_28 : decode cX11_order 28 = .ok (.aload_n 0, 1) := by decide +kernel
theorem dX11_order_29 : decode cX11_order 29 = .ok (.iconst 0, 1) := by decide +kernel
theorem dX11_order_30 : decode cX11_order 30 = .ok (.putfield 172, 3) := by decide +kernel
theorem dX11_order_33 : decode cX11_order 33 = .ok (.iconst 0, 1) := by decide +kernel
theorem dX11_order_34 : decode cX11_order 34 = .ok (.istore_n 1, 1) := by decide +kernel
theorem dX11_order_35 : decode cX11_order 35 = .ok (.iconst 0, 1) := by decide +kernel
theorem dX11_order_36 : decode cX11_order 36 = .ok (.istore_n 2, 1) := by decide +kernel
theorem dX11_order_37 : decode cX11_order 37 = .ok (.iload_n 2, 1) := by decide +kernel
theorem dX11_order_38 : decode cX11_order 38 = .ok (.aload_n 0, 1) := by decide +kernel
theorem dX11_order_39 : decode cX11_order 39 = .ok (.getfield 141, 3) := by decide +kernel
theorem dX11_order_42 : decode cX11_order 42 = .ok (.if_icmp .ge 42, 3) := by decide +kernel
theorem dX11_order_45 : decode cX11_order 45 = .ok (.aload_n 0, 1) := by decide +kernel
theorem dX11_order_46 : decode cX11_order 46 = .ok (.getfield 28, 3) := by decide +kernel
theorem dX11_order_49 : decode cX11_order 49 = .ok (.iload_n 2, 1) := by decide +kernel
theorem dX11_order_50 : decode cX11_order 50 = .ok (.baload, 1) := by decide +kernel
theorem dX11_order_51 : decode cX11_order 51 = .ok (.ifCond .lt 27, 3) := by decide +kernel
theorem dX11_order_54 : decode cX11_order 54 = .ok (.aload_n 0, 1) := by decide +kernel
theorem dX11_order_55 : decode cX11_order 55 = .ok (.getfield 28, 3) := by decide +kernel
theorem dX11_order_58 : decode cX11_order 58 = .ok (.iload_n 2, 1) := by decide +kernel
theorem dX11_order_59 : decode cX11_order 59 = .ok (.baload, 1) := by decide +kernel
theorem dX11_order_60 : decode cX11_order 60 = .ok (.aload_n 0, 1) := by decide +kernel
theorem dX11_order_61 : decode cX11_order 61 = .ok (.getfield 141, 3) := by decide +kernel
theorem dX11_order_64 : decode cX11_order 64 = .ok (.if_icmp .ge 14, 3) := by decide +kernel
theorem dX11_order_67 : decode cX11_order 67 = .ok (.iload_n 1, 1) := by decide +kernel
theorem dX11_order_68 : decode cX11_order 68 = .ok (.iconst 1, 1) := by decide +kernel
theorem dX11_order_69 : decode cX11_order 69 = .ok (.aload_n 0, 1) := by decide +kernel
theorem dX11_order_70 : decode cX11_order 70 = .ok (.getfield 28, 3) := by decide +kernel
theorem dX11_order_73 : decode cX11_order 73 = .ok (.iload_n 2, 1) := by decide +kernel
theorem dX11_order_74 : decode cX11_order 74 = .ok (.baload, 1) := by decide +kernel
theorem dX11_order_75 : decode cX11_order 75 = .ok (.ishl, 1) := by decide +kernel
theorem dX11_order_76 : decode cX11_order 76 = .ok (.ior, 1) := by decide +kernel
theorem dX11_order_77 : decode cX11_order 77 = .ok (.istore_n 1, 1) := by decide +kernel
theorem dX11_order_78 : decode cX11_order 78 = .ok (.iinc 2 1, 3) := by decide +kernel
theorem dX11_order_81 : decode cX11_order 81 = .ok (.goto (-44), 3) := by decide +kernel
theorem dX11_order_84 : decode cX11_order 84 = .ok (.iload_n 1, 1) := by decide +kernel
theorem dX11_order_85 : decode cX11_order 85 = .ok (.iconst 1, 1) := by decide +kernel
theorem dX11_order_86 : decode cX11_order 86 = .ok (.aload_n 0, 1) := by decide +kernel
theorem dX11_order_87 : decode cX11_order 87 = .ok (.getfield 141, 3) := by decide +kernel
theorem dX11_order_90 : decode cX11_order 90 = .ok (.ishl, 1) := by decide +kernel
theorem dX11_order_91 : decode cX11_order 91 = .ok (.iconst 1, 1) := by decide +kernel
theorem dX11_order_92 : decode cX11_order 92 = .ok (.isub, 1) := by decide +kernel
theorem dX11_order_93 : decode cX11_order 93 = .ok (.if_icmp .eq 6, 3) := by decide +kernel
theorem dX11_order_96 : decode cX11_order 96 = .ok (.bipush (-2), 2) := by decide +kernel
theorem dX11_order_98 : decode cX11_order 98 = .ok (.ireturn, 1) := by decide +kernel
theorem dX11_order_99 : decode cX11_order 99 = .ok (.iconst 0, 1) := by decide +kernel
theorem dX11_order_100 : decode cX11_order 100 = .ok (.istore_n 2, 1) := by decide +kernel
theorem dX11_order_101 : decode cX11_order 101 = .ok (.iload_n 2, 1) := by decide +kernel
theorem dX11_order_102 : decode cX11_order 102 = .ok (.aload_n 0, 1) := by decide +kernel
theorem dX11_order_103 : decode cX11_order 103 = .ok (.getfield 141, 3) := by decide +kernel
theorem dX11_order_106 : decode cX11_order 106 = .ok (.if_icmp .ge 28, 3) := by decide +kernel
theorem dX11_order_109 : decode cX11_order 109 = .ok (.aload_n 0, 1) := by decide +kernel
theorem dX11_order_110 : decode cX11_order 110 = .ok (.getfield 107, 3) := by decide +kernel
theorem dX11_order_113 : decode cX11_order 113 = .ok (.iconst 5, 1) := by decide +kernel
theorem dX11_order_114 : decode cX11_order 114 = .ok (.aload_n 0, 1) := by decide +kernel
theorem dX11_order_115 : decode cX11_order 115 = .ok (.getfield 152, 3) := by decide +kernel
theorem dX11_order_118 : decode cX11_order 118 = .ok (.imul, 1) := by decide +kernel
theorem dX11_order_119 : decode cX11_order 119 = .ok (.iload_n 2, 1) := by decide +kernel
theorem dX11_order_120 : decode cX11_order 120 = .ok (.iadd, 1) := by decide +kernel
theorem dX11_order_121 : decode cX11_order 121 = .ok (.aload_n 0, 1) := by decide +kernel
theorem dX11_order_122 : decode cX11_order 122 = .ok (.getfield 28, 3) := by decide +kernel
theorem dX11_order_125 : decode cX11_order 125 = .ok (.iload_n 2, 1) := by decide +kernel
theorem dX11_order_126 : decode cX11_order 126 = .ok (.baload, 1) := by decide +kernel
theorem dX11_order_127 : decode cX11_order 127 = .ok (.iastore, 1) := by decide +kernel
theorem dX11_order_128 : decode cX11_order 128 = .ok (.iinc 2 1, 3) := by decide +kernel
theorem dX11_order_131 : decode cX11_order 131 = .ok (.goto (-30), 3) := by decide +kernel
theorem dX11_order_134 : decode cX11_order 134 = .ok (.aload_n 0, 1) := by decide +kernel
theorem dX11_order_135 : decode cX11_order 135 = .ok (.aload_n 0, 1) := by decide +kernel
theorem dX11_order_136 : decode cX11_order 136 = .ok (.getfield 152, 3) := by decide +kernel
theorem dX11_order_139 : decode cX11_order 139 = .ok (.iconst 1, 1) := by decide +kernel
theorem dX11_order_140 : decode cX11_order 140 = .ok (.iadd, 1) := by decide +kernel
theorem dX11_order_141 : decode cX11_order 141 = .ok (.putfield 152, 3) := by decide +kernel
theorem dX11_order_144 : decode cX11_order 144 = .ok (.aload_n 0, 1) := by decide +kernel
theorem dX11_order_145 : decode cX11_order 145 = .ok (.getfield 152, 3) := by decide +kernel
theorem dX11_order_148 : decode cX11_order 148 = .ok (.iconst 1, 1) := by decide +kernel
theorem dX11_order_149 : decode cX11_order 149 = .ok (.isub, 1) := by decide +kernel
theorem dX11_order_150 : decode cX11_order 150 = .ok (.ireturn, 1) := by decide +kernel
theorem dX11_meetings_0 : decode cX11_meetings 0 = .ok (.iconst 0, 1) := by decide +kernel
theorem dX11_meetings_1 : decode cX11_meetings 1 = .ok (.istore_n 2, 1) := by decide +kernel
theorem dX11_meetings_2 : decode cX11_meetings 2 = .ok (.iconst 0, 1) := by decide +kernel
theorem dX11_meetings_3 : decode cX11_meetings 3 = .ok (.istore_n 3, 1) := by decide +kernel
theorem dX11_meetings_4 : decode cX11_meetings 4 = .ok (.iload_n 3, 1) := by decide +kernel
theorem dX11_meetings_5 : decode cX11_meetings 5 = .ok (.iload_n 1, 1) := by decide +kernel
theorem dX11_meetings_6 : decode cX11_meetings 6 = .ok (.if_icmp .ge 86, 3) := by decide +kernel
theorem dX11_meetings_9 : decode cX11_meetings 9 = .ok (.iconst 0, 1) := by decide +kernel
theorem dX11_meetings_10 : decode cX11_meetings 10 = .ok (.istore 4, 2) := by decide +kernel
theorem dX11_meetings_12 : decode cX11_meetings 12 = .ok (.iload 4, 2) := by decide +kernel
theorem dX11_meetings_14 : decode cX11_meetings 14 = .ok (.iload_n 3, 1) := by decide +kernel
theorem dX11_meetings_15 : decode cX11_meetings 15 = .ok (.if_icmp .ge 71, 3) := by decide +kernel
theorem dX11_meetings_18 : decode cX11_meetings 18 = .ok (.iconst 1, 1) := by decide +kernel
theorem dX11_meetings_19 : decode cX11_meetings 19 = .ok (.istore 5, 2) := by decide +kernel
theorem dX11_meetings_21 : decode cX11_meetings 21 = .ok (.iload 5, 2) := by decide +kernel
theorem dX11_meetings_23 : decode cX11_meetings 23 = .ok (.aload_n 0, 1) := by decide +kernel
theorem dX11_meetings_24 : decode cX11_meetings 24 = .ok (.getfield 141, 3) := by decide +kernel
theorem dX11_meetings_27 : decode cX11_meetings 27 = .ok (.if_icmp .ge 53, 3) := by decide +kernel
theorem dX11_meetings_30 : decode cX11_meetings 30 = .ok (.iload_n 2, 1) := by decide +kernel
theorem dX11_meetings_31 : decode cX11_meetings 31 = .ok (.aload_n 0, 1) := by decide +kernel
theorem dX11_meetings_32 : decode cX11_meetings 32 = .ok (.getfield 107, 3) := by decide +kernel
theorem dX11_meetings_35 : decode cX11_meetings 35 = .ok (.iconst 5, 1) := by decide +kernel
theorem dX11_meetings_36 : decode cX11_meetings 36 = .ok (.aload_n 0, 1) := by decide +kernel
theorem dX11_meetings_37 : decode cX11_meetings 37 = .ok (.getfield 110, 3) := by decide +kernel
theorem dX11_meetings_40 : decode cX11_meetings 40 = .ok (.iload_n 3, 1) := by decide +kernel
theorem dX11_meetings_41 : decode cX11_meetings 41 = .ok (.iaload, 1) := by decide +kernel
theorem dX11_meetings_42 : decode cX11_meetings 42 = .ok (.imul, 1) := by decide +kernel
theorem dX11_meetings_43 : decode cX11_meetings 43 = .ok (.iload 5, 2) := by decide +kernel
theorem dX11_meetings_45 : decode cX11_meetings 45 = .ok (.iadd, 1) := by decide +kernel
theorem dX11_meetings_46 : decode cX11_meetings 46 = .ok (.iaload, 1) := by decide +kernel
theorem dX11_meetings_47 : decode cX11_meetings 47 = .ok (.aload_n 0, 1) := by decide +kernel
theorem dX11_meetings_48 : decode cX11_meetings 48 = .ok (.getfield 107, 3) := by decide +kernel
theorem dX11_meetings_51 : decode cX11_meetings 51 = .ok (.iconst 5, 1) := by decide +kernel
theorem dX11_meetings_52 : decode cX11_meetings 52 = .ok (.aload_n 0, 1) := by decide +kernel
theorem dX11_meetings_53 : decode cX11_meetings 53 = .ok (.getfield 110, 3) := by decide +kernel
theorem dX11_meetings_56 : decode cX11_meetings 56 = .ok (.iload 4, 2) := by decide +kernel
theorem dX11_meetings_58 : decode cX11_meetings 58 = .ok (.iaload, 1) := by decide +kernel
theorem dX11_meetings_59 : decode cX11_meetings 59 = .ok (.imul, 1) := by decide +kernel
theorem dX11_meetings_60 : decode cX11_meetings 60 = .ok (.iload 5, 2) := by decide +kernel
theorem dX11_meetings_62 : decode cX11_meetings 62 = .ok (.iadd, 1) := by decide +kernel
theorem dX11_meetings_63 : decode cX11_meetings 63 = .ok (.iaload, 1) := by decide +kernel
theorem dX11_meetings_64 : decode cX11_meetings 64 = .ok (.if_icmp .ne 7, 3) := by decide +kernel
theorem dX11_meetings_67 : decode cX11_meetings 67 = .ok (.iconst 1, 1) := by decide +kernel
theorem dX11_meetings_68 : decode cX11_meetings 68 = .ok (.goto 4, 3) := by decide +kernel
theorem dX11_meetings_71 : decode cX11_meetings 71 = .ok (.iconst 0, 1) := by decide +kernel
theorem dX11_meetings_72 : decode cX11_meetings 72 = .ok (.iadd, 1) := by decide +kernel
theorem dX11_meetings_73 : decode cX11_meetings 73 = .ok (.istore_n 2, 1) := by decide +kernel
theorem dX11_meetings_74 : decode cX11_meetings 74 = .ok (.iinc 5 1, 3) := by decide +kernel
theorem dX11_meetings_77 : decode cX11_meetings 77 = .ok (.goto (-56), 3) := by decide +kernel
theorem dX11_meetings_80 : decode cX11_meetings 80 = .ok (.iinc 4 1, 3) := by decide +kernel
theorem dX11_meetings_83 : decode cX11_meetings 83 = .ok (.goto (-71), 3) := by decide +kernel
theorem dX11_meetings_86 : decode cX11_meetings 86 = .ok (.iinc 3 1, 3) := by decide +kernel
theorem dX11_meetings_89 : decode cX11_meetings 89 = .ok (.goto (-85), 3) := by decide +kernel
theorem dX11_meetings_92 : decode cX11_meetings 92 = .ok (.iload_n 2, 1) := by decide +kernel
theorem dX11_meetings_93 : decode cX11_meetings 93 = .ok (.ireturn, 1) := by decide +kernel
theorem dX11_given_0 : decode cX11_given 0 = .ok (.iload_n 1, 1) := by decide +kernel
theorem dX11_given_1 : decode cX11_given 1 = .ok (.iconst 2, 1) := by decide +kernel
theorem dX11_given_2 : decode cX11_given 2 = .ok (.iconst 5, 1) := by decide +kernel
theorem dX11_given_3 : decode cX11_given 3 = .ok (.invokestatic 148, 3) := by decide +kernel
theorem dX11_given_6 : decode cX11_given 6 = .ok (.ifCond .eq 21, 3) := by decide +kernel
theorem dX11_given_9 : decode cX11_given 9 = .ok (.aload_n 0, 1) := by decide +kernel
theorem dX11_given_10 : decode cX11_given 10 = .ok (.getfield 152, 3) := by decide +kernel
theorem dX11_given_13 : decode cX11_given 13 = .ok (.ifCond .eq 14, 3) := by decide +kernel
theorem dX11_given_16 : decode cX11_given 16 = .ok (.iload_n 2, 1) := by decide +kernel
theorem dX11_given_17 : decode cX11_given 17 = .ok (.iconst (-1), 1) := by decide +kernel
theorem dX11_given_18 : decode cX11_given 18 = .ok (.iload_n 1, 1) := by decide +kernel
theorem dX11_given_19 : decode cX11_given 19 = .ok (.iconst 1, 1) := by decide +kernel
theorem dX11_given_20 : decode cX11_given 20 = .ok (.isub, 1) := by decide +kernel
theorem dX11_given_21 : decode cX11_given 21 = .ok (.invokestatic 148, 3) := by decide +kernel
theorem dX11_given_24 : decode cX11_given 24 = .ok (.ifCond .ne 5, 3) := by decide +kernel
theorem dX11_given_27 : decode cX11_given 27 = .ok (.iconst (-1), 1) := by decide +kernel
theorem dX11_given_28 : decode cX11_given 28 = .ok (.ireturn, 1) := by decide +kernel
theorem dX11_given_29 : decode cX11_given 29 = .ok (.iconst 1, 1) := by decide +kernel
theorem dX11_given_30 : decode cX11_given 30 = .ok (.istore_n 3, 1) := by decide +kernel
theorem dX11_given_31 : decode cX11_given 31 = .ok (.iconst 0, 1) := by decide +kernel
theorem dX11_given_32 : decode cX11_given 32 = .ok (.istore 4, 2) := by decide +kernel
theorem dX11_given_34 : decode cX11_given 34 = .ok (.iload 4, 2) := by decide +kernel
theorem dX11_given_36 : decode cX11_given 36 = .ok (.iload_n 1, 1) := by decide +kernel
theorem dX11_given_37 : decode cX11_given 37 = .ok (.if_icmp .ge 16, 3) := by decide +kernel
theorem dX11_given_40 : decode cX11_given 40 = .ok (.iload_n 3, 1) := by decide +kernel
theorem dX11_given_41 : decode cX11_given 41 = .ok (.aload_n 0, 1) := by decide +kernel
theorem dX11_given_42 : decode cX11_given 42 = .ok (.getfield 152, 3) := by decide +kernel
theorem dX11_given_45 : decode cX11_given 45 = .ok (.imul, 1) := by decide +kernel
theorem dX11_given_46 : decode cX11_given 46 = .ok (.istore_n 3, 1) := by decide +kernel
theorem dX11_given_47 : decode cX11_given 47 = .ok (.iinc 4 1, 3) := by decide +kernel
theorem dX11_given_50 : decode cX11_given 50 = .ok (.goto (-16), 3) := by decide +kernel
theorem dX11_given_53 : decode cX11_given 53 = .ok (.iconst (-1), 1) := by decide +kernel
theorem dX11_given_54 : decode cX11_given 54 = .ok (.istore 4, 2) := by decide +kernel
theorem dX11_given_56 : decode cX11_given 56 = .ok (.iconst 0, 1) := by decide +kernel
theorem dX11_given_57 : decode cX11_given 57 = .ok (.istore 5, 2) := by decide +kernel
theorem dX11_given_59 : decode cX11_given 59 = .ok (.iload 5, 2) := by decide +kernel
theorem dX11_given_61 : decode cX11_given 61 = .ok (.iload_n 3, 1) := by decide +kernel
theorem dX11_given_62 : decode cX11_given 62 = .ok (.if_icmp .ge 108, 3) := by decide +kernel
theorem dX11_given_65 : decode cX11_given 65 = .ok (.iload 5, 2) := by decide +kernel
theorem dX11_given_67 : decode cX11_given 67 = .ok (.istore 6, 2) := by decide +kernel
theorem dX11_given_69 : decode cX11_given 69 = .ok (.iload_n 1, 1) := by decide +kernel
theorem dX11_given_70 : decode cX11_given 70 = .ok (.iconst 1, 1) := by decide +kernel
theorem dX11_given_71 : decode cX11_given 71 = .ok (.isub, 1) := by decide +kernel
theorem dX11_given_72 : decode cX11_given 72 = .ok (.istore 7, 2) := by decide +kernel
theorem dX11_given_74 : decode cX11_given 74 = .ok (.iload 7, 2) := by decide +kernel
theorem dX11_given_76 : decode cX11_given 76 = .ok (.ifCond .lt 32, 3) := by decide +kernel
theorem dX11_given_79 : decode cX11_given 79 = .ok (.aload_n 0, 1) := by decide +kernel
theorem dX11_given_80 : decode cX11_given 80 = .ok (.getfield 110, 3) := by decide +kernel
theorem dX11_given_83 : decode cX11_given 83 = .ok (.iload 7, 2) := by decide +kernel
theorem dX11_given_85 : decode cX11_given 85 = .ok (.iload 6, 2) := by decide +kernel
theorem dX11_given_87 : decode cX11_given 87 = .ok (.aload_n 0, 1) := by decide +kernel
theorem dX11_given_88 : decode cX11_given 88 = .ok (.getfield 152, 3) := by decide +kernel
theorem dX11_given_91 : decode cX11_given 91 = .ok (.irem, 1) := by decide +kernel
theorem dX11_given_92 : decode cX11_given 92 = .ok (.iastore, 1) := by decide +kernel
theorem dX11_given_93 : decode cX11_given 93 = .ok (.iload 6, 2) := by decide +kernel
theorem dX11_given_95 : decode cX11_given 95 = .ok (.aload_n 0, 1) := by decide +kernel
theorem dX11_given_96 : decode cX11_given 96 = .ok (.getfield 152, 3) := by decide +kernel
theorem dX11_given_99 : decode cX11_given 99 = .ok (.idiv, 1) := by decide +kernel
theorem dX11_given_100 : decode cX11_given 100 = .ok (.istore 6, 2) := by decide +kernel
theorem dX11_given_102 : decode cX11_given 102 = .ok (.iinc 7 (-1), 3) := by decide +kernel
theorem dX11_given_105 : decode cX11_given 105 = .ok (.goto (-31), 3) := by decide +kernel
theorem dX11_given_108 : decode cX11_given 108 = .ok (.aload_n 0, 1) := by decide +kernel
theorem dX11_given_109 : decode cX11_given 109 = .ok (.iload_n 1, 1) := by decide +kernel
theorem dX11_given_110 : decode cX11_given 110 = .ok (.invokevirtual 426, 3) := by decide +kernel
theorem dX11_given_113 : decode cX11_given 113 = .ok (.istore 7, 2) := by decide +kernel
theorem dX11_given_115 : decode cX11_given 115 = .ok (.iload 4, 2) := by decide +kernel
theorem dX11_given_117 : decode cX11_given 117 = .ok (.iconst (-1), 1) := by decide +kernel
theorem dX11_given_118 : decode cX11_given 118 = .ok (.if_icmp .eq 13, 3) := by decide +kernel
theorem dX11_given_121 : decode cX11_given 121 = .ok (.iload 7, 2) := by decide +kernel
theorem dX11_given_123 : decode cX11_given 123 = .ok (.iload 4, 2) := by decide +kernel
theorem dX11_given_125 : decode cX11_given 125 = .ok (.if_icmp .lt 6, 3) := by decide +kernel
theorem dX11_given_128 : decode cX11_given 128 = .ok (.goto 36, 3) := by decide +kernel
theorem dX11_given_131 : decode cX11_given 131 = .ok (.iload 7, 2) := by decide +kernel
theorem dX11_given_133 : decode cX11_given 133 = .ok (.istore 4, 2) := by decide +kernel
theorem dX11_given_135 : decode cX11_given 135 = .ok (.iconst 0, 1) := by decide +kernel
theorem dX11_given_136 : decode cX11_given 136 = .ok (.istore 8, 2) := by decide +kernel
theorem dX11_given_138 : decode cX11_given 138 = .ok (.iload 8, 2) := by decide +kernel
theorem dX11_given_140 : decode cX11_given 140 = .ok (.iload_n 1, 1) := by decide +kernel
theorem dX11_given_141 : decode cX11_given 141 = .ok (.if_icmp .ge 23, 3) := by decide +kernel
theorem dX11_given_144 : decode cX11_given 144 = .ok (.aload_n 0, 1) := by decide +kernel
theorem dX11_given_145 : decode cX11_given 145 = .ok (.getfield 113, 3) := by decide +kernel
theorem dX11_given_148 : decode cX11_given 148 = .ok (.iload 8, 2) := by decide +kernel
theorem dX11_given_150 : decode cX11_given 150 = .ok (.aload_n 0, 1) := by decide +kernel
theorem dX11_given_151 : decode cX11_given 151 = .ok (.getfield 110, 3) := by decide +kernel
theorem dX11_given_154 : decode cX11_given 154 = .ok (.iload 8, 2) := by decide +kernel
theorem dX11_given_156 : decode cX11_given 156 = .ok (.iaload, 1) := by decide +kernel
theorem dX11_given_157 : decode cX11_given 157 = .ok (.iastore, 1) := by decide +kernel
theorem dX11_given_158 : decode cX11_given 158 = .ok (.iinc 8 1, 3) := by decide +kernel
theorem dX11_given_161 : decode cX11_given 161 = .ok (.goto (-23), 3) := by decide +kernel
theorem dX11_given_164 : decode cX11_given 164 = .ok (.iinc 5 1, 3) := by decide +kernel
theorem dX11_given_167 : decode cX11_given 167 = .ok (.goto (-108), 3) := by decide +kernel
theorem dX11_given_170 : decode cX11_given 170 = .ok (.iload_n 2, 1) := by decide +kernel
theorem dX11_given_171 : decode cX11_given 171 = .ok (.iconst (-1), 1) := by decide +kernel
theorem dX11_given_172 : decode cX11_given 172 = .ok (.if_icmp .ne 8, 3) := by decide +kernel
theorem dX11_given_175 : decode cX11_given 175 = .ok (.iload 4, 2) := by decide +kernel
theorem dX11_given_177 : decode cX11_given 177 = .ok (.goto 9, 3) := by decide +kernel
theorem dX11_given_180 : decode cX11_given 180 = .ok (.aload_n 0, 1) := by decide +kernel
theorem dX11_given_181 : decode cX11_given 181 = .ok (.getfield 113, 3) := by decide +kernel
theorem dX11_given_184 : decode cX11_given 184 = .ok (.iload_n 2, 1) := by decide +kernel
theorem dX11_given_185 : decode cX11_given 185 = .ok (.iaload, 1) := by decide +kernel
theorem dX11_given_186 : decode cX11_given 186 = .ok (.ireturn, 1) := by decide +kernel
theorem dX11_cleverest_0 : decode cX11_cleverest 0 = .ok (.aload_n 0, 1) := by decide +kernel
theorem dX11_cleverest_1 : decode cX11_cleverest 1 = .ok (.iload_n 1, 1) := by decide +kernel
theorem dX11_cleverest_2 : decode cX11_cleverest 2 = .ok (.iload_n 2, 1) := by decide +kernel
theorem dX11_cleverest_3 : decode cX11_cleverest 3 = .ok (.invokevirtual 323, 3) := by decide +kernel
theorem dX11_cleverest_6 : decode cX11_cleverest 6 = .ok (.ifCond .eq 12, 3) := by decide +kernel
theorem dX11_cleverest_9 : decode cX11_cleverest 9 = .ok (.iload_n 3, 1) := by decide +kernel
theorem dX11_cleverest_10 : decode cX11_cleverest 10 = .ok (.iconst 0, 1) := by decide +kernel
theorem dX11_cleverest_11 : decode cX11_cleverest 11 = .ok (.iconst 2, 1) := by decide +kernel
theorem dX11_cleverest_12 : decode cX11_cleverest 12 = .ok (.invokestatic 148, 3) := by decide +kernel
theorem dX11_cleverest_15 : decode cX11_cleverest 15 = .ok (.ifCond .ne 7, 3) := by decide +kernel
theorem dX11_cleverest_18 : decode cX11_cleverest 18 = .ok (.ldc2_w 308, 3) := by decide +kernel
theorem dX11_cleverest_21 : decode cX11_cleverest 21 = .ok (.lreturn, 1) := by decide +kernel
theorem dX11_cleverest_22 : decode cX11_cleverest 22 = .ok (.iconst 0, 1) := by decide +kernel
theorem dX11_cleverest_23 : decode cX11_cleverest 23 = .ok (.istore 4, 2) := by decide +kernel
theorem dX11_cleverest_25 : decode cX11_cleverest 25 = .ok (.lconst 0, 1) := by decide +kernel
theorem dX11_cleverest_26 : decode cX11_cleverest 26 = .ok (.lstore 5, 2) := by decide +kernel
theorem dX11_cleverest_28 : decode cX11_cleverest 28 = .ok (.iconst 1, 1) := by decide +kernel
theorem dX11_cleverest_29 : decode cX11_cleverest 29 = .ok (.istore 7, 2) := by decide +kernel
theorem dX11_cleverest_31 : decode cX11_cleverest 31 = .ok (.iload 7, 2) := by decide +kernel
theorem dX11_cleverest_33 : decode cX11_cleverest 33 = .ok (.aload_n 0, 1) := by decide +kernel
theorem dX11_cleverest_34 : decode cX11_cleverest 34 = .ok (.getfield 141, 3) := by decide +kernel
theorem dX11_cleverest_37 : decode cX11_cleverest 37 = .ok (.if_icmp .gt 45, 3) := by decide +kernel
theorem dX11_cleverest_40 : decode cX11_cleverest 40 = .ok (.aload_n 0, 1) := by decide +kernel
theorem dX11_cleverest_41 : decode cX11_cleverest 41 = .ok (.iload_n 1, 1) := by decide +kernel
theorem dX11_cleverest_42 : decode cX11_cleverest 42 = .ok (.iload_n 2, 1) := by decide +kernel
theorem dX11_cleverest_43 : decode cX11_cleverest 43 = .ok (.iload 7, 2) := by decide +kernel
theorem dX11_cleverest_45 : decode cX11_cleverest 45 = .ok (.invokevirtual 326, 3) := by decide +kernel
theorem dX11_cleverest_48 : decode cX11_cleverest 48 = .ok (.iload 4, 2) := by decide +kernel
theorem dX11_cleverest_50 : decode cX11_cleverest 50 = .ok (.ifCond .le 16, 3) := by decide +kernel
theorem dX11_cleverest_53 : decode cX11_cleverest 53 = .ok (.aload_n 0, 1) := by decide +kernel
theorem dX11_cleverest_54 : decode cX11_cleverest 54 = .ok (.getfield 317, 3) := by decide +kernel
theorem dX11_cleverest_57 : decode cX11_cleverest 57 = .ok (.lload 5, 2) := by decide +kernel
theorem dX11_cleverest_59 : decode cX11_cleverest 59 = .ok (.lcmp, 1) := by decide +kernel
theorem dX11_cleverest_60 : decode cX11_cleverest 60 = .ok (.ifCond .gt 6, 3) := by decide +kernel
theorem dX11_cleverest_63 : decode cX11_cleverest 63 = .ok (.goto 13, 3) := by decide +kernel
theorem dX11_cleverest_66 : decode cX11_cleverest 66 = .ok (.iload 7, 2) := by decide +kernel
theorem dX11_cleverest_68 : decode cX11_cleverest 68 = .ok (.istore 4, 2) := by decide +kernel
theorem dX11_cleverest_70 : decode cX11_cleverest 70 = .ok (.aload_n 0, 1) := by decide +kernel
theorem dX11_cleverest_71 : decode cX11_cleverest 71 = .ok (.getfield 317, 3) := by decide +kernel
theorem dX11_cleverest_74 : decode cX11_cleverest 74 = .ok (.lstore 5, 2) := by decide +kernel
theorem dX11_cleverest_76 : decode cX11_cleverest 76 = .ok (.iinc 7 1, 3) := by decide +kernel
theorem dX11_cleverest_79 : decode cX11_cleverest 79 = .ok (.goto (-48), 3) := by decide +kernel
theorem dX11_cleverest_82 : decode cX11_cleverest 82 = .ok (.bipush 20, 2) := by decide +kernel
theorem dX11_cleverest_84 : decode cX11_cleverest 84 = .ok (.invokestatic 313, 3) := by decide +kernel
theorem dX11_cleverest_87 : decode cX11_cleverest 87 = .ok (.lstore 7, 2) := by decide +kernel
theorem dX11_cleverest_89 : decode cX11_cleverest 89 = .ok (.iload_n 3, 1) := by decide +kernel
theorem dX11_cleverest_90 : decode cX11_cleverest 90 = .ok (.ifCond .ne 9, 3) := by decide +kernel
theorem dX11_cleverest_93 : decode cX11_cleverest 93 = .ok (.iload 4, 2) := by decide +kernel
theorem dX11_cleverest_95 : decode cX11_cleverest 95 = .ok (.i2l, 1) := by decide +kernel
theorem dX11_cleverest_96 : decode cX11_cleverest 96 = .ok (.goto 31, 3) := by decide +kernel
theorem dX11_cleverest_99 : decode cX11_cleverest 99 = .ok (.iload_n 3, 1) := by decide +kernel
theorem dX11_cleverest_100 : decode cX11_cleverest 100 = .ok (.iconst 1, 1) := by decide +kernel
theorem dX11_cleverest_101 : decode cX11_cleverest 101 = .ok (.if_icmp .ne 16, 3) := by decide +kernel
theorem dX11_cleverest_104 : decode cX11_cleverest 104 = .ok (.lload 5, 2) := by decide +kernel
theorem dX11_cleverest_106 : decode cX11_cleverest 106 = .ok (.lload 5, 2) := by decide +kernel
theorem dX11_cleverest_108 : decode cX11_cleverest 108 = .ok (.lload 7, 2) := by decide +kernel
theorem dX11_cleverest_110 : decode cX11_cleverest 110 = .ok (.invokestatic 330, 3) := by decide +kernel
theorem dX11_cleverest_113 : decode cX11_cleverest 113 = .ok (.ldiv, 1) := by decide +kernel
theorem dX11_cleverest_114 : decode cX11_cleverest 114 = .ok (.goto 13, 3) := by decide +kernel
theorem dX11_cleverest_117 : decode cX11_cleverest 117 = .ok (.lload 7, 2) := by decide +kernel
theorem dX11_cleverest_119 : decode cX11_cleverest 119 = .ok (.lload 5, 2) := by decide +kernel
theorem dX11_cleverest_121 : decode cX11_cleverest 121 = .ok (.lload 7, 2) := by decide +kernel
theorem dX11_cleverest_123 : decode cX11_cleverest 123 = .ok (.invokestatic 330, 3) := by decide +kernel
theorem dX11_cleverest_126 : decode cX11_cleverest 126 = .ok (.ldiv, 1) := by decide +kernel
theorem dX11_cleverest_127 : decode cX11_cleverest 127 = .ok (.lreturn, 1) := by decide +kernel
theorem dX11_clears_0 : decode cX11_clears 0 = .ok (.aload_n 0, 1) := by decide +kernel
theorem dX11_clears_1 : decode cX11_clears 1 = .ok (.getfield 429, 3) := by decide +kernel
theorem dX11_clears_4 : decode cX11_clears 4 = .ok (.istore_n 1, 1) := by decide +kernel
theorem dX11_clears_5 : decode cX11_clears 5 = .ok (.aload_n 0, 1) := by decide +kernel
theorem dX11_clears_6 : decode cX11_clears 6 = .ok (.iconst 0, 1) := by decide +kernel
theorem dX11_clears_7 : decode cX11_clears 7 = .ok (.putfield 429, 3) := by decide +kernel
theorem dX11_clears_10 : decode cX11_clears 10 = .ok (.aload_n 0, 1) := by decide +kernel
theorem dX11_clears_11 : decode cX11_clears 11 = .ok (.iconst 0, 1) := by decide +kernel
theorem dX11_clears_12 : decode cX11_clears 12 = .ok (.putfield 432, 3) := by decide +kernel
theorem dX11_clears_15 : decode cX11_clears 15 = .ok (.iload_n 1, 1) := by decide +kernel
theorem dX11_clears_16 : decode cX11_clears 16 = .ok (.ireturn, 1) := by decide +kernel
theorem dX11_clear_0 : decode cX11_clear 0 = .ok (.aload_n 0, 1) := by decide +kernel
theorem dX11_clear_1 : decode cX11_clear 1 = .ok (.invokevirtual 155, 3) := by decide +kernel
theorem dX11_clear_4 : decode cX11_clear 4 = .ok (.ireturn, 1) := by decide +kernel
theorem dX11_puts_0 : decode cX11_puts 0 = .ok (.aload_n 0, 1) := by decide +kernel
theorem dX11_puts_1 : decode cX11_puts 1 = .ok (.getfield 116, 3) := by decide +kernel
theorem dX11_puts_4 : decode cX11_puts 4 = .ok (.aload_n 0, 1) := by decide +kernel
theorem dX11_puts_5 : decode cX11_puts 5 = .ok (.getfield 429, 3) := by decide +kernel
theorem dX11_puts_8 : decode cX11_puts 8 = .ok (.iload_n 1, 1) := by decide +kernel
theorem dX11_puts_9 : decode cX11_puts 9 = .ok (.iastore, 1) := by decide +kernel
theorem dX11_puts_10 : decode cX11_puts 10 = .ok (.aload_n 0, 1) := by decide +kernel
theorem dX11_puts_11 : decode cX11_puts 11 = .ok (.getfield 119, 3) := by decide +kernel
theorem dX11_puts_14 : decode cX11_puts 14 = .ok (.aload_n 0, 1) := by decide +kernel
theorem dX11_puts_15 : decode cX11_puts 15 = .ok (.getfield 429, 3) := by decide +kernel
theorem dX11_puts_18 : decode cX11_puts 18 = .ok (.iload_n 2, 1) := by decide +kernel
theorem dX11_puts_19 : decode cX11_puts 19 = .ok (.iastore, 1) := by decide +kernel
theorem dX11_puts_20 : decode cX11_puts 20 = .ok (.aload_n 0, 1) := by decide +kernel
theorem dX11_puts_21 : decode cX11_puts 21 = .ok (.getfield 122, 3) := by decide +kernel
theorem dX11_puts_24 : decode cX11_puts 24 = .ok (.aload_n 0, 1) := by decide +kernel
theorem dX11_puts_25 : decode cX11_puts 25 = .ok (.getfield 429, 3) := by decide +kernel
theorem dX11_puts_28 : decode cX11_puts 28 = .ok (.iload_n 3, 1) := by decide +kernel
theorem dX11_puts_29 : decode cX11_puts 29 = .ok (.iastore, 1) := by decide +kernel
theorem dX11_puts_30 : decode cX11_puts 30 = .ok (.aload_n 0, 1) := by decide +kernel
theorem dX11_puts_31 : decode cX11_puts 31 = .ok (.aload_n 0, 1) := by decide +kernel
theorem dX11_puts_32 : decode cX11_puts 32 = .ok (.getfield 429, 3) := by decide +kernel
theorem dX11_puts_35 : decode cX11_puts 35 = .ok (.iconst 1, 1) := by decide +kernel
theorem dX11_puts_36 : decode cX11_puts 36 = .ok (.iadd, 1) := by decide +kernel
theorem dX11_puts_37 : decode cX11_puts 37 = .ok (.putfield 429, 3) := by decide +kernel
theorem dX11_puts_40 : decode cX11_puts 40 = .ok (.return_, 1) := by decide +kernel
theorem dX11_went_0 : decode cX11_went 0 = .ok (.aload_n 0, 1) := by decide +kernel
theorem dX11_went_1 : decode cX11_went 1 = .ok (.iload_n 1, 1) := by decide +kernel
theorem dX11_went_2 : decode cX11_went 2 = .ok (.invokevirtual 144, 3) := by decide +kernel
theorem dX11_went_5 : decode cX11_went 5 = .ok (.ifCond .eq 51, 3) := by decide +kernel
theorem dX11_went_8 : decode cX11_went 8 = .ok (.aload_n 0, 1) := by decide +kernel
theorem dX11_went_9 : decode cX11_went 9 = .ok (.iload_n 2, 1) := by decide +kernel
theorem dX11_went_10 : decode cX11_went 10 = .ok (.invokevirtual 166, 3) := by decide +kernel
theorem dX11_went_13 : decode cX11_went 13 = .ok (.ifCond .eq 43, 3) := by decide +kernel
theorem dX11_went_16 : decode cX11_went 16 = .ok (.iload_n 3, 1) := by decide +kernel
theorem dX11_went_17 : decode cX11_went 17 = .ok (.aload_n 0, 1) := by decide +kernel
theorem dX11_went_18 : decode cX11_went 18 = .ok (.getfield 429, 3) := by decide +kernel
theorem dX11_went_21 : decode cX11_went 21 = .ok (.ifCond .ne 7, 3) := by decide +kernel
theorem dX11_went_24 : decode cX11_went 24 = .ok (.iconst 1, 1) := by decide +kernel
theorem dX11_went_25 : decode cX11_went 25 = .ok (.goto 14, 3) := by decide +kernel
theorem dX11_went_28 : decode cX11_went 28 = .ok (.aload_n 0, 1) := by decide +kernel
theorem dX11_went_29 : decode cX11_went 29 = .ok (.getfield 122, 3) := by decide +kernel
theorem dX11_went_32 : decode cX11_went 32 = .ok (.aload_n 0, 1) := by decide +kernel
theorem dX11_went_33 : decode cX11_went 33 = .ok (.getfield 429, 3) := by decide +kernel
theorem dX11_went_36 : decode cX11_went 36 = .ok (.iconst 1, 1) := by decide +kernel
theorem dX11_went_37 : decode cX11_went 37 = .ok (.isub, 1) := by decide +kernel
theorem dX11_went_38 : decode cX11_went 38 = .ok (.iaload, 1) := by decide +kernel
theorem dX11_went_39 : decode cX11_went 39 = .ok (.bipush 10, 2) := by decide +kernel
theorem dX11_went_41 : decode cX11_went 41 = .ok (.invokestatic 148, 3) := by decide +kernel
theorem dX11_went_44 : decode cX11_went 44 = .ok (.ifCond .eq 12, 3) := by decide +kernel
theorem dX11_went_47 : decode cX11_went 47 = .ok (.aload_n 0, 1) := by decide +kernel
theorem dX11_went_48 : decode cX11_went 48 = .ok (.getfield 429, 3) := by decide +kernel
theorem dX11_went_51 : decode cX11_went 51 = .ok (.bipush 40, 2) := by decide +kernel
theorem dX11_went_53 : decode cX11_went 53 = .ok (.if_icmp .ne 5, 3) := by decide +kernel
theorem dX11_went_56 : decode cX11_went 56 = .ok (.iconst (-1), 1) := by decide +kernel
theorem dX11_went_57 : decode cX11_went 57 = .ok (.ireturn, 1) := by decide +kernel
theorem dX11_went_58 : decode cX11_went 58 = .ok (.iconst 0, 1) := by decide +kernel
theorem dX11_went_59 : decode cX11_went 59 = .ok (.istore 4, 2) := by decide +kernel
theorem dX11_went_61 : decode cX11_went 61 = .ok (.iload 4, 2) := by decide +kernel
theorem dX11_went_63 : decode cX11_went 63 = .ok (.aload_n 0, 1) := by decide +kernel
theorem dX11_went_64 : decode cX11_went 64 = .ok (.getfield 429, 3) := by decide +kernel
theorem dX11_went_67 : decode cX11_went 67 = .ok (.if_icmp .ge 33, 3) := by decide +kernel
theorem dX11_went_70 : decode cX11_went 70 = .ok (.aload_n 0, 1) := by decide +kernel
theorem dX11_went_71 : decode cX11_went 71 = .ok (.getfield 116, 3) := by decide +kernel
theorem dX11_went_74 : decode cX11_went 74 = .ok (.iload 4, 2) := by decide +kernel
theorem dX11_went_76 : decode cX11_went 76 = .ok (.iaload, 1) := by decide +kernel
theorem dX11_went_77 : decode cX11_went 77 = .ok (.iload_n 1, 1) := by decide +kernel
theorem dX11_went_78 : decode cX11_went 78 = .ok (.if_icmp .ne 16, 3) := by decide +kernel
theorem dX11_went_81 : decode cX11_went 81 = .ok (.aload_n 0, 1) := by decide +kernel
theorem dX11_went_82 : decode cX11_went 82 = .ok (.getfield 119, 3) := by decide +kernel
theorem dX11_went_85 : decode cX11_went 85 = .ok (.iload 4, 2) := by decide +kernel
theorem dX11_went_87 : decode cX11_went 87 = .ok (.iaload, 1) := by decide +kernel
theorem dX11_went_88 : decode cX11_went 88 = .ok (.iload_n 2, 1) := by decide +kernel
theorem dX11_went_89 : decode cX11_went 89 = .ok (.if_icmp .ne 5, 3) := by decide +kernel
theorem dX11_went_92 : decode cX11_went 92 = .ok (.iconst (-1), 1) := by decide +kernel
theorem dX11_went_93 : decode cX11_went 93 = .ok (.ireturn, 1) := by decide +kernel
theorem dX11_went_94 : decode cX11_went 94 = .ok (.iinc 4 1, 3) := by decide +kernel
theorem dX11_went_97 : decode cX11_went 97 = .ok (.goto (-36), 3) := by decide +kernel
theorem dX11_went_100 : decode cX11_went 100 = .ok (.aload_n 0, 1) := by decide +kernel
theorem dX11_went_101 : decode cX11_went 101 = .ok (.iload_n 1, 1) := by decide +kernel
theorem dX11_went_102 : decode cX11_went 102 = .ok (.iload_n 2, 1) := by decide +kernel
theorem dX11_went_103 : decode cX11_went 103 = .ok (.iload_n 3, 1) := by decide +kernel
theorem dX11_went_104 : decode cX11_went 104 = .ok (.invokevirtual 436, 3) := by decide +kernel
theorem dX11_went_107 : decode cX11_went 107 = .ok (.aload_n 0, 1) := by decide +kernel
theorem dX11_went_108 : decode cX11_went 108 = .ok (.getfield 429, 3) := by decide +kernel
theorem dX11_went_111 : decode cX11_went 111 = .ok (.ireturn, 1) := by decide +kernel
theorem dX11_logged_0 : decode cX11_logged 0 = .ok (.iload_n 1, 1) := by decide +kernel
theorem dX11_logged_1 : decode cX11_logged 1 = .ok (.ifCond .lt 11, 3) := by decide +kernel
theorem dX11_logged_4 : decode cX11_logged 4 = .ok (.iload_n 1, 1) := by decide +kernel
theorem dX11_logged_5 : decode cX11_logged 5 = .ok (.aload_n 0, 1) := by decide +kernel
theorem dX11_logged_6 : decode cX11_logged 6 = .ok (.getfield 429, 3) := by decide +kernel
theorem dX11_logged_9 : decode cX11_logged 9 = .ok (.if_icmp .lt 7, 3) := by decide +kernel
theorem dX11_logged_12 : decode cX11_logged 12 = .ok (.iconst (-1), 1) := by decide +kernel
theorem dX11_logged_13 : decode cX11_logged 13 = .ok (.goto 45, 3) := by decide +kernel
theorem dX11_logged_16 : decode cX11_logged 16 = .ok (.iload_n 2, 1) := by decide +kernel
theorem dX11_logged_17 : decode cX11_logged 17 = .ok (.ifCond .ne 12, 3) := by decide +kernel
theorem dX11_logged_20 : decode cX11_logged 20 = .ok (.aload_n 0, 1) := by decide +kernel
theorem dX11_logged_21 : decode cX11_logged 21 = .ok (.getfield 116, 3) := by decide +kernel
theorem dX11_logged_24 : decode cX11_logged 24 = .ok (.iload_n 1, 1) := by decide +kernel
theorem dX11_logged_25 : decode cX11_logged 25 = .ok (.iaload, 1) := by decide +kernel
theorem dX11_logged_26 : decode cX11_logged 26 = .ok (.goto 32, 3) := by decide +kernel
theorem dX11_logged_29 : decode cX11_logged 29 = .ok (.iload_n 2, 1) := by decide +kernel
theorem dX11_logged_30 : decode cX11_logged 30 = .ok (.iconst 1, 1) := by decide +kernel
theorem dX11_logged_31 : decode cX11_logged 31 = .ok (.if_icmp .ne 12, 3) := by decide +kernel
theorem dX11_logged_34 : decode cX11_logged 34 = .ok (.aload_n 0, 1) := by decide +kernel
theorem dX11_logged_35 : decode cX11_logged 35 = .ok (.getfield 119, 3) := by decide +kernel
theorem dX11_logged_38 : decode cX11_logged 38 = .ok (.iload_n 1, 1) := by decide +kernel
theorem dX11_logged_39 : decode cX11_logged 39 = .ok (.iaload, 1) := by decide +kernel
theorem dX11_logged_40 : decode cX11_logged 40 = .ok (.goto 18, 3) := by decide +kernel
theorem dX11_logged_43 : decode cX11_logged 43 = .ok (.iload_n 2, 1) := by decide +kernel
theorem dX11_logged_44 : decode cX11_logged 44 = .ok (.iconst 2, 1) := by decide +kernel
theorem dX11_logged_45 : decode cX11_logged 45 = .ok (.if_icmp .ne 12, 3) := by decide +kernel
theorem dX11_logged_48 : decode cX11_logged 48 = .ok (.aload_n 0, 1) := by decide +kernel
theorem dX11_logged_49 : decode cX11_logged 49 = .ok (.getfield 122, 3) := by decide +kernel
theorem dX11_logged_52 : decode cX11_logged 52 = .ok (.iload_n 1, 1) := by decide +kernel
theorem dX11_logged_53 : decode cX11_logged 53 = .ok (.iaload, 1) := by decide +kernel
theorem dX11_logged_54 : decode cX11_logged 54 = .ok (.goto 4, 3) := by decide +kernel
theorem dX11_logged_57 : decode cX11_logged 57 = .ok (.iconst (-1), 1) := by decide +kernel
theorem dX11_logged_58 : decode cX11_logged 58 = .ok (.ireturn, 1) := by decide +kernel
theorem dX11_isAfterOne_0 : decode cX11_isAfterOne 0 = .ok (.iconst 0, 1) := by decide +kernel
theorem dX11_isAfterOne_1 : decode cX11_isAfterOne 1 = .ok (.istore_n 2, 1) := by decide +kernel
theorem dX11_isAfterOne_2 : decode cX11_isAfterOne 2 = .ok (.iload_n 2, 1) := by decide +kernel
theorem dX11_isAfterOne_3 : decode cX11_isAfterOne 3 = .ok (.iload_n 1, 1) := by decide +kernel
theorem dX11_isAfterOne_4 : decode cX11_isAfterOne 4 = .ok (.if_icmp .ge 58, 3) := by decide +kernel
theorem dX11_isAfterOne_7 : decode cX11_isAfterOne 7 = .ok (.aload_n 0, 1) := by decide +kernel
theorem dX11_isAfterOne_8 : decode cX11_isAfterOne 8 = .ok (.getfield 119, 3) := by decide +kernel
theorem dX11_isAfterOne_11 : decode cX11_isAfterOne 11 = .ok (.iload_n 2, 1) := by decide +kernel
theorem dX11_isAfterOne_12 : decode cX11_isAfterOne 12 = .ok (.iaload, 1) := by decide +kernel
theorem dX11_isAfterOne_13 : decode cX11_isAfterOne 13 = .ok (.aload_n 0, 1) := by decide +kernel
theorem dX11_isAfterOne_14 : decode cX11_isAfterOne 14 = .ok (.getfield 119, 3) := by decide +kernel
theorem dX11_isAfterOne_17 : decode cX11_isAfterOne 17 = .ok (.iload_n 1, 1) := by decide +kernel
theorem dX11_isAfterOne_18 : decode cX11_isAfterOne 18 = .ok (.iaload, 1) := by decide +kernel
theorem dX11_isAfterOne_19 : decode cX11_isAfterOne 19 = .ok (.if_icmp .ne 37, 3) := by decide +kernel
theorem dX11_isAfterOne_22 : decode cX11_isAfterOne 22 = .ok (.aload_n 0, 1) := by decide +kernel
theorem dX11_isAfterOne_23 : decode cX11_isAfterOne 23 = .ok (.getfield 116, 3) := by decide +kernel
theorem dX11_isAfterOne_26 : decode cX11_isAfterOne 26 = .ok (.iload_n 2, 1) := by decide +kernel
theorem dX11_isAfterOne_27 : decode cX11_isAfterOne 27 = .ok (.iaload, 1) := by decide +kernel
theorem dX11_isAfterOne_28 : decode cX11_isAfterOne 28 = .ok (.aload_n 0, 1) := by decide +kernel
theorem dX11_isAfterOne_29 : decode cX11_isAfterOne 29 = .ok (.getfield 116, 3) := by decide +kernel
theorem dX11_isAfterOne_32 : decode cX11_isAfterOne 32 = .ok (.iload_n 1, 1) := by decide +kernel
theorem dX11_isAfterOne_33 : decode cX11_isAfterOne 33 = .ok (.iaload, 1) := by decide +kernel
theorem dX11_isAfterOne_34 : decode cX11_isAfterOne 34 = .ok (.if_icmp .eq 22, 3) := by decide +kernel
theorem dX11_isAfterOne_37 : decode cX11_isAfterOne 37 = .ok (.aload_n 0, 1) := by decide +kernel
theorem dX11_isAfterOne_38 : decode cX11_isAfterOne 38 = .ok (.getfield 122, 3) := by decide +kernel
theorem dX11_isAfterOne_41 : decode cX11_isAfterOne 41 = .ok (.iload_n 2, 1) := by decide +kernel
theorem dX11_isAfterOne_42 : decode cX11_isAfterOne 42 = .ok (.iaload, 1) := by decide +kernel
theorem dX11_isAfterOne_43 : decode cX11_isAfterOne 43 = .ok (.aload_n 0, 1) := by decide +kernel
theorem dX11_isAfterOne_44 : decode cX11_isAfterOne 44 = .ok (.getfield 122, 3) := by decide +kernel
theorem dX11_isAfterOne_47 : decode cX11_isAfterOne 47 = .ok (.iload_n 1, 1) := by decide +kernel
theorem dX11_isAfterOne_48 : decode cX11_isAfterOne 48 = .ok (.iaload, 1) := by decide +kernel
theorem dX11_isAfterOne_49 : decode cX11_isAfterOne 49 = .ok (.iconst 2, 1) := by decide +kernel
theorem dX11_isAfterOne_50 : decode cX11_isAfterOne 50 = .ok (.isub, 1) := by decide +kernel
theorem dX11_isAfterOne_51 : decode cX11_isAfterOne 51 = .ok (.if_icmp .lt 5, 3) := by decide +kernel
theorem dX11_isAfterOne_54 : decode cX11_isAfterOne 54 = .ok (.iconst 1, 1) := by decide +kernel
theorem dX11_isAfterOne_55 : decode cX11_isAfterOne 55 = .ok (.ireturn, 1) := by decide +kernel
theorem dX11_isAfterOne_56 : decode cX11_isAfterOne 56 = .ok (.iinc 2 1, 3) := by decide +kernel
theorem dX11_isAfterOne_59 : decode cX11_isAfterOne 59 = .ok (.goto (-57), 3) := by decide +kernel
theorem dX11_isAfterOne_62 : decode cX11_isAfterOne 62 = .ok (.iconst 0, 1) := by decide +kernel
theorem dX11_isAfterOne_63 : decode cX11_isAfterOne 63 = .ok (.ireturn, 1) := by decide +kernel
theorem dX11_thoughtOf_0 : decode cX11_thoughtOf 0 = .ok (.iconst 0, 1) := by decide +kernel
theorem dX11_thoughtOf_1 : decode cX11_thoughtOf 1 = .ok (.istore_n 2, 1) := by decide +kernel
theorem dX11_thoughtOf_2 : decode cX11_thoughtOf 2 = .ok (.iconst 0, 1) := by decide +kernel
theorem dX11_thoughtOf_3 : decode cX11_thoughtOf 3 = .ok (.istore_n 3, 1) := by decide +kernel
theorem dX11_thoughtOf_4 : decode cX11_thoughtOf 4 = .ok (.iload_n 3, 1) := by decide +kernel
theorem dX11_thoughtOf_5 : decode cX11_thoughtOf 5 = .ok (.iload_n 1, 1) := by decide +kernel
theorem dX11_thoughtOf_6 : decode cX11_thoughtOf 6 = .ok (.if_icmp .ge 48, 3) := by decide +kernel
theorem dX11_thoughtOf_9 : decode cX11_thoughtOf 9 = .ok (.aload_n 0, 1) := by decide +kernel
theorem dX11_thoughtOf_10 : decode cX11_thoughtOf 10 = .ok (.getfield 116, 3) := by decide +kernel
theorem dX11_thoughtOf_13 : decode cX11_thoughtOf 13 = .ok (.iload_n 3, 1) := by decide +kernel
theorem dX11_thoughtOf_14 : decode cX11_thoughtOf 14 = .ok (.iaload, 1) := by decide +kernel
theorem dX11_thoughtOf_15 : decode cX11_thoughtOf 15 = .ok (.aload_n 0, 1) := by decide +kernel
theorem dX11_thoughtOf_16 : decode cX11_thoughtOf 16 = .ok (.getfield 116, 3) := by decide +kernel
theorem dX11_thoughtOf_19 : decode cX11_thoughtOf 19 = .ok (.iload_n 1, 1) := by decide +kernel
theorem dX11_thoughtOf_20 : decode cX11_thoughtOf 20 = .ok (.iaload, 1) := by decide +kernel
theorem dX11_thoughtOf_21 : decode cX11_thoughtOf 21 = .ok (.if_icmp .ne 27, 3) := by decide +kernel
theorem dX11_thoughtOf_24 : decode cX11_thoughtOf 24 = .ok (.aload_n 0, 1) := by decide +kernel
theorem dX11_thoughtOf_25 : decode cX11_thoughtOf 25 = .ok (.getfield 122, 3) := by decide +kernel
theorem dX11_thoughtOf_28 : decode cX11_thoughtOf 28 = .ok (.iload_n 3, 1) := by decide +kernel
theorem dX11_thoughtOf_29 : decode cX11_thoughtOf 29 = .ok (.iaload, 1) := by decide +kernel
theorem dX11_thoughtOf_30 : decode cX11_thoughtOf 30 = .ok (.aload_n 0, 1) := by decide +kernel
theorem dX11_thoughtOf_31 : decode cX11_thoughtOf 31 = .ok (.aload_n 0, 1) := by decide +kernel
theorem dX11_thoughtOf_32 : decode cX11_thoughtOf 32 = .ok (.getfield 116, 3) := by decide +kernel
theorem dX11_thoughtOf_35 : decode cX11_thoughtOf 35 = .ok (.iload_n 3, 1) := by decide +kernel
theorem dX11_thoughtOf_36 : decode cX11_thoughtOf 36 = .ok (.iaload, 1) := by decide +kernel
theorem dX11_thoughtOf_37 : decode cX11_thoughtOf 37 = .ok (.aload_n 0, 1) := by decide +kernel
theorem dX11_thoughtOf_38 : decode cX11_thoughtOf 38 = .ok (.getfield 119, 3) := by decide +kernel
theorem dX11_thoughtOf_41 : decode cX11_thoughtOf 41 = .ok (.iload_n 3, 1) := by decide +kernel
theorem dX11_thoughtOf_42 : decode cX11_thoughtOf 42 = .ok (.iaload, 1) := by decide +kernel
theorem dX11_thoughtOf_43 : decode cX11_thoughtOf 43 = .ok (.invokevirtual 169, 3) := by decide +kernel
theorem dX11_thoughtOf_46 : decode cX11_thoughtOf 46 = .ok (.iadd, 1) := by decide +kernel
theorem dX11_thoughtOf_47 : decode cX11_thoughtOf 47 = .ok (.istore_n 2, 1) := by decide +kernel
theorem dX11_thoughtOf_48 : decode cX11_thoughtOf 48 = .ok (.iinc 3 1, 3) := by decide +kernel
theorem dX11_thoughtOf_51 : decode cX11_thoughtOf 51 = .ok (.goto (-47), 3) := by decide +kernel
theorem dX11_thoughtOf_54 : decode cX11_thoughtOf 54 = .ok (.aload_n 0, 1) := by decide +kernel
theorem dX11_thoughtOf_55 : decode cX11_thoughtOf 55 = .ok (.getfield 122, 3) := by decide +kernel
theorem dX11_thoughtOf_58 : decode cX11_thoughtOf 58 = .ok (.iload_n 1, 1) := by decide +kernel
theorem dX11_thoughtOf_59 : decode cX11_thoughtOf 59 = .ok (.iaload, 1) := by decide +kernel
theorem dX11_thoughtOf_60 : decode cX11_thoughtOf 60 = .ok (.iconst 1, 1) := by decide +kernel
theorem dX11_thoughtOf_61 : decode cX11_thoughtOf 61 = .ok (.isub, 1) := by decide +kernel
theorem dX11_thoughtOf_62 : decode cX11_thoughtOf 62 = .ok (.iload_n 2, 1) := by decide +kernel
theorem dX11_thoughtOf_63 : decode cX11_thoughtOf 63 = .ok (.isub, 1) := by decide +kernel
theorem dX11_thoughtOf_64 : decode cX11_thoughtOf 64 = .ok (.istore_n 3, 1) := by decide +kernel
theorem dX11_thoughtOf_65 : decode cX11_thoughtOf 65 = .ok (.iload_n 3, 1) := by decide +kernel
theorem dX11_thoughtOf_66 : decode cX11_thoughtOf 66 = .ok (.ifCond .ge 7, 3) := by decide +kernel
theorem dX11_thoughtOf_69 : decode cX11_thoughtOf 69 = .ok (.iconst 0, 1) := by decide +kernel
theorem dX11_thoughtOf_70 : decode cX11_thoughtOf 70 = .ok (.goto 13, 3) := by decide +kernel
theorem dX11_thoughtOf_73 : decode cX11_thoughtOf 73 = .ok (.iload_n 3, 1) := by decide +kernel
theorem dX11_thoughtOf_74 : decode cX11_thoughtOf 74 = .ok (.iconst 5, 1) := by decide +kernel
theorem dX11_thoughtOf_75 : decode cX11_thoughtOf 75 = .ok (.if_icmp .le 7, 3) := by decide +kernel
theorem dX11_thoughtOf_78 : decode cX11_thoughtOf 78 = .ok (.iconst 5, 1) := by decide +kernel
theorem dX11_thoughtOf_79 : decode cX11_thoughtOf 79 = .ok (.goto 4, 3) := by decide +kernel
theorem dX11_thoughtOf_82 : decode cX11_thoughtOf 82 = .ok (.iload_n 3, 1) := by decide +kernel
theorem dX11_thoughtOf_83 : decode cX11_thoughtOf 83 = .ok (.ireturn, 1) := by decide +kernel
theorem dX11_knew_0 : decode cX11_knew 0 = .ok (.iload_n 1, 1) := by decide +kernel
theorem dX11_knew_1 : decode cX11_knew 1 = .ok (.ifCond .lt 30, 3) := by decide +kernel
theorem dX11_knew_4 : decode cX11_knew 4 = .ok (.iload_n 1, 1) := by decide +kernel
theorem dX11_knew_5 : decode cX11_knew 5 = .ok (.aload_n 0, 1) := by decide +kernel
theorem dX11_knew_6 : decode cX11_knew 6 = .ok (.getfield 429, 3) := by decide +kernel
theorem dX11_knew_9 : decode cX11_knew 9 = .ok (.if_icmp .ge 22, 3) := by decide +kernel
theorem dX11_knew_12 : decode cX11_knew 12 = .ok (.iload_n 2, 1) := by decide +kernel
theorem dX11_knew_13 : decode cX11_knew 13 = .ok (.iconst 1, 1) := by decide +kernel
theorem dX11_knew_14 : decode cX11_knew 14 = .ok (.bipush 8, 2) := by decide +kernel
theorem dX11_knew_16 : decode cX11_knew 16 = .ok (.invokestatic 148, 3) := by decide +kernel
theorem dX11_knew_19 : decode cX11_knew 19 = .ok (.ifCond .eq 12, 3) := by decide +kernel
theorem dX11_knew_22 : decode cX11_knew 22 = .ok (.iload_n 3, 1) := by decide +kernel
theorem dX11_knew_23 : decode cX11_knew 23 = .ok (.iconst 0, 1) := by decide +kernel
theorem dX11_knew_24 : decode cX11_knew 24 = .ok (.iconst 1, 1) := by decide +kernel
theorem dX11_knew_25 : decode cX11_knew 25 = .ok (.invokestatic 148, 3) := by decide +kernel
theorem dX11_knew_28 : decode cX11_knew 28 = .ok (.ifCond .ne 5, 3) := by decide +kernel
theorem dX11_knew_31 : decode cX11_knew 31 = .ok (.iconst (-1), 1) := by decide +kernel
theorem dX11_knew_32 : decode cX11_knew 32 = .ok (.ireturn, 1) := by decide +kernel
theorem dX11_knew_33 : decode cX11_knew 33 = .ok (.aload_n 0, 1) := by decide +kernel
theorem dX11_knew_34 : decode cX11_knew 34 = .ok (.aload_n 0, 1) := by decide +kernel
theorem dX11_knew_35 : decode cX11_knew 35 = .ok (.getfield 116, 3) := by decide +kernel
theorem dX11_knew_38 : decode cX11_knew 38 = .ok (.iload_n 1, 1) := by decide +kernel
theorem dX11_knew_39 : decode cX11_knew 39 = .ok (.iaload, 1) := by decide +kernel
theorem dX11_knew_40 : decode cX11_knew 40 = .ok (.aload_n 0, 1) := by decide +kernel
theorem dX11_knew_41 : decode cX11_knew 41 = .ok (.getfield 19, 3) := by decide +kernel
theorem dX11_knew_44 : decode cX11_knew 44 = .ok (.aload_n 0, 1) := by decide +kernel
theorem dX11_knew_45 : decode cX11_knew 45 = .ok (.getfield 116, 3) := by decide +kernel
theorem dX11_knew_48 : decode cX11_knew 48 = .ok (.iload_n 1, 1) := by decide +kernel
theorem dX11_knew_49 : decode cX11_knew 49 = .ok (.iaload, 1) := by decide +kernel
theorem dX11_knew_50 : decode cX11_knew 50 = .ok (.iaload, 1) := by decide +kernel
theorem dX11_knew_51 : decode cX11_knew 51 = .ok (.aload_n 0, 1) := by decide +kernel
theorem dX11_knew_52 : decode cX11_knew 52 = .ok (.getfield 119, 3) := by decide +kernel
theorem dX11_knew_55 : decode cX11_knew 55 = .ok (.iload_n 1, 1) := by decide +kernel
theorem dX11_knew_56 : decode cX11_knew 56 = .ok (.iaload, 1) := by decide +kernel
theorem dX11_knew_57 : decode cX11_knew 57 = .ok (.aload_n 0, 1) := by decide +kernel
theorem dX11_knew_58 : decode cX11_knew 58 = .ok (.iload_n 1, 1) := by decide +kernel
theorem dX11_knew_59 : decode cX11_knew 59 = .ok (.invokevirtual 439, 3) := by decide +kernel
theorem dX11_knew_62 : decode cX11_knew 62 = .ok (.invokevirtual 288, 3) := by decide +kernel
theorem dX11_knew_65 : decode cX11_knew 65 = .ok (.aload_n 0, 1) := by decide +kernel
theorem dX11_knew_66 : decode cX11_knew 66 = .ok (.getfield 282, 3) := by decide +kernel
theorem dX11_knew_69 : decode cX11_knew 69 = .ok (.istore 4, 2) := by decide +kernel
theorem dX11_knew_71 : decode cX11_knew 71 = .ok (.aload_n 0, 1) := by decide +kernel
theorem dX11_knew_72 : decode cX11_knew 72 = .ok (.iload_n 1, 1) := by decide +kernel
theorem dX11_knew_73 : decode cX11_knew 73 = .ok (.invokevirtual 442, 3) := by decide +kernel
theorem dX11_knew_76 : decode cX11_knew 76 = .ok (.ifCond .eq 12, 3) := by decide +kernel
theorem dX11_knew_79 : decode cX11_knew 79 = .ok (.aload_n 0, 1) := by decide +kernel
theorem dX11_knew_80 : decode cX11_knew 80 = .ok (.getfield 282, 3) := by decide +kernel
theorem dX11_knew_83 : decode cX11_knew 83 = .ok (.iload_n 2, 1) := by decide +kernel
theorem dX11_knew_84 : decode cX11_knew 84 = .ok (.iadd, 1) := by decide +kernel
theorem dX11_knew_85 : decode cX11_knew 85 = .ok (.goto 7, 3) := by decide +kernel
theorem dX11_knew_88 : decode cX11_knew 88 = .ok (.aload_n 0, 1) := by decide +kernel
theorem dX11_knew_89 : decode cX11_knew 89 = .ok (.getfield 282, 3) := by decide +kernel
theorem dX11_knew_92 : decode cX11_knew 92 = .ok (.istore 5, 2) := by decide +kernel
theorem dX11_knew_94 : decode cX11_knew 94 = .ok (.iload 4, 2) := by decide +kernel
theorem dX11_knew_96 : decode cX11_knew 96 = .ok (.ifCond .ne 5, 3) := by decide +kernel
theorem dX11_knew_99 : decode cX11_knew 99 = .ok (.iload_n 3, 1) := by decide +kernel
theorem dX11_knew_100 : decode cX11_knew 100 = .ok (.ireturn, 1) := by decide +kernel
theorem dX11_knew_101 : decode cX11_knew 101 = .ok (.iload 4, 2) := by decide +kernel
theorem dX11_knew_103 : decode cX11_knew 103 = .ok (.i2l, 1) := by decide +kernel
theorem dX11_knew_104 : decode cX11_knew 104 = .ok (.iload 5, 2) := by decide +kernel
theorem dX11_knew_106 : decode cX11_knew 106 = .ok (.i2l, 1) := by decide +kernel
theorem dX11_knew_107 : decode cX11_knew 107 = .ok (.invokestatic 330, 3) := by decide +kernel
theorem dX11_knew_110 : decode cX11_knew 110 = .ok (.l2i, 1) := by decide +kernel
theorem dX11_knew_111 : decode cX11_knew 111 = .ok (.istore 6, 2) := by decide +kernel
theorem dX11_knew_113 : decode cX11_knew 113 = .ok (.iload_n 3, 1) := by decide +kernel
theorem dX11_knew_114 : decode cX11_knew 114 = .ok (.ifCond .ne 11, 3) := by decide +kernel
theorem dX11_knew_117 : decode cX11_knew 117 = .ok (.iload 4, 2) := by decide +kernel
theorem dX11_knew_119 : decode cX11_knew 119 = .ok (.iload 6, 2) := by decide +kernel
theorem dX11_knew_121 : decode cX11_knew 121 = .ok (.idiv, 1) := by decide +kernel
theorem dX11_knew_122 : decode cX11_knew 122 = .ok (.goto 8, 3) := by decide +kernel
theorem dX11_knew_125 : decode cX11_knew 125 = .ok (.iload 5, 2) := by decide +kernel
theorem dX11_knew_127 : decode cX11_knew 127 = .ok (.iload 6, 2) := by decide +kernel
theorem dX11_knew_129 : decode cX11_knew 129 = .ok (.idiv, 1) := by decide +kernel
theorem dX11_knew_130 : decode cX11_knew 130 = .ok (.ireturn, 1) := by decide +kernel
theorem dX11_seed_0 : decode cX11_seed 0 = .ok (.iload_n 1, 1) := by decide +kernel
theorem dX11_seed_1 : decode cX11_seed 1 = .ok (.iconst 0, 1) := by decide +kernel
theorem dX11_seed_2 : decode cX11_seed 2 = .ok (.ldc_w 445, 3) := by decide +kernel
theorem dX11_seed_5 : decode cX11_seed 5 = .ok (.invokestatic 148, 3) := by decide +kernel
theorem dX11_seed_8 : decode cX11_seed 8 = .ok (.ifCond .ne 5, 3) := by decide +kernel
theorem dX11_seed_11 : decode cX11_seed 11 = .ok (.iconst 0, 1) := by decide +kernel
theorem dX11_seed_12 : decode cX11_seed 12 = .ok (.ireturn, 1) := by decide +kernel
theorem dX11_seed_13 : decode cX11_seed 13 = .ok (.aload_n 0, 1) := by decide +kernel
theorem dX11_seed_14 : decode cX11_seed 14 = .ok (.iload_n 1, 1) := by decide +kernel
theorem dX11_seed_15 : decode cX11_seed 15 = .ok (.putfield 135, 3) := by decide +kernel
theorem dX11_seed_18 : decode cX11_seed 18 = .ok (.iconst 1, 1) := by decide +kernel
theorem dX11_seed_19 : decode cX11_seed 19 = .ok (.ireturn, 1) := by decide +kernel
theorem dX11_seesOne_0 : decode cX11_seesOne 0 = .ok (.aload_n 0, 1) := by decide +kernel
theorem dX11_seesOne_1 : decode cX11_seesOne 1 = .ok (.getfield 25, 3) := by decide +kernel
theorem dX11_seesOne_4 : decode cX11_seesOne 4 = .ok (.iload_n 1, 1) := by decide +kernel
theorem dX11_seesOne_5 : decode cX11_seesOne 5 = .ok (.iaload, 1) := by decide +kernel
theorem dX11_seesOne_6 : decode cX11_seesOne 6 = .ok (.ifCond .eq 11, 3) := by decide +kernel
theorem dX11_seesOne_9 : decode cX11_seesOne 9 = .ok (.aload_n 0, 1) := by decide +kernel
theorem dX11_seesOne_10 : decode cX11_seesOne 10 = .ok (.getfield 159, 3) := by decide +kernel
theorem dX11_seesOne_13 : decode cX11_seesOne 13 = .ok (.iconst 1, 1) := by decide +kernel
theorem dX11_seesOne_14 : decode cX11_seesOne 14 = .ok (.if_icmp .ne 5, 3) := by decide +kernel
theorem dX11_seesOne_17 : decode cX11_seesOne 17 = .ok (.iconst 0, 1) := by decide +kernel
theorem dX11_seesOne_18 : decode cX11_seesOne 18 = .ok (.ireturn, 1) := by decide +kernel
theorem dX11_seesOne_19 : decode cX11_seesOne 19 = .ok (.iconst 0, 1) := by decide +kernel
theorem dX11_seesOne_20 : decode cX11_seesOne 20 = .ok (.istore_n 3, 1) := by decide +kernel
theorem dX11_seesOne_21 : decode cX11_seesOne 21 = .ok (.iload_n 3, 1) := by decide +kernel
theorem dX11_seesOne_22 : decode cX11_seesOne 22 = .ok (.aload_n 0, 1) := by decide +kernel
theorem dX11_seesOne_23 : decode cX11_seesOne 23 = .ok (.getfield 138, 3) := by decide +kernel
theorem dX11_seesOne_26 : decode cX11_seesOne 26 = .ok (.if_icmp .ge 36, 3) := by decide +kernel
theorem dX11_seesOne_29 : decode cX11_seesOne 29 = .ok (.iload_n 3, 1) := by decide +kernel
theorem dX11_seesOne_30 : decode cX11_seesOne 30 = .ok (.iload_n 1, 1) := by decide +kernel
theorem dX11_seesOne_31 : decode cX11_seesOne 31 = .ok (.if_icmp .eq 25, 3) := by decide +kernel
theorem dX11_seesOne_34 : decode cX11_seesOne 34 = .ok (.aload_n 0, 1) := by decide +kernel
theorem dX11_seesOne_35 : decode cX11_seesOne 35 = .ok (.iload_n 3, 1) := by decide +kernel
theorem dX11_seesOne_36 : decode cX11_seesOne 36 = .ok (.aload_n 0, 1) := by decide +kernel
theorem dX11_seesOne_37 : decode cX11_seesOne 37 = .ok (.getfield 128, 3) := by decide +kernel
theorem dX11_seesOne_40 : decode cX11_seesOne 40 = .ok (.iload_n 1, 1) := by decide +kernel
theorem dX11_seesOne_41 : decode cX11_seesOne 41 = .ok (.iaload, 1) := by decide +kernel
theorem dX11_seesOne_42 : decode cX11_seesOne 42 = .ok (.bipush 16, 2) := by decide +kernel
theorem dX11_seesOne_44 : decode cX11_seesOne 44 = .ok (.idiv, 1) := by decide +kernel
theorem dX11_seesOne_45 : decode cX11_seesOne 45 = .ok (.iload_n 2, 1) := by decide +kernel
theorem dX11_seesOne_46 : decode cX11_seesOne 46 = .ok (.iconst 1, 1) := by decide +kernel
theorem dX11_seesOne_47 : decode cX11_seesOne 47 = .ok (.isub, 1) := by decide +kernel
theorem dX11_seesOne_48 : decode cX11_seesOne 48 = .ok (.invokevirtual 446, 3) := by decide +kernel
theorem dX11_seesOne_51 : decode cX11_seesOne 51 = .ok (.ifCond .eq 5, 3) := by decide +kernel
theorem dX11_seesOne_54 : decode cX11_seesOne 54 = .ok (.iconst 1, 1) := by decide +kernel
theorem dX11_seesOne_55 : decode cX11_seesOne 55 = .ok (.ireturn, 1) := by decide +kernel
theorem dX11_seesOne_56 : decode cX11_seesOne 56 = .ok (.iinc 3 1, 3) := by decide +kernel
theorem dX11_seesOne_59 : decode cX11_seesOne 59 = .ok (.goto (-38), 3) := by decide +kernel
theorem dX11_seesOne_62 : decode cX11_seesOne 62 = .ok (.iconst 0, 1) := by decide +kernel
theorem dX11_seesOne_63 : decode cX11_seesOne 63 = .ok (.ireturn, 1) := by decide +kernel
theorem dX11_logsAt_0 : decode cX11_logsAt 0 = .ok (.iconst 0, 1) := by decide +kernel
theorem dX11_logsAt_1 : decode cX11_logsAt 1 = .ok (.istore 4, 2) := by decide +kernel
theorem dX11_logsAt_3 : decode cX11_logsAt 3 = .ok (.iload 4, 2) := by decide +kernel
theorem dX11_logsAt_5 : decode cX11_logsAt 5 = .ok (.aload_n 0, 1) := by decide +kernel
theorem dX11_logsAt_6 : decode cX11_logsAt 6 = .ok (.getfield 429, 3) := by decide +kernel
theorem dX11_logsAt_9 : decode cX11_logsAt 9 = .ok (.if_icmp .ge 44, 3) := by decide +kernel
theorem dX11_logsAt_12 : decode cX11_logsAt 12 = .ok (.aload_n 0, 1) := by decide +kernel
theorem dX11_logsAt_13 : decode cX11_logsAt 13 = .ok (.getfield 116, 3) := by decide +kernel
theorem dX11_logsAt_16 : decode cX11_logsAt 16 = .ok (.iload 4, 2) := by decide +kernel
theorem dX11_logsAt_18 : decode cX11_logsAt 18 = .ok (.iaload, 1) := by decide +kernel
theorem dX11_logsAt_19 : decode cX11_logsAt 19 = .ok (.iload_n 1, 1) := by decide +kernel
theorem dX11_logsAt_20 : decode cX11_logsAt 20 = .ok (.if_icmp .ne 27, 3) := by decide +kernel
theorem dX11_logsAt_23 : decode cX11_logsAt 23 = .ok (.aload_n 0, 1) := by decide +kernel
theorem dX11_logsAt_24 : decode cX11_logsAt 24 = .ok (.getfield 119, 3) := by decide +kernel
theorem dX11_logsAt_27 : decode cX11_logsAt 27 = .ok (.iload 4, 2) := by decide +kernel
theorem dX11_logsAt_29 : decode cX11_logsAt 29 = .ok (.iaload, 1) := by decide +kernel
theorem dX11_logsAt_30 : decode cX11_logsAt 30 = .ok (.iload_n 2, 1) := by decide +kernel
theorem dX11_logsAt_31 : decode cX11_logsAt 31 = .ok (.if_icmp .ne 16, 3) := by decide +kernel
theorem dX11_logsAt_34 : decode cX11_logsAt 34 = .ok (.aload_n 0, 1) := by decide +kernel
theorem dX11_logsAt_35 : decode cX11_logsAt 35 = .ok (.getfield 122, 3) := by decide +kernel
theorem dX11_logsAt_38 : decode cX11_logsAt 38 = .ok (.iload 4, 2) := by decide +kernel
theorem dX11_logsAt_40 : decode cX11_logsAt 40 = .ok (.iaload, 1) := by decide +kernel
theorem dX11_logsAt_41 : decode cX11_logsAt 41 = .ok (.iload_n 3, 1) := by decide +kernel
theorem dX11_logsAt_42 : decode cX11_logsAt 42 = .ok (.if_icmp .ne 5, 3) := by decide +kernel
theorem dX11_logsAt_45 : decode cX11_logsAt 45 = .ok (.iconst 1, 1) := by decide +kernel
theorem dX11_logsAt_46 : decode cX11_logsAt 46 = .ok (.ireturn, 1) := by decide +kernel
theorem dX11_logsAt_47 : decode cX11_logsAt 47 = .ok (.iinc 4 1, 3) := by decide +kernel
theorem dX11_logsAt_50 : decode cX11_logsAt 50 = .ok (.goto (-47), 3) := by decide +kernel
theorem dX11_logsAt_53 : decode cX11_logsAt 53 = .ok (.iconst 0, 1) := by decide +kernel
theorem dX11_logsAt_54 : decode cX11_logsAt 54 = .ok (.ireturn, 1) := by decide +kernel
theorem dX11_hunts_0 : decode cX11_hunts 0 = .ok (.aload_n 0, 1) := by decide +kernel
theorem dX11_hunts_1 : decode cX11_hunts 1 = .ok (.getfield 128, 3) := by decide +kernel
theorem dX11_hunts_4 : decode cX11_hunts 4 = .ok (.iload_n 1, 1) := by decide +kernel
theorem dX11_hunts_5 : decode cX11_hunts 5 = .ok (.iaload, 1) := by decide +kernel
theorem dX11_hunts_6 : decode cX11_hunts 6 = .ok (.istore_n 3, 1) := by decide +kernel
theorem dX11_hunts_7 : decode cX11_hunts 7 = .ok (.iload_n 3, 1) := by decide +kernel
theorem dX11_hunts_8 : decode cX11_hunts 8 = .ok (.bipush 80, 2) := by decide +kernel
theorem dX11_hunts_10 : decode cX11_hunts 10 = .ok (.if_icmp .ne 4, 3) := by decide +kernel
theorem dX11_hunts_13 : decode cX11_hunts 13 = .ok (.return_, 1) := by decide +kernel
theorem dX11_hunts_14 : decode cX11_hunts 14 = .ok (.iload_n 3, 1) := by decide +kernel
theorem dX11_hunts_15 : decode cX11_hunts 15 = .ok (.bipush 16, 2) := by decide +kernel
theorem dX11_hunts_17 : decode cX11_hunts 17 = .ok (.idiv, 1) := by decide +kernel
theorem dX11_hunts_18 : decode cX11_hunts 18 = .ok (.istore 4, 2) := by decide +kernel
theorem dX11_hunts_20 : decode cX11_hunts 20 = .ok (.iload_n 3, 1) := by decide +kernel
theorem dX11_hunts_21 : decode cX11_hunts 21 = .ok (.bipush 16, 2) := by decide +kernel
theorem dX11_hunts_23 : decode cX11_hunts 23 = .ok (.irem, 1) := by decide +kernel
theorem dX11_hunts_24 : decode cX11_hunts 24 = .ok (.iconst 5, 1) := by decide +kernel
theorem dX11_hunts_25 : decode cX11_hunts 25 = .ok (.if_icmp .le 41, 3) := by decide +kernel
theorem dX11_hunts_28 : decode cX11_hunts 28 = .ok (.iload_n 3, 1) := by decide +kernel
theorem dX11_hunts_29 : decode cX11_hunts 29 = .ok (.aload_n 0, 1) := by decide +kernel
theorem dX11_hunts_30 : decode cX11_hunts 30 = .ok (.getfield 141, 3) := by decide +kernel
theorem dX11_hunts_33 : decode cX11_hunts 33 = .ok (.invokestatic 292, 3) := by decide +kernel
theorem dX11_hunts_36 : decode cX11_hunts 36 = .ok (.istore 5, 2) := by decide +kernel
theorem dX11_hunts_38 : decode cX11_hunts 38 = .ok (.aload_n 0, 1) := by decide +kernel
theorem dX11_hunts_39 : decode cX11_hunts 39 = .ok (.getfield 128, 3) := by decide +kernel
theorem dX11_hunts_42 : decode cX11_hunts 42 = .ok (.iload_n 1, 1) := by decide +kernel
theorem dX11_hunts_43 : decode cX11_hunts 43 = .ok (.iload 5, 2) := by decide +kernel
theorem dX11_hunts_45 : decode cX11_hunts 45 = .ok (.bipush 16, 2) := by decide +kernel
theorem dX11_hunts_47 : decode cX11_hunts 47 = .ok (.aload_n 0, 1) := by decide +kernel
theorem dX11_hunts_48 : decode cX11_hunts 48 = .ok (.getfield 141, 3) := by decide +kernel
theorem dX11_hunts_51 : decode cX11_hunts 51 = .ok (.imul, 1) := by decide +kernel
theorem dX11_hunts_52 : decode cX11_hunts 52 = .ok (.if_icmp .ne 8, 3) := by decide +kernel
theorem dX11_hunts_55 : decode cX11_hunts 55 = .ok (.bipush 80, 2) := by decide +kernel
theorem dX11_hunts_57 : decode cX11_hunts 57 = .ok (.goto 5, 3) := by decide +kernel
theorem dX11_hunts_60 : decode cX11_hunts 60 = .ok (.iload 5, 2) := by decide +kernel
theorem dX11_hunts_62 : decode cX11_hunts 62 = .ok (.iastore, 1) := by decide +kernel
theorem dX11_hunts_63 : decode cX11_hunts 63 = .ok (.goto 56, 3) := by decide +kernel
theorem dX11_hunts_66 : decode cX11_hunts 66 = .ok (.aload_n 0, 1) := by decide +kernel
theorem dX11_hunts_67 : decode cX11_hunts 67 = .ok (.iload_n 1, 1) := by decide +kernel
theorem dX11_hunts_68 : decode cX11_hunts 68 = .ok (.iload_n 2, 1) := by decide +kernel
theorem dX11_hunts_69 : decode cX11_hunts 69 = .ok (.invokevirtual 449, 3) := by decide +kernel
theorem dX11_hunts_72 : decode cX11_hunts 72 = .ok (.ifCond .eq 35, 3) := by decide +kernel
theorem dX11_hunts_75 : decode cX11_hunts 75 = .ok (.aload_n 0, 1) := by decide +kernel
theorem dX11_hunts_76 : decode cX11_hunts 76 = .ok (.iload_n 1, 1) := by decide +kernel
theorem dX11_hunts_77 : decode cX11_hunts 77 = .ok (.iload 4, 2) := by decide +kernel
theorem dX11_hunts_79 : decode cX11_hunts 79 = .ok (.iload_n 2, 1) := by decide +kernel
theorem dX11_hunts_80 : decode cX11_hunts 80 = .ok (.invokevirtual 436, 3) := by decide +kernel
theorem dX11_hunts_83 : decode cX11_hunts 83 = .ok (.aload_n 0, 1) := by decide +kernel
theorem dX11_hunts_84 : decode cX11_hunts 84 = .ok (.getfield 128, 3) := by decide +kernel
theorem dX11_hunts_87 : decode cX11_hunts 87 = .ok (.iload_n 1, 1) := by decide +kernel
theorem dX11_hunts_88 : decode cX11_hunts 88 = .ok (.aload_n 0, 1) := by decide +kernel
theorem dX11_hunts_89 : decode cX11_hunts 89 = .ok (.iload 4, 2) := by decide +kernel
theorem dX11_hunts_91 : decode cX11_hunts 91 = .ok (.aload_n 0, 1) := by decide +kernel
theorem dX11_hunts_92 : decode cX11_hunts 92 = .ok (.iload_n 1, 1) := by decide +kernel
theorem dX11_hunts_93 : decode cX11_hunts 93 = .ok (.iload 4, 2) := by decide +kernel
theorem dX11_hunts_95 : decode cX11_hunts 95 = .ok (.invokevirtual 169, 3) := by decide +kernel
theorem dX11_hunts_98 : decode cX11_hunts 98 = .ok (.iconst 1, 1) := by decide +kernel
theorem dX11_hunts_99 : decode cX11_hunts 99 = .ok (.isub, 1) := by decide +kernel
theorem dX11_hunts_100 : decode cX11_hunts 100 = .ok (.invokevirtual 380, 3) := by decide +kernel
theorem dX11_hunts_103 : decode cX11_hunts 103 = .ok (.iastore, 1) := by decide +kernel
theorem dX11_hunts_104 : decode cX11_hunts 104 = .ok (.goto 15, 3) := by decide +kernel
theorem dX11_hunts_107 : decode cX11_hunts 107 = .ok (.aload_n 0, 1) := by decide +kernel
theorem dX11_hunts_108 : decode cX11_hunts 108 = .ok (.iload_n 1, 1) := by decide +kernel
theorem dX11_hunts_109 : decode cX11_hunts 109 = .ok (.iload 4, 2) := by decide +kernel
theorem dX11_hunts_111 : decode cX11_hunts 111 = .ok (.iload_n 3, 1) := by decide +kernel
theorem dX11_hunts_112 : decode cX11_hunts 112 = .ok (.bipush 16, 2) := by decide +kernel
theorem dX11_hunts_114 : decode cX11_hunts 114 = .ok (.irem, 1) := by decide +kernel
theorem dX11_hunts_115 : decode cX11_hunts 115 = .ok (.iload_n 2, 1) := by decide +kernel
theorem dX11_hunts_116 : decode cX11_hunts 116 = .ok (.invokevirtual 452, 3) := by decide +kernel
theorem dX11_hunts_119 : decode cX11_hunts 119 = .ok (.aload_n 0, 1) := by decide +kernel
theorem dX11_hunts_120 : decode cX11_hunts 120 = .ok (.getfield 128, 3) := by decide +kernel
theorem dX11_hunts_123 : decode cX11_hunts 123 = .ok (.iload_n 1, 1) := by decide +kernel
theorem dX11_hunts_124 : decode cX11_hunts 124 = .ok (.iaload, 1) := by decide +kernel
theorem dX11_hunts_125 : decode cX11_hunts 125 = .ok (.bipush 80, 2) := by decide +kernel
theorem dX11_hunts_127 : decode cX11_hunts 127 = .ok (.if_icmp .ne 10, 3) := by decide +kernel
theorem dX11_hunts_130 : decode cX11_hunts 130 = .ok (.aload_n 0, 1) := by decide +kernel
theorem dX11_hunts_131 : decode cX11_hunts 131 = .ok (.getfield 125, 3) := by decide +kernel
theorem dX11_hunts_134 : decode cX11_hunts 134 = .ok (.iload_n 1, 1) := by decide +kernel
theorem dX11_hunts_135 : decode cX11_hunts 135 = .ok (.iload_n 2, 1) := by decide +kernel
theorem dX11_hunts_136 : decode cX11_hunts 136 = .ok (.iastore, 1) := by decide +kernel
theorem dX11_hunts_137 : decode cX11_hunts 137 = .ok (.return_, 1) := by decide +kernel
theorem dX11_draws_0 : decode cX11_draws 0 = .ok (.aload_n 0, 1) := by decide +kernel
theorem dX11_draws_1 : decode cX11_draws 1 = .ok (.iload_n 1, 1) := by decide +kernel
theorem dX11_draws_2 : decode cX11_draws 2 = .ok (.aload_n 0, 1) := by decide +kernel
theorem dX11_draws_3 : decode cX11_draws 3 = .ok (.getfield 19, 3) := by decide +kernel
theorem dX11_draws_6 : decode cX11_draws 6 = .ok (.iload_n 1, 1) := by decide +kernel
theorem dX11_draws_7 : decode cX11_draws 7 = .ok (.iaload, 1) := by decide +kernel
theorem dX11_draws_8 : decode cX11_draws 8 = .ok (.iload_n 2, 1) := by decide +kernel
theorem dX11_draws_9 : decode cX11_draws 9 = .ok (.iload_n 3, 1) := by decide +kernel
theorem dX11_draws_10 : decode cX11_draws 10 = .ok (.invokevirtual 288, 3) := by decide +kernel
theorem dX11_draws_13 : decode cX11_draws 13 = .ok (.aload_n 0, 1) := by decide +kernel
theorem dX11_draws_14 : decode cX11_draws 14 = .ok (.sipush 25173, 3) := by decide +kernel
theorem dX11_draws_17 : decode cX11_draws 17 = .ok (.aload_n 0, 1) := by decide +kernel
theorem dX11_draws_18 : decode cX11_draws 18 = .ok (.getfield 135, 3) := by decide +kernel
theorem dX11_draws_21 : decode cX11_draws 21 = .ok (.imul, 1) := by decide +kernel
theorem dX11_draws_22 : decode cX11_draws 22 = .ok (.sipush 13849, 3) := by decide +kernel
theorem dX11_draws_25 : decode cX11_draws 25 = .ok (.iadd, 1) := by decide +kernel
theorem dX11_draws_26 : decode cX11_draws 26 = .ok (.ldc_w 455, 3) := by decide +kernel
theorem dX11_draws_29 : decode cX11_draws 29 = .ok (.irem, 1) := by decide +kernel
theorem dX11_draws_30 : decode cX11_draws 30 = .ok (.putfield 135, 3) := by decide +kernel
theorem dX11_draws_33 : decode cX11_draws 33 = .ok (.aload_n 0, 1) := by decide +kernel
theorem dX11_draws_34 : decode cX11_draws 34 = .ok (.getfield 135, 3) := by decide +kernel
theorem dX11_draws_37 : decode cX11_draws 37 = .ok (.bipush 8, 2) := by decide +kernel
theorem dX11_draws_39 : decode cX11_draws 39 = .ok (.irem, 1) := by decide +kernel
theorem dX11_draws_40 : decode cX11_draws 40 = .ok (.istore 5, 2) := by decide +kernel
theorem dX11_draws_42 : decode cX11_draws 42 = .ok (.iload 5, 2) := by decide +kernel
theorem dX11_draws_44 : decode cX11_draws 44 = .ok (.aload_n 0, 1) := by decide +kernel
theorem dX11_draws_45 : decode cX11_draws 45 = .ok (.getfield 282, 3) := by decide +kernel
theorem dX11_draws_48 : decode cX11_draws 48 = .ok (.if_icmp .ge 33, 3) := by decide +kernel
theorem dX11_draws_51 : decode cX11_draws 51 = .ok (.aload_n 0, 1) := by decide +kernel
theorem dX11_draws_52 : decode cX11_draws 52 = .ok (.iload_n 1, 1) := by decide +kernel
theorem dX11_draws_53 : decode cX11_draws 53 = .ok (.iload_n 2, 1) := by decide +kernel
theorem dX11_draws_54 : decode cX11_draws 54 = .ok (.iload 4, 2) := by decide +kernel
theorem dX11_draws_56 : decode cX11_draws 56 = .ok (.invokevirtual 436, 3) := by decide +kernel
theorem dX11_draws_59 : decode cX11_draws 59 = .ok (.aload_n 0, 1) := by decide +kernel
theorem dX11_draws_60 : decode cX11_draws 60 = .ok (.getfield 128, 3) := by decide +kernel
theorem dX11_draws_63 : decode cX11_draws 63 = .ok (.iload_n 1, 1) := by decide +kernel
theorem dX11_draws_64 : decode cX11_draws 64 = .ok (.bipush 16, 2) := by decide +kernel
theorem dX11_draws_66 : decode cX11_draws 66 = .ok (.iload_n 2, 1) := by decide +kernel
theorem dX11_draws_67 : decode cX11_draws 67 = .ok (.imul, 1) := by decide +kernel
theorem dX11_draws_68 : decode cX11_draws 68 = .ok (.iconst 5, 1) := by decide +kernel
theorem dX11_draws_69 : decode cX11_draws 69 = .ok (.iadd, 1) := by decide +kernel
theorem dX11_draws_70 : decode cX11_draws 70 = .ok (.aload_n 0, 1) := by decide +kernel
theorem dX11_draws_71 : decode cX11_draws 71 = .ok (.iload_n 1, 1) := by decide +kernel
theorem dX11_draws_72 : decode cX11_draws 72 = .ok (.iload_n 2, 1) := by decide +kernel
theorem dX11_draws_73 : decode cX11_draws 73 = .ok (.invokevirtual 169, 3) := by decide +kernel
theorem dX11_draws_76 : decode cX11_draws 76 = .ok (.iadd, 1) := by decide +kernel
theorem dX11_draws_77 : decode cX11_draws 77 = .ok (.iastore, 1) := by decide +kernel
theorem dX11_draws_78 : decode cX11_draws 78 = .ok (.goto 47, 3) := by decide +kernel
theorem dX11_draws_81 : decode cX11_draws 81 = .ok (.aload_n 0, 1) := by decide +kernel
theorem dX11_draws_82 : decode cX11_draws 82 = .ok (.getfield 128, 3) := by decide +kernel
theorem dX11_draws_85 : decode cX11_draws 85 = .ok (.iload_n 1, 1) := by decide +kernel
theorem dX11_draws_86 : decode cX11_draws 86 = .ok (.iload 5, 2) := by decide +kernel
theorem dX11_draws_88 : decode cX11_draws 88 = .ok (.aload_n 0, 1) := by decide +kernel
theorem dX11_draws_89 : decode cX11_draws 89 = .ok (.getfield 282, 3) := by decide +kernel
theorem dX11_draws_92 : decode cX11_draws 92 = .ok (.aload_n 0, 1) := by decide +kernel
theorem dX11_draws_93 : decode cX11_draws 93 = .ok (.getfield 285, 3) := by decide +kernel
theorem dX11_draws_96 : decode cX11_draws 96 = .ok (.iadd, 1) := by decide +kernel
theorem dX11_draws_97 : decode cX11_draws 97 = .ok (.if_icmp .ge 18, 3) := by decide +kernel
theorem dX11_draws_100 : decode cX11_draws 100 = .ok (.bipush 16, 2) := by decide +kernel
theorem dX11_draws_102 : decode cX11_draws 102 = .ok (.iload_n 2, 1) := by decide +kernel
theorem dX11_draws_103 : decode cX11_draws 103 = .ok (.imul, 1) := by decide +kernel
theorem dX11_draws_104 : decode cX11_draws 104 = .ok (.bipush 11, 2) := by decide +kernel
theorem dX11_draws_106 : decode cX11_draws 106 = .ok (.iadd, 1) := by decide +kernel
theorem dX11_draws_107 : decode cX11_draws 107 = .ok (.aload_n 0, 1) := by decide +kernel
theorem dX11_draws_108 : decode cX11_draws 108 = .ok (.getfield 131, 3) := by decide +kernel
theorem dX11_draws_111 : decode cX11_draws 111 = .ok (.iadd, 1) := by decide +kernel
theorem dX11_draws_112 : decode cX11_draws 112 = .ok (.goto 12, 3) := by decide +kernel
theorem dX11_draws_115 : decode cX11_draws 115 = .ok (.bipush 16, 2) := by decide +kernel
theorem dX11_draws_117 : decode cX11_draws 117 = .ok (.iload_n 2, 1) := by decide +kernel
theorem dX11_draws_118 : decode cX11_draws 118 = .ok (.imul, 1) := by decide +kernel
theorem dX11_draws_119 : decode cX11_draws 119 = .ok (.iload_n 3, 1) := by decide +kernel
theorem dX11_draws_120 : decode cX11_draws 120 = .ok (.invokestatic 297, 3) := by decide +kernel
theorem dX11_draws_123 : decode cX11_draws 123 = .ok (.iadd, 1) := by decide +kernel
theorem dX11_draws_124 : decode cX11_draws 124 = .ok (.iastore, 1) := by decide +kernel
theorem dX11_draws_125 : decode cX11_draws 125 = .ok (.return_, 1) := by decide +kernel
theorem dX11_draw_0 : decode cX11_draw 0 = .ok (.aload_n 0, 1) := by decide +kernel
theorem dX11_draw_1 : decode cX11_draw 1 = .ok (.getfield 138, 3) := by decide +kernel
theorem dX11_draw_4 : decode cX11_draw 4 = .ok (.ifCond .eq 10, 3) := by decide +kernel
theorem dX11_draw_7 : decode cX11_draw 7 = .ok (.aload_n 0, 1) := by decide +kernel
theorem dX11_draw_8 : decode cX11_draw 8 = .ok (.getfield 141, 3) := by decide +kernel
theorem dX11_draw_11 : decode cX11_draw 11 = .ok (.ifCond .ne 5, 3) := by decide +kernel
theorem dX11_draw_14 : decode cX11_draw 14 = .ok (.iconst (-1), 1) := by decide +kernel
theorem dX11_draw_15 : decode cX11_draw 15 = .ok (.ireturn, 1) := by decide +kernel
theorem dX11_draw_16 : decode cX11_draw 16 = .ok (.aload_n 0, 1) := by decide +kernel
theorem dX11_draw_17 : decode cX11_draw 17 = .ok (.invokevirtual 155, 3) := by decide +kernel
theorem dX11_draw_20 : decode cX11_draw 20 = .ok (.pop, 1) := by decide +kernel
theorem dX11_draw_21 : decode cX11_draw 21 = .ok (.iconst 0, 1) := by decide +kernel
theorem dX11_draw_22 : decode cX11_draw 22 = .ok (.istore_n 1, 1) := by decide +kernel
theorem dX11_draw_23 : decode cX11_draw 23 = .ok (.iload_n 1, 1) := by decide +kernel
theorem dX11_draw_24 : decode cX11_draw 24 = .ok (.aload_n 0, 1) := by decide +kernel
theorem dX11_draw_25 : decode cX11_draw 25 = .ok (.getfield 138, 3) := by decide +kernel
theorem dX11_draw_28 : decode cX11_draw 28 = .ok (.if_icmp .ge 23, 3) := by decide +kernel
theorem dX11_draw_31 : decode cX11_draw 31 = .ok (.aload_n 0, 1) := by decide +kernel
theorem dX11_draw_32 : decode cX11_draw 32 = .ok (.getfield 128, 3) := by decide +kernel
theorem dX11_draw_35 : decode cX11_draw 35 = .ok (.iload_n 1, 1) := by decide +kernel
theorem dX11_draw_36 : decode cX11_draw 36 = .ok (.iconst 0, 1) := by decide +kernel
theorem dX11_draw_37 : decode cX11_draw 37 = .ok (.iastore, 1) := by decide +kernel
theorem dX11_draw_38 : decode cX11_draw 38 = .ok (.aload_n 0, 1) := by decide +kernel
theorem dX11_draw_39 : decode cX11_draw 39 = .ok (.getfield 125, 3) := by decide +kernel
theorem dX11_draw_42 : decode cX11_draw 42 = .ok (.iload_n 1, 1) := by decide +kernel
theorem dX11_draw_43 : decode cX11_draw 43 = .ok (.iconst 0, 1) := by decide +kernel
theorem dX11_draw_44 : decode cX11_draw 44 = .ok (.iastore, 1) := by decide +kernel
theorem dX11_draw_45 : decode cX11_draw 45 = .ok (.iinc 1 1, 3) := by decide +kernel
theorem dX11_draw_48 : decode cX11_draw 48 = .ok (.goto (-25), 3) := by decide +kernel
theorem dX11_draw_51 : decode cX11_draw 51 = .ok (.iconst 1, 1) := by decide +kernel
theorem dX11_draw_52 : decode cX11_draw 52 = .ok (.istore_n 1, 1) := by decide +kernel
theorem dX11_draw_53 : decode cX11_draw 53 = .ok (.iload_n 1, 1) := by decide +kernel
theorem dX11_draw_54 : decode cX11_draw 54 = .ok (.bipush 10, 2) := by decide +kernel
theorem dX11_draw_56 : decode cX11_draw 56 = .ok (.if_icmp .gt 31, 3) := by decide +kernel
theorem dX11_draw_59 : decode cX11_draw 59 = .ok (.iconst 0, 1) := by decide +kernel
theorem dX11_draw_60 : decode cX11_draw 60 = .ok (.istore_n 2, 1) := by decide +kernel
theorem dX11_draw_61 : decode cX11_draw 61 = .ok (.iload_n 2, 1) := by decide +kernel
theorem dX11_draw_62 : decode cX11_draw 62 = .ok (.aload_n 0, 1) := by decide +kernel
theorem dX11_draw_63 : decode cX11_draw 63 = .ok (.getfield 138, 3) := by decide +kernel
theorem dX11_draw_66 : decode cX11_draw 66 = .ok (.if_icmp .ge 15, 3) := by decide +kernel
theorem dX11_draw_69 : decode cX11_draw 69 = .ok (.aload_n 0, 1) := by decide +kernel
theorem dX11_draw_70 : decode cX11_draw 70 = .ok (.iload_n 2, 1) := by decide +kernel
theorem dX11_draw_71 : decode cX11_draw 71 = .ok (.iload_n 1, 1) := by decide +kernel
theorem dX11_draw_72 : decode cX11_draw 72 = .ok (.invokevirtual 456, 3) := by decide +kernel
theorem dX11_draw_75 : decode cX11_draw 75 = .ok (.iinc 2 1, 3) := by decide +kernel
theorem dX11_draw_78 : decode cX11_draw 78 = .ok (.goto (-17), 3) := by decide +kernel
theorem dX11_draw_81 : decode cX11_draw 81 = .ok (.iinc 1 1, 3) := by decide +kernel
theorem dX11_draw_84 : decode cX11_draw 84 = .ok (.goto (-31), 3) := by decide +kernel
theorem dX11_draw_87 : decode cX11_draw 87 = .ok (.aload_n 0, 1) := by decide +kernel
theorem dX11_draw_88 : decode cX11_draw 88 = .ok (.iconst 1, 1) := by decide +kernel
theorem dX11_draw_89 : decode cX11_draw 89 = .ok (.putfield 432, 3) := by decide +kernel
theorem dX11_draw_92 : decode cX11_draw 92 = .ok (.iconst 0, 1) := by decide +kernel
theorem dX11_draw_93 : decode cX11_draw 93 = .ok (.istore_n 1, 1) := by decide +kernel
theorem dX11_draw_94 : decode cX11_draw 94 = .ok (.iconst 0, 1) := by decide +kernel
theorem dX11_draw_95 : decode cX11_draw 95 = .ok (.istore_n 2, 1) := by decide +kernel
theorem dX11_draw_96 : decode cX11_draw 96 = .ok (.iload_n 2, 1) := by decide +kernel
theorem dX11_draw_97 : decode cX11_draw 97 = .ok (.aload_n 0, 1) := by decide +kernel
theorem dX11_draw_98 : decode cX11_draw 98 = .ok (.getfield 138, 3) := by decide +kernel
theorem dX11_draw_101 : decode cX11_draw 101 = .ok (.if_icmp .ge 26, 3) := by decide +kernel
theorem dX11_draw_104 : decode cX11_draw 104 = .ok (.iload_n 1, 1) := by decide +kernel
theorem dX11_draw_105 : decode cX11_draw 105 = .ok (.aload_n 0, 1) := by decide +kernel
theorem dX11_draw_106 : decode cX11_draw 106 = .ok (.getfield 125, 3) := by decide +kernel
theorem dX11_draw_109 : decode cX11_draw 109 = .ok (.iload_n 2, 1) := by decide +kernel
theorem dX11_draw_110 : decode cX11_draw 110 = .ok (.iaload, 1) := by decide +kernel
theorem dX11_draw_111 : decode cX11_draw 111 = .ok (.ifCond .le 7, 3) := by decide +kernel
theorem dX11_draw_114 : decode cX11_draw 114 = .ok (.iconst 1, 1) := by decide +kernel
theorem dX11_draw_115 : decode cX11_draw 115 = .ok (.goto 4, 3) := by decide +kernel
theorem dX11_draw_118 : decode cX11_draw 118 = .ok (.iconst 0, 1) := by decide +kernel
theorem dX11_draw_119 : decode cX11_draw 119 = .ok (.iadd, 1) := by decide +kernel
theorem dX11_draw_120 : decode cX11_draw 120 = .ok (.istore_n 1, 1) := by decide +kernel
theorem dX11_draw_121 : decode cX11_draw 121 = .ok (.iinc 2 1, 3) := by decide +kernel
theorem dX11_draw_124 : decode cX11_draw 124 = .ok (.goto (-28), 3) := by decide +kernel
theorem dX11_draw_127 : decode cX11_draw 127 = .ok (.iload_n 1, 1) := by decide +kernel
theorem dX11_draw_128 : decode cX11_draw 128 = .ok (.ireturn, 1) := by decide +kernel
theorem dX11_had_0 : decode cX11_had 0 = .ok (.aload_n 0, 1) := by decide +kernel
theorem dX11_had_1 : decode cX11_had 1 = .ok (.iload_n 1, 1) := by decide +kernel
theorem dX11_had_2 : decode cX11_had 2 = .ok (.invokevirtual 144, 3) := by decide +kernel
theorem dX11_had_5 : decode cX11_had 5 = .ok (.ifCond .eq 19, 3) := by decide +kernel
theorem dX11_had_8 : decode cX11_had 8 = .ok (.aload_n 0, 1) := by decide +kernel
theorem dX11_had_9 : decode cX11_had 9 = .ok (.getfield 432, 3) := by decide +kernel
theorem dX11_had_12 : decode cX11_had 12 = .ok (.ifCond .eq 12, 3) := by decide +kernel
theorem dX11_had_15 : decode cX11_had 15 = .ok (.aload_n 0, 1) := by decide +kernel
theorem dX11_had_16 : decode cX11_had 16 = .ok (.getfield 125, 3) := by decide +kernel
theorem dX11_had_19 : decode cX11_had 19 = .ok (.iload_n 1, 1) := by decide +kernel
theorem dX11_had_20 : decode cX11_had 20 = .ok (.iaload, 1) := by decide +kernel
theorem dX11_had_21 : decode cX11_had 21 = .ok (.goto 4, 3) := by decide +kernel
theorem dX11_had_24 : decode cX11_had 24 = .ok (.iconst (-1), 1) := by decide +kernel
theorem dX11_had_25 : decode cX11_had 25 = .ok (.ireturn, 1) := by decide +kernel
theorem dX11_tapeNumber_0 : decode cX11_tapeNumber 0 = .ok (.iconst 0, 1) := by decide +kernel
theorem dX11_tapeNumber_1 : decode cX11_tapeNumber 1 = .ok (.istore_n 2, 1) := by decide +kernel
theorem dX11_tapeNumber_2 : decode cX11_tapeNumber 2 = .ok (.iconst 4, 1) := by decide +kernel
theorem dX11_tapeNumber_3 : decode cX11_tapeNumber 3 = .ok (.iload_n 1, 1) := by decide +kernel
theorem dX11_tapeNumber_4 : decode cX11_tapeNumber 4 = .ok (.imul, 1) := by decide +kernel
theorem dX11_tapeNumber_5 : decode cX11_tapeNumber 5 = .ok (.istore_n 3, 1) := by decide +kernel
theorem dX11_tapeNumber_6 : decode cX11_tapeNumber 6 = .ok (.iload_n 3, 1) := by decide +kernel
theorem dX11_tapeNumber_7 : decode cX11_tapeNumber 7 = .ok (.iconst 4, 1) := by decide +kernel
theorem dX11_tapeNumber_8 : decode cX11_tapeNumber 8 = .ok (.iload_n 1, 1) := by decide +kernel
theorem dX11_tapeNumber_9 : decode cX11_tapeNumber 9 = .ok (.imul, 1) := by decide +kernel
theorem dX11_tapeNumber_10 : decode cX11_tapeNumber 10 = .ok (.iconst 4, 1) := by decide +kernel
theorem dX11_tapeNumber_11 : decode cX11_tapeNumber 11 = .ok (.iadd, 1) := by decide +kernel
theorem dX11_tapeNumber_12 : decode cX11_tapeNumber 12 = .ok (.if_icmp .ge 25, 3) := by decide +kernel
theorem dX11_tapeNumber_15 : decode cX11_tapeNumber 15 = .ok (.iload_n 2, 1) := by decide +kernel
theorem dX11_tapeNumber_16 : decode cX11_tapeNumber 16 = .ok (.bipush 8, 2) := by decide +kernel
theorem dX11_tapeNumber_18 : decode cX11_tapeNumber 18 = .ok (.ishl, 1) := by decide +kernel
theorem dX11_tapeNumber_19 : decode cX11_tapeNumber 19 = .ok (.aload_n 0, 1) := by decide +kernel
theorem dX11_tapeNumber_20 : decode cX11_tapeNumber 20 = .ok (.getfield 28, 3) := by decide +kernel
theorem dX11_tapeNumber_23 : decode cX11_tapeNumber 23 = .ok (.iload_n 3, 1) := by decide +kernel
theorem dX11_tapeNumber_24 : decode cX11_tapeNumber 24 = .ok (.baload, 1) := by decide +kernel
theorem dX11_tapeNumber_25 : decode cX11_tapeNumber 25 = .ok (.sipush 255, 3) := by decide +kernel
theorem dX11_tapeNumber_28 : decode cX11_tapeNumber 28 = .ok (.iand, 1) := by decide +kernel
theorem dX11_tapeNumber_29 : decode cX11_tapeNumber 29 = .ok (.ior, 1) := by decide +kernel
theorem dX11_tapeNumber_30 : decode cX11_tapeNumber 30 = .ok (.istore_n 2, 1) := by decide +kernel
theorem dX11_tapeNumber_31 : decode cX11_tapeNumber 31 = .ok (.iinc 3 1, 3) := by decide +kernel
theorem dX11_tapeNumber_34 : decode cX11_tapeNumber 34 = .ok (.goto (-28), 3) := by decide +kernel
theorem dX11_tapeNumber_37 : decode cX11_tapeNumber 37 = .ok (.iload_n 2, 1) := by decide +kernel
theorem dX11_tapeNumber_38 : decode cX11_tapeNumber 38 = .ok (.ireturn, 1) := by decide +kernel
theorem dX11_check_0 : decode cX11_check 0 = .ok (.iload_n 1, 1) := by decide +kernel
theorem dX11_check_1 : decode cX11_check 1 = .ok (.ifCond .lt 14, 3) := by decide +kernel
theorem dX11_check_4 : decode cX11_check 4 = .ok (.iload_n 1, 1) := by decide +kernel
theorem dX11_check_5 : decode cX11_check 5 = .ok (.aload_n 0, 1) := by decide +kernel
theorem dX11_check_6 : decode cX11_check 6 = .ok (.getfield 172, 3) := by decide +kernel
theorem dX11_check_9 : decode cX11_check 9 = .ok (.bipush 12, 2) := by decide +kernel
theorem dX11_check_11 : decode cX11_check 11 = .ok (.idiv, 1) := by decide +kernel
theorem dX11_check_12 : decode cX11_check 12 = .ok (.if_icmp .le 6, 3) := by decide +kernel
theorem dX11_check_15 : decode cX11_check 15 = .ok (.bipush (-2), 2) := by decide +kernel
theorem dX11_check_17 : decode cX11_check 17 = .ok (.ireturn, 1) := by decide +kernel
theorem dX11_check_18 : decode cX11_check 18 = .ok (.aload_n 0, 1) := by decide +kernel
theorem dX11_check_19 : decode cX11_check 19 = .ok (.iconst 0, 1) := by decide +kernel
theorem dX11_check_20 : decode cX11_check 20 = .ok (.putfield 172, 3) := by decide +kernel
theorem dX11_check_23 : decode cX11_check 23 = .ok (.iconst 0, 1) := by decide +kernel
theorem dX11_check_24 : decode cX11_check 24 = .ok (.istore_n 2, 1) := by decide +kernel
theorem dX11_check_25 : decode cX11_check 25 = .ok (.iload_n 2, 1) := by decide +kernel
theorem dX11_check_26 : decode cX11_check 26 = .ok (.aload_n 0, 1) := by decide +kernel
theorem dX11_check_27 : decode cX11_check 27 = .ok (.getfield 429, 3) := by decide +kernel
theorem dX11_check_30 : decode cX11_check 30 = .ok (.if_icmp .ge 82, 3) := by decide +kernel
theorem dX11_check_33 : decode cX11_check 33 = .ok (.iload_n 2, 1) := by decide +kernel
theorem dX11_check_34 : decode cX11_check 34 = .ok (.iload_n 1, 1) := by decide +kernel
theorem dX11_check_35 : decode cX11_check 35 = .ok (.if_icmp .eq 19, 3) := by decide +kernel
theorem dX11_check_38 : decode cX11_check 38 = .ok (.aload_n 0, 1) := by decide +kernel
theorem dX11_check_39 : decode cX11_check 39 = .ok (.iconst 3, 1) := by decide +kernel
theorem dX11_check_40 : decode cX11_check 40 = .ok (.iload_n 2, 1) := by decide +kernel
theorem dX11_check_41 : decode cX11_check 41 = .ok (.imul, 1) := by decide +kernel
theorem dX11_check_42 : decode cX11_check 42 = .ok (.invokevirtual 459, 3) := by decide +kernel
theorem dX11_check_45 : decode cX11_check 45 = .ok (.aload_n 0, 1) := by decide +kernel
theorem dX11_check_46 : decode cX11_check 46 = .ok (.getfield 116, 3) := by decide +kernel
theorem dX11_check_49 : decode cX11_check 49 = .ok (.iload_n 2, 1) := by decide +kernel
theorem dX11_check_50 : decode cX11_check 50 = .ok (.iaload, 1) := by decide +kernel
theorem dX11_check_51 : decode cX11_check 51 = .ok (.if_icmp .eq 7, 3) := by decide +kernel
theorem dX11_check_54 : decode cX11_check 54 = .ok (.iconst 3, 1) := by decide +kernel
theorem dX11_check_55 : decode cX11_check 55 = .ok (.iload_n 2, 1) := by decide +kernel
theorem dX11_check_56 : decode cX11_check 56 = .ok (.imul, 1) := by decide +kernel
theorem dX11_check_57 : decode cX11_check 57 = .ok (.ireturn, 1) := by decide +kernel
theorem dX11_check_58 : decode cX11_check 58 = .ok (.aload_n 0, 1) := by decide +kernel
theorem dX11_check_59 : decode cX11_check 59 = .ok (.iconst 3, 1) := by decide +kernel
theorem dX11_check_60 : decode cX11_check 60 = .ok (.iload_n 2, 1) := by decide +kernel
theorem dX11_check_61 : decode cX11_check 61 = .ok (.imul, 1) := by decide +kernel
theorem dX11_check_62 : decode cX11_check 62 = .ok (.iconst 1, 1) := by decide +kernel
theorem dX11_check_63 : decode cX11_check 63 = .ok (.iadd, 1) := by decide +kernel
theorem dX11_check_64 : decode cX11_check 64 = .ok (.invokevirtual 459, 3) := by decide +kernel
theorem dX11_check_67 : decode cX11_check 67 = .ok (.aload_n 0, 1) := by decide +kernel
theorem dX11_check_68 : decode cX11_check 68 = .ok (.getfield 119, 3) := by decide +kernel
theorem dX11_check_71 : decode cX11_check 71 = .ok (.iload_n 2, 1) := by decide +kernel
theorem dX11_check_72 : decode cX11_check 72 = .ok (.iaload, 1) := by decide +kernel
theorem dX11_check_73 : decode cX11_check 73 = .ok (.if_icmp .eq 9, 3) := by decide +kernel
theorem dX11_check_76 : decode cX11_check 76 = .ok (.iconst 3, 1) := by decide +kernel
theorem dX11_check_77 : decode cX11_check 77 = .ok (.iload_n 2, 1) := by decide +kernel
theorem dX11_check_78 : decode cX11_check 78 = .ok (.imul, 1) := by decide +kernel
theorem dX11_check_79 : decode cX11_check 79 = .ok (.iconst 1, 1) := by decide +kernel
theorem dX11_check_80 : decode cX11_check 80 = .ok (.iadd, 1) := by decide +kernel
theorem dX11_check_81 : decode cX11_check 81 = .ok (.ireturn, 1) := by decide +kernel
theorem dX11_check_82 : decode cX11_check 82 = .ok (.aload_n 0, 1) := by decide +kernel
theorem dX11_check_83 : decode cX11_check 83 = .ok (.iconst 3, 1) := by decide +kernel
theorem dX11_check_84 : decode cX11_check 84 = .ok (.iload_n 2, 1) := by decide +kernel
theorem dX11_check_85 : decode cX11_check 85 = .ok (.imul, 1) := by decide +kernel
theorem dX11_check_86 : decode cX11_check 86 = .ok (.iconst 2, 1) := by decide +kernel
theorem dX11_check_87 : decode cX11_check 87 = .ok (.iadd, 1) := by decide +kernel
theorem dX11_check_88 : decode cX11_check 88 = .ok (.invokevirtual 459, 3) := by decide +kernel
theorem dX11_check_91 : decode cX11_check 91 = .ok (.aload_n 0, 1) := by decide +kernel
theorem dX11_check_92 : decode cX11_check 92 = .ok (.getfield 122, 3) := by decide +kernel
theorem dX11_check_95 : decode cX11_check 95 = .ok (.iload_n 2, 1) := by decide +kernel
theorem dX11_check_96 : decode cX11_check 96 = .ok (.iaload, 1) := by decide +kernel
theorem dX11_check_97 : decode cX11_check 97 = .ok (.if_icmp .eq 9, 3) := by decide +kernel
theorem dX11_check_100 : decode cX11_check 100 = .ok (.iconst 3, 1) := by decide +kernel
theorem dX11_check_101 : decode cX11_check 101 = .ok (.iload_n 2, 1) := by decide +kernel
theorem dX11_check_102 : decode cX11_check 102 = .ok (.imul, 1) := by decide +kernel
theorem dX11_check_103 : decode cX11_check 103 = .ok (.iconst 2, 1) := by decide +kernel
theorem dX11_check_104 : decode cX11_check 104 = .ok (.iadd, 1) := by decide +kernel
theorem dX11_check_105 : decode cX11_check 105 = .ok (.ireturn, 1) := by decide +kernel
theorem dX11_check_106 : decode cX11_check 106 = .ok (.iinc 2 1, 3) := by decide +kernel
theorem dX11_check_109 : decode cX11_check 109 = .ok (.goto (-84), 3) := by decide +kernel
theorem dX11_check_112 : decode cX11_check 112 = .ok (.aload_n 0, 1) := by decide +kernel
theorem dX11_check_113 : decode cX11_check 113 = .ok (.getfield 429, 3) := by decide +kernel
theorem dX11_check_116 : decode cX11_check 116 = .ok (.iload_n 1, 1) := by decide +kernel
theorem dX11_check_117 : decode cX11_check 117 = .ok (.if_icmp .ge 12, 3) := by decide +kernel
theorem dX11_check_120 : decode cX11_check 120 = .ok (.iconst 3, 1) := by decide +kernel
theorem dX11_check_121 : decode cX11_check 121 = .ok (.aload_n 0, 1) := by decide +kernel
theorem dX11_check_122 : decode cX11_check 122 = .ok (.getfield 429, 3) := by decide +kernel
theorem dX11_check_125 : decode cX11_check 125 = .ok (.imul, 1) := by decide +kernel
theorem dX11_check_126 : decode cX11_check 126 = .ok (.goto 4, 3) := by decide +kernel
theorem dX11_check_129 : decode cX11_check 129 = .ok (.iconst (-1), 1) := by decide +kernel
theorem dX11_check_130 : decode cX11_check 130 = .ok (.ireturn, 1) := by decide +kernel
theorem dX11_count_0 : decode cX11_count 0 = .ok (.iload_n 1, 1) := by decide +kernel
theorem dX11_count_1 : decode cX11_count 1 = .ok (.tableswitch 96 0 8 #[51, 56, 61, 66, 71, 76, 81, 86, 91], 51) := by decide +kernel
theorem dX11_count_52 : decode cX11_count 52 = .ok (.aload_n 0, 1) := by decide +kernel
theorem dX11_count_53 : decode cX11_count 53 = .ok (.getfield 141, 3) := by decide +kernel
theorem dX11_count_56 : decode cX11_count 56 = .ok (.ireturn, 1) := by decide +kernel
theorem dX11_count_57 : decode cX11_count 57 = .ok (.aload_n 0, 1) := by decide +kernel
theorem dX11_count_58 : decode cX11_count 58 = .ok (.getfield 138, 3) := by decide +kernel
theorem dX11_count_61 : decode cX11_count 61 = .ok (.ireturn, 1) := by decide +kernel
theorem dX11_count_62 : decode cX11_count 62 = .ok (.aload_n 0, 1) := by decide +kernel
theorem dX11_count_63 : decode cX11_count 63 = .ok (.getfield 269, 3) := by decide +kernel
theorem dX11_count_66 : decode cX11_count 66 = .ok (.ireturn, 1) := by decide +kernel
theorem dX11_count_67 : decode cX11_count 67 = .ok (.aload_n 0, 1) := by decide +kernel
theorem dX11_count_68 : decode cX11_count 68 = .ok (.getfield 172, 3) := by decide +kernel
theorem dX11_count_71 : decode cX11_count 71 = .ok (.ireturn, 1) := by decide +kernel
theorem dX11_count_72 : decode cX11_count 72 = .ok (.aload_n 0, 1) := by decide +kernel
theorem dX11_count_73 : decode cX11_count 73 = .ok (.getfield 152, 3) := by decide +kernel
theorem dX11_count_76 : decode cX11_count 76 = .ok (.ireturn, 1) := by decide +kernel
theorem dX11_count_77 : decode cX11_count 77 = .ok (.aload_n 0, 1) := by decide +kernel
theorem dX11_count_78 : decode cX11_count 78 = .ok (.getfield 429, 3) := by decide +kernel
theorem dX11_count_81 : decode cX11_count 81 = .ok (.ireturn, 1) := by decide +kernel
theorem dX11_count_82 : decode cX11_count 82 = .ok (.aload_n 0, 1) := by decide +kernel
theorem dX11_count_83 : decode cX11_count 83 = .ok (.getfield 135, 3) := by decide +kernel
theorem dX11_count_86 : decode cX11_count 86 = .ok (.ireturn, 1) := by decide +kernel
theorem dX11_count_87 : decode cX11_count 87 = .ok (.aload_n 0, 1) := by decide +kernel
theorem dX11_count_88 : decode cX11_count 88 = .ok (.getfield 131, 3) := by decide +kernel
theorem dX11_count_91 : decode cX11_count 91 = .ok (.ireturn, 1) := by decide +kernel
theorem dX11_count_92 : decode cX11_count 92 = .ok (.aload_n 0, 1) := by decide +kernel
theorem dX11_count_93 : decode cX11_count 93 = .ok (.getfield 159, 3) := by decide +kernel
theorem dX11_count_96 : decode cX11_count 96 = .ok (.ireturn, 1) := by decide +kernel
theorem dX11_count_97 : decode cX11_count 97 = .ok (.iconst (-1), 1) := by decide +kernel
theorem dX11_count_98 : decode cX11_count 98 = .ok (.ireturn, 1) := by decide +kernel
theorem dJ9_abs_0f7a4_0 : decode cJ9_abs_0f7a4 0 = .ok (.iload_n 0, 1) := by decide +kernel
theorem dJ9_abs_0f7a4_1 : decode cJ9_abs_0f7a4 1 = .ok (.ifCond .ge 8, 3) := by decide +kernel
theorem dJ9_abs_0f7a4_4 : decode cJ9_abs_0f7a4 4 = .ok (.iload_n 0, 1) := by decide +kernel
theorem dJ9_abs_0f7a4_5 : decode cJ9_abs_0f7a4 5 = .ok (.ineg, 1) := by decide +kernel
theorem dJ9_abs_0f7a4_6 : decode cJ9_abs_0f7a4 6 = .ok (.goto 4, 3) := by decide +kernel
theorem dJ9_abs_0f7a4_9 : decode cJ9_abs_0f7a4 9 = .ok (.iload_n 0, 1) := by decide +kernel
theorem dJ9_abs_0f7a4_10 : decode cJ9_abs_0f7a4 10 = .ok (.ireturn, 1) := by decide +kernel
theorem dJ9_max_7cf53_0 : decode cJ9_max_7cf53 0 = .ok (.iload_n 0, 1) := by decide +kernel
theorem dJ9_max_7cf53_1 : decode cJ9_max_7cf53 1 = .ok (.iload_n 1, 1) := by decide +kernel
theorem dJ9_max_7cf53_2 : decode cJ9_max_7cf53 2 = .ok (.if_icmp .lt 7, 3) := by decide +kernel
theorem dJ9_max_7cf53_5 : decode cJ9_max_7cf53 5 = .ok (.iload_n 0, 1) := by decide +kernel
theorem dJ9_max_7cf53_6 : decode cJ9_max_7cf53 6 = .ok (.goto 4, 3) := by decide +kernel
theorem dJ9_max_7cf53_9 : decode cJ9_max_7cf53 9 = .ok (.iload_n 1, 1) := by decide +kernel
theorem dJ9_max_7cf53_10 : decode cJ9_max_7cf53 10 = .ok (.ireturn, 1) := by decide +kernel
theorem dJ9_max_f86c9_0 : decode cJ9_max_f86c9 0 = .ok (.lload_n 0, 1) := by decide +kernel
theorem dJ9_max_f86c9_1 : decode cJ9_max_f86c9 1 = .ok (.lload_n 2, 1) := by decide +kernel
theorem dJ9_max_f86c9_2 : decode cJ9_max_f86c9 2 = .ok (.lcmp, 1) := by decide +kernel
theorem dJ9_max_f86c9_3 : decode cJ9_max_f86c9 3 = .ok (.ifCond .lt 7, 3) := by decide +kernel
theorem dJ9_max_f86c9_6 : decode cJ9_max_f86c9 6 = .ok (.lload_n 0, 1) := by decide +kernel
theorem dJ9_max_f86c9_7 : decode cJ9_max_f86c9 7 = .ok (.goto 4, 3) := by decide +kernel
theorem dJ9_max_f86c9_10 : decode cJ9_max_f86c9 10 = .ok (.lload_n 2, 1) := by decide +kernel
theorem dJ9_max_f86c9_11 : decode cJ9_max_f86c9 11 = .ok (.lreturn, 1) := by decide +kernel
theorem dJ9_min_7cf53_0 : decode cJ9_min_7cf53 0 = .ok (.iload_n 0, 1) := by decide +kernel
theorem dJ9_min_7cf53_1 : decode cJ9_min_7cf53 1 = .ok (.iload_n 1, 1) := by decide +kernel
theorem dJ9_min_7cf53_2 : decode cJ9_min_7cf53 2 = .ok (.if_icmp .gt 7, 3) := by decide +kernel
theorem dJ9_min_7cf53_5 : decode cJ9_min_7cf53 5 = .ok (.iload_n 0, 1) := by decide +kernel
theorem dJ9_min_7cf53_6 : decode cJ9_min_7cf53 6 = .ok (.goto 4, 3) := by decide +kernel
theorem dJ9_min_7cf53_9 : decode cJ9_min_7cf53 9 = .ok (.iload_n 1, 1) := by decide +kernel
theorem dJ9_min_7cf53_10 : decode cJ9_min_7cf53 10 = .ok (.ireturn, 1) := by decide +kernel
theorem dL_law_0 : decode cL_law 0 = .ok (.new 7, 3) := by decide +kernel
theorem dL_law_3 : decode cL_law 3 = .ok (.dup, 1) := by decide +kernel
theorem dL_law_4 : decode cL_law 4 = .ok (.invokespecial 9, 3) := by decide +kernel
theorem dL_law_7 : decode cL_law 7 = .ok (.astore_n 1, 1) := by decide +kernel
theorem dL_law_8 : decode cL_law 8 = .ok (.new 10, 3) := by decide +kernel
theorem dL_law_11 : decode cL_law 11 = .ok (.dup, 1) := by decide +kernel
theorem dL_law_12 : decode cL_law 12 = .ok (.invokespecial 12, 3) := by decide +kernel
theorem dL_law_15 : decode cL_law 15 = .ok (.astore_n 2, 1) := by decide +kernel
theorem dL_law_16 : decode cL_law 16 = .ok (.iconst 0, 1) := by decide +kernel
theorem dL_law_17 : decode cL_law 17 = .ok (.istore_n 3, 1) := by decide +kernel
theorem dL_law_18 : decode cL_law 18 = .ok (.iload_n 3, 1) := by decide +kernel
theorem dL_law_19 : decode cL_law 19 = .ok (.aload_n 0, 1) := by decide +kernel
theorem dL_law_20 : decode cL_law 20 = .ok (.arraylength, 1) := by decide +kernel
theorem dL_law_21 : decode cL_law 21 = .ok (.bipush 8, 2) := by decide +kernel
theorem dL_law_23 : decode cL_law 23 = .ok (.isub, 1) := by decide +kernel
theorem dL_law_24 : decode cL_law 24 = .ok (.if_icmp .gt 1170, 3) := by decide +kernel
theorem dL_law_27 : decode cL_law 27 = .ok (.aload_n 0, 1) := by decide +kernel
theorem dL_law_28 : decode cL_law 28 = .ok (.iload_n 3, 1) := by decide +kernel
theorem dL_law_29 : decode cL_law 29 = .ok (.iaload, 1) := by decide +kernel
theorem dL_law_30 : decode cL_law 30 = .ok (.bipush 31, 2) := by decide +kernel
theorem dL_law_32 : decode cL_law 32 = .ok (.iand, 1) := by decide +kernel
theorem dL_law_33 : decode cL_law 33 = .ok (.tableswitch 1155 0 26 #[123, 166, 209, 242, 305, 328, 381, 414, 458, 502, 546, 600, 633, 721, 765, 828, 841, 874, 918, 961, 994, 1037, 1060, 1073, 1096, 1109, 1132], 123) := by decide +kernel
theorem dL_law_156 : decode cL_law 156 = .ok (.aload_n 1, 1) := by decide +kernel
theorem dL_law_157 : decode cL_law 157 = .ok (.aload_n 0, 1) := by decide +kernel
theorem dL_law_158 : decode cL_law 158 = .ok (.iload_n 3, 1) := by decide +kernel
theorem dL_law_159 : decode cL_law 159 = .ok (.iconst 1, 1) := by decide +kernel
theorem dL_law_160 : decode cL_law 160 = .ok (.iadd, 1) := by decide +kernel
theorem dL_law_161 : decode cL_law 161 = .ok (.iaload, 1) := by decide +kernel
theorem dL_law_162 : decode cL_law 162 = .ok (.aload_n 0, 1) := by decide +kernel
theorem dL_law_163 : decode cL_law 163 = .ok (.iload_n 3, 1) := by decide +kernel
theorem dL_law_164 : decode cL_law 164 = .ok (.iconst 2, 1) := by decide +kernel
theorem dL_law_165 : decode cL_law 165 = .ok (.iadd, 1) := by decide +kernel
theorem dL_law_166 : decode cL_law 166 = .ok (.iaload, 1) := by decide +kernel
theorem dL_law_167 : decode cL_law 167 = .ok (.aload_n 0, 1) := by decide +kernel
theorem dL_law_168 : decode cL_law 168 = .ok (.iload_n 3, 1) := by decide +kernel
theorem dL_law_169 : decode cL_law 169 = .ok (.iconst 3, 1) := by decide +kernel
theorem dL_law_170 : decode cL_law 170 = .ok (.iadd, 1) := by decide +kernel
theorem dL_law_171 : decode cL_law 171 = .ok (.iaload, 1) := by decide +kernel
theorem dL_law_172 : decode cL_law 172 = .ok (.invokevirtual 13, 3) := by decide +kernel
theorem dL_law_175 : decode cL_law 175 = .ok (.aload_n 2, 1) := by decide +kernel
theorem dL_law_176 : decode cL_law 176 = .ok (.aload_n 0, 1) := by decide +kernel
theorem dL_law_177 : decode cL_law 177 = .ok (.iload_n 3, 1) := by decide +kernel
theorem dL_law_178 : decode cL_law 178 = .ok (.iconst 1, 1) := by decide +kernel
theorem dL_law_179 : decode cL_law 179 = .ok (.iadd, 1) := by decide +kernel
theorem dL_law_180 : decode cL_law 180 = .ok (.iaload, 1) := by decide +kernel
theorem dL_law_181 : decode cL_law 181 = .ok (.aload_n 0, 1) := by decide +kernel
theorem dL_law_182 : decode cL_law 182 = .ok (.iload_n 3, 1) := by decide +kernel
theorem dL_law_183 : decode cL_law 183 = .ok (.iconst 2, 1) := by decide +kernel
theorem dL_law_184 : decode cL_law 184 = .ok (.iadd, 1) := by decide +kernel
theorem dL_law_185 : decode cL_law 185 = .ok (.iaload, 1) := by decide +kernel
theorem dL_law_186 : decode cL_law 186 = .ok (.aload_n 0, 1) := by decide +kernel
theorem dL_law_187 : decode cL_law 187 = .ok (.iload_n 3, 1) := by decide +kernel
theorem dL_law_188 : decode cL_law 188 = .ok (.iconst 3, 1) := by decide +kernel
theorem dL_law_189 : decode cL_law 189 = .ok (.iadd, 1) := by decide +kernel
theorem dL_law_190 : decode cL_law 190 = .ok (.iaload, 1) := by decide +kernel
theorem dL_law_191 : decode cL_law 191 = .ok (.invokevirtual 17, 3) := by decide +kernel
theorem dL_law_194 : decode cL_law 194 = .ok (.if_icmp .eq 994, 3) := by decide +kernel
theorem dL_law_197 : decode cL_law 197 = .ok (.iconst 0, 1) := by decide +kernel
theorem dL_law_198 : decode cL_law 198 = .ok (.ireturn, 1) := by decide +kernel
theorem dL_law_199 : decode cL_law 199 = .ok (.aload_n 1, 1) := by decide +kernel
theorem dL_law_200 : decode cL_law 200 = .ok (.aload_n 0, 1) := by decide +kernel
theorem dL_law_201 : decode cL_law 201 = .ok (.iload_n 3, 1) := by decide +kernel
theorem dL_law_202 : decode cL_law 202 = .ok (.iconst 1, 1) := by decide +kernel
theorem dL_law_203 : decode cL_law 203 = .ok (.iadd, 1) := by decide +kernel
theorem dL_law_204 : decode cL_law 204 = .ok (.iaload, 1) := by decide +kernel
theorem dL_law_205 : decode cL_law 205 = .ok (.aload_n 0, 1) := by decide +kernel
theorem dL_law_206 : decode cL_law 206 = .ok (.iload_n 3, 1) := by decide +kernel
theorem dL_law_207 : decode cL_law 207 = .ok (.iconst 2, 1) := by decide +kernel
theorem dL_law_208 : decode cL_law 208 = .ok (.iadd, 1) := by decide +kernel
theorem dL_law_209 : decode cL_law 209 = .ok (.iaload, 1) := by decide +kernel
theorem dL_law_210 : decode cL_law 210 = .ok (.aload_n 0, 1) := by decide +kernel
theorem dL_law_211 : decode cL_law 211 = .ok (.iload_n 3, 1) := by decide +kernel
theorem dL_law_212 : decode cL_law 212 = .ok (.iconst 3, 1) := by decide +kernel
theorem dL_law_213 : decode cL_law 213 = .ok (.iadd, 1) := by decide +kernel
theorem dL_law_214 : decode cL_law 214 = .ok (.iaload, 1) := by decide +kernel
theorem dL_law_215 : decode cL_law 215 = .ok (.invokevirtual 18, 3) := by decide +kernel
theorem dL_law_218 : decode cL_law 218 = .ok (.aload_n 2, 1) := by decide +kernel
theorem dL_law_219 : decode cL_law 219 = .ok (.aload_n 0, 1) := by decide +kernel
theorem dL_law_220 : decode cL_law 220 = .ok (.iload_n 3, 1) := by decide +kernel
theorem dL_law_221 : decode cL_law 221 = .ok (.iconst 1, 1) := by decide +kernel
theorem dL_law_222 : decode cL_law 222 = .ok (.iadd, 1) := by decide +kernel
theorem dL_law_223 : decode cL_law 223 = .ok (.iaload, 1) := by decide +kernel
theorem dL_law_224 : decode cL_law 224 = .ok (.aload_n 0, 1) := by decide +kernel
theorem dL_law_225 : decode cL_law 225 = .ok (.iload_n 3, 1) := by decide +kernel
theorem dL_law_226 : decode cL_law 226 = .ok (.iconst 2, 1) := by decide +kernel
theorem dL_law_227 : decode cL_law 227 = .ok (.iadd, 1) := by decide +kernel
theorem dL_law_228 : decode cL_law 228 = .ok (.iaload, 1) := by decide +kernel
theorem dL_law_229 : decode cL_law 229 = .ok (.aload_n 0, 1) := by decide +kernel
theorem dL_law_230 : decode cL_law 230 = .ok (.iload_n 3, 1) := by decide +kernel
theorem dL_law_231 : decode cL_law 231 = .ok (.iconst 3, 1) := by decide +kernel
theorem dL_law_232 : decode cL_law 232 = .ok (.iadd, 1) := by decide +kernel
theorem dL_law_233 : decode cL_law 233 = .ok (.iaload, 1) := by decide +kernel
theorem dL_law_234 : decode cL_law 234 = .ok (.invokevirtual 21, 3) := by decide +kernel
theorem dL_law_237 : decode cL_law 237 = .ok (.if_icmp .eq 951, 3) := by decide +kernel
theorem dL_law_240 : decode cL_law 240 = .ok (.iconst 0, 1) := by decide +kernel
theorem dL_law_241 : decode cL_law 241 = .ok (.ireturn, 1) := by decide +kernel
theorem dL_law_242 : decode cL_law 242 = .ok (.aload_n 1, 1) := by decide +kernel
theorem dL_law_243 : decode cL_law 243 = .ok (.aload_n 0, 1) := by decide +kernel
theorem dL_law_244 : decode cL_law 244 = .ok (.iload_n 3, 1) := by decide +kernel
theorem dL_law_245 : decode cL_law 245 = .ok (.iconst 1, 1) := by decide +kernel
theorem dL_law_246 : decode cL_law 246 = .ok (.iadd, 1) := by decide +kernel
theorem dL_law_247 : decode cL_law 247 = .ok (.iaload, 1) := by decide +kernel
theorem dL_law_248 : decode cL_law 248 = .ok (.aload_n 0, 1) := by decide +kernel
theorem dL_law_249 : decode cL_law 249 = .ok (.iload_n 3, 1) := by decide +kernel
theorem dL_law_250 : decode cL_law 250 = .ok (.iconst 2, 1) := by decide +kernel
theorem dL_law_251 : decode cL_law 251 = .ok (.iadd, 1) := by decide +kernel
theorem dL_law_252 : decode cL_law 252 = .ok (.iaload, 1) := by decide +kernel
theorem dL_law_253 : decode cL_law 253 = .ok (.invokevirtual 22, 3) := by decide +kernel
theorem dL_law_256 : decode cL_law 256 = .ok (.aload_n 2, 1) := by decide +kernel
theorem dL_law_257 : decode cL_law 257 = .ok (.aload_n 0, 1) := by decide +kernel
theorem dL_law_258 : decode cL_law 258 = .ok (.iload_n 3, 1) := by decide +kernel
theorem dL_law_259 : decode cL_law 259 = .ok (.iconst 1, 1) := by decide +kernel
theorem dL_law_260 : decode cL_law 260 = .ok (.iadd, 1) := by decide +kernel
theorem dL_law_261 : decode cL_law 261 = .ok (.iaload, 1) := by decide +kernel
theorem dL_law_262 : decode cL_law 262 = .ok (.aload_n 0, 1) := by decide +kernel
theorem dL_law_263 : decode cL_law 263 = .ok (.iload_n 3, 1) := by decide +kernel
theorem dL_law_264 : decode cL_law 264 = .ok (.iconst 2, 1) := by decide +kernel
theorem dL_law_265 : decode cL_law 265 = .ok (.iadd, 1) := by decide +kernel
theorem dL_law_266 : decode cL_law 266 = .ok (.iaload, 1) := by decide +kernel
theorem dL_law_267 : decode cL_law 267 = .ok (.invokevirtual 26, 3) := by decide +kernel
theorem dL_law_270 : decode cL_law 270 = .ok (.if_icmp .eq 918, 3) := by decide +kernel
theorem dL_law_273 : decode cL_law 273 = .ok (.iconst 0, 1) := by decide +kernel
theorem dL_law_274 : decode cL_law 274 = .ok (.ireturn, 1) := by decide +kernel
theorem dL_law_275 : decode cL_law 275 = .ok (.aload_n 1, 1) := by decide +kernel
theorem dL_law_276 : decode cL_law 276 = .ok (.aload_n 0, 1) := by decide +kernel
theorem dL_law_277 : decode cL_law 277 = .ok (.iload_n 3, 1) := by decide +kernel
theorem dL_law_278 : decode cL_law 278 = .ok (.iconst 1, 1) := by decide +kernel
theorem dL_law_279 : decode cL_law 279 = .ok (.iadd, 1) := by decide +kernel
theorem dL_law_280 : decode cL_law 280 = .ok (.iaload, 1) := by decide +kernel
theorem dL_law_281 : decode cL_law 281 = .ok (.aload_n 0, 1) := by decide +kernel
theorem dL_law_282 : decode cL_law 282 = .ok (.iload_n 3, 1) := by decide +kernel
theorem dL_law_283 : decode cL_law 283 = .ok (.iconst 2, 1) := by decide +kernel
theorem dL_law_284 : decode cL_law 284 = .ok (.iadd, 1) := by decide +kernel
theorem dL_law_285 : decode cL_law 285 = .ok (.iaload, 1) := by decide +kernel
theorem dL_law_286 : decode cL_law 286 = .ok (.aload_n 0, 1) := by decide +kernel
theorem dL_law_287 : decode cL_law 287 = .ok (.iload_n 3, 1) := by decide +kernel
theorem dL_law_288 : decode cL_law 288 = .ok (.iconst 3, 1) := by decide +kernel
theorem dL_law_289 : decode cL_law 289 = .ok (.iadd, 1) := by decide +kernel
theorem dL_law_290 : decode cL_law 290 = .ok (.iaload, 1) := by decide +kernel
theorem dL_law_291 : decode cL_law 291 = .ok (.aload_n 0, 1) := by decide +kernel
theorem dL_law_292 : decode cL_law 292 = .ok (.iload_n 3, 1) := by decide +kernel
theorem dL_law_293 : decode cL_law 293 = .ok (.iconst 4, 1) := by decide +kernel
theorem dL_law_294 : decode cL_law 294 = .ok (.iadd, 1) := by decide +kernel
theorem dL_law_295 : decode cL_law 295 = .ok (.iaload, 1) := by decide +kernel
theorem dL_law_296 : decode cL_law 296 = .ok (.aload_n 0, 1) := by decide +kernel
theorem dL_law_297 : decode cL_law 297 = .ok (.iload_n 3, 1) := by decide +kernel
theorem dL_law_298 : decode cL_law 298 = .ok (.iconst 5, 1) := by decide +kernel
theorem dL_law_299 : decode cL_law 299 = .ok (.iadd, 1) := by decide +kernel
theorem dL_law_300 : decode cL_law 300 = .ok (.iaload, 1) := by decide +kernel
theorem dL_law_301 : decode cL_law 301 = .ok (.invokevirtual 27, 3) := by decide +kernel
theorem dL_law_304 : decode cL_law 304 = .ok (.aload_n 2, 1) := by decide +kernel
theorem dL_law_305 : decode cL_law 305 = .ok (.aload_n 0, 1) := by decide +kernel
theorem dL_law_306 : decode cL_law 306 = .ok (.iload_n 3, 1) := by decide +kernel
theorem dL_law_307 : decode cL_law 307 = .ok (.iconst 1, 1) := by decide +kernel
theorem dL_law_308 : decode cL_law 308 = .ok (.iadd, 1) := by decide +kernel
theorem dL_law_309 : decode cL_law 309 = .ok (.iaload, 1) := by decide +kernel
theorem dL_law_310 : decode cL_law 310 = .ok (.aload_n 0, 1) := by decide +kernel
theorem dL_law_311 : decode cL_law 311 = .ok (.iload_n 3, 1) := by decide +kernel
theorem dL_law_312 : decode cL_law 312 = .ok (.iconst 2, 1) := by decide +kernel
theorem dL_law_313 : decode cL_law 313 = .ok (.iadd, 1) := by decide +kernel
theorem dL_law_314 : decode cL_law 314 = .ok (.iaload, 1) := by decide +kernel
theorem dL_law_315 : decode cL_law 315 = .ok (.aload_n 0, 1) := by decide +kernel
theorem dL_law_316 : decode cL_law 316 = .ok (.iload_n 3, 1) := by decide +kernel
theorem dL_law_317 : decode cL_law 317 = .ok (.iconst 3, 1) := by decide +kernel
theorem dL_law_318 : decode cL_law 318 = .ok (.iadd, 1) := by decide +kernel
theorem dL_law_319 : decode cL_law 319 = .ok (.iaload, 1) := by decide +kernel
theorem dL_law_320 : decode cL_law 320 = .ok (.aload_n 0, 1) := by decide +kernel
theorem dL_law_321 : decode cL_law 321 = .ok (.iload_n 3, 1) := by decide +kernel
theorem dL_law_322 : decode cL_law 322 = .ok (.iconst 4, 1) := by decide +kernel
theorem dL_law_323 : decode cL_law 323 = .ok (.iadd, 1) := by decide +kernel
theorem dL_law_324 : decode cL_law 324 = .ok (.iaload, 1) := by decide +kernel
theorem dL_law_325 : decode cL_law 325 = .ok (.aload_n 0, 1) := by decide +kernel
theorem dL_law_326 : decode cL_law 326 = .ok (.iload_n 3, 1) := by decide +kernel
theorem dL_law_327 : decode cL_law 327 = .ok (.iconst 5, 1) := by decide +kernel
theorem dL_law_328 : decode cL_law 328 = .ok (.iadd, 1) := by decide +kernel
theorem dL_law_329 : decode cL_law 329 = .ok (.iaload, 1) := by decide +kernel
theorem dL_law_330 : decode cL_law 330 = .ok (.invokevirtual 31, 3) := by decide +kernel
theorem dL_law_333 : decode cL_law 333 = .ok (.if_icmp .eq 855, 3) := by decide +kernel
theorem dL_law_336 : decode cL_law 336 = .ok (.iconst 0, 1) := by decide +kernel
theorem dL_law_337 : decode cL_law 337 = .ok (.ireturn, 1) := by decide +kernel
theorem dL_law_338 : decode cL_law 338 = .ok (.aload_n 1, 1) := by decide +kernel
theorem dL_law_339 : decode cL_law 339 = .ok (.aload_n 0, 1) := by decide +kernel
theorem dL_law_340 : decode cL_law 340 = .ok (.iload_n 3, 1) := by decide +kernel
theorem dL_law_341 : decode cL_law 341 = .ok (.iconst 1, 1) := by decide +kernel
theorem dL_law_342 : decode cL_law 342 = .ok (.iadd, 1) := by decide +kernel
theorem dL_law_343 : decode cL_law 343 = .ok (.iaload, 1) := by decide +kernel
theorem dL_law_344 : decode cL_law 344 = .ok (.invokevirtual 32, 3) := by decide +kernel
theorem dL_law_347 : decode cL_law 347 = .ok (.aload_n 2, 1) := by decide +kernel
theorem dL_law_348 : decode cL_law 348 = .ok (.aload_n 0, 1) := by decide +kernel
theorem dL_law_349 : decode cL_law 349 = .ok (.iload_n 3, 1) := by decide +kernel
theorem dL_law_350 : decode cL_law 350 = .ok (.iconst 1, 1) := by decide +kernel
theorem dL_law_351 : decode cL_law 351 = .ok (.iadd, 1) := by decide +kernel
theorem dL_law_352 : decode cL_law 352 = .ok (.iaload, 1) := by decide +kernel
theorem dL_law_353 : decode cL_law 353 = .ok (.invokevirtual 36, 3) := by decide +kernel
theorem dL_law_356 : decode cL_law 356 = .ok (.if_icmp .eq 832, 3) := by decide +kernel
theorem dL_law_359 : decode cL_law 359 = .ok (.iconst 0, 1) := by decide +kernel
theorem dL_law_360 : decode cL_law 360 = .ok (.ireturn, 1) := by decide +kernel
theorem dL_law_361 : decode cL_law 361 = .ok (.aload_n 1, 1) := by decide +kernel
theorem dL_law_362 : decode cL_law 362 = .ok (.aload_n 0, 1) := by decide +kernel
theorem dL_law_363 : decode cL_law 363 = .ok (.iload_n 3, 1) := by decide +kernel
theorem dL_law_364 : decode cL_law 364 = .ok (.iconst 1, 1) := by decide +kernel
theorem dL_law_365 : decode cL_law 365 = .ok (.iadd, 1) := by decide +kernel
theorem dL_law_366 : decode cL_law 366 = .ok (.iaload, 1) := by decide +kernel
theorem dL_law_367 : decode cL_law 367 = .ok (.aload_n 0, 1) := by decide +kernel
theorem dL_law_368 : decode cL_law 368 = .ok (.iload_n 3, 1) := by decide +kernel
theorem dL_law_369 : decode cL_law 369 = .ok (.iconst 2, 1) := by decide +kernel
theorem dL_law_370 : decode cL_law 370 = .ok (.iadd, 1) := by decide +kernel
theorem dL_law_371 : decode cL_law 371 = .ok (.iaload, 1) := by decide +kernel
theorem dL_law_372 : decode cL_law 372 = .ok (.aload_n 0, 1) := by decide +kernel
theorem dL_law_373 : decode cL_law 373 = .ok (.iload_n 3, 1) := by decide +kernel
theorem dL_law_374 : decode cL_law 374 = .ok (.iconst 3, 1) := by decide +kernel
theorem dL_law_375 : decode cL_law 375 = .ok (.iadd, 1) := by decide +kernel
theorem dL_law_376 : decode cL_law 376 = .ok (.iaload, 1) := by decide +kernel
theorem dL_law_377 : decode cL_law 377 = .ok (.aload_n 0, 1) := by decide +kernel
theorem dL_law_378 : decode cL_law 378 = .ok (.iload_n 3, 1) := by decide +kernel
theorem dL_law_379 : decode cL_law 379 = .ok (.iconst 4, 1) := by decide +kernel
theorem dL_law_380 : decode cL_law 380 = .ok (.iadd, 1) := by decide +kernel
theorem dL_law_381 : decode cL_law 381 = .ok (.iaload, 1) := by decide +kernel
theorem dL_law_382 : decode cL_law 382 = .ok (.invokevirtual 37, 3) := by decide +kernel
theorem dL_law_385 : decode cL_law 385 = .ok (.aload_n 2, 1) := by decide +kernel
theorem dL_law_386 : decode cL_law 386 = .ok (.aload_n 0, 1) := by decide +kernel
theorem dL_law_387 : decode cL_law 387 = .ok (.iload_n 3, 1) := by decide +kernel
theorem dL_law_388 : decode cL_law 388 = .ok (.iconst 1, 1) := by decide +kernel
theorem dL_law_389 : decode cL_law 389 = .ok (.iadd, 1) := by decide +kernel
theorem dL_law_390 : decode cL_law 390 = .ok (.iaload, 1) := by decide +kernel
theorem dL_law_391 : decode cL_law 391 = .ok (.aload_n 0, 1) := by decide +kernel
theorem dL_law_392 : decode cL_law 392 = .ok (.iload_n 3, 1) := by decide +kernel
theorem dL_law_393 : decode cL_law 393 = .ok (.iconst 2, 1) := by decide +kernel
theorem dL_law_394 : decode cL_law 394 = .ok (.iadd, 1) := by decide +kernel
theorem dL_law_395 : decode cL_law 395 = .ok (.iaload, 1) := by decide +kernel
theorem dL_law_396 : decode cL_law 396 = .ok (.aload_n 0, 1) := by decide +kernel
theorem dL_law_397 : decode cL_law 397 = .ok (.iload_n 3, 1) := by decide +kernel
theorem dL_law_398 : decode cL_law 398 = .ok (.iconst 3, 1) := by decide +kernel
theorem dL_law_399 : decode cL_law 399 = .ok (.iadd, 1) := by decide +kernel
theorem dL_law_400 : decode cL_law 400 = .ok (.iaload, 1) := by decide +kernel
theorem dL_law_401 : decode cL_law 401 = .ok (.aload_n 0, 1) := by decide +kernel
theorem dL_law_402 : decode cL_law 402 = .ok (.iload_n 3, 1) := by decide +kernel
theorem dL_law_403 : decode cL_law 403 = .ok (.iconst 4, 1) := by decide +kernel
theorem dL_law_404 : decode cL_law 404 = .ok (.iadd, 1) := by decide +kernel
theorem dL_law_405 : decode cL_law 405 = .ok (.iaload, 1) := by decide +kernel
theorem dL_law_406 : decode cL_law 406 = .ok (.invokevirtual 41, 3) := by decide +kernel
theorem dL_law_409 : decode cL_law 409 = .ok (.if_icmp .eq 779, 3) := by decide +kernel
theorem dL_law_412 : decode cL_law 412 = .ok (.iconst 0, 1) := by decide +kernel
theorem dL_law_413 : decode cL_law 413 = .ok (.ireturn, 1) := by decide +kernel
theorem dL_law_414 : decode cL_law 414 = .ok (.aload_n 1, 1) := by decide +kernel
theorem dL_law_415 : decode cL_law 415 = .ok (.aload_n 0, 1) := by decide +kernel
theorem dL_law_416 : decode cL_law 416 = .ok (.iload_n 3, 1) := by decide +kernel
theorem dL_law_417 : decode cL_law 417 = .ok (.iconst 1, 1) := by decide +kernel
theorem dL_law_418 : decode cL_law 418 = .ok (.iadd, 1) := by decide +kernel
theorem dL_law_419 : decode cL_law 419 = .ok (.iaload, 1) := by decide +kernel
theorem dL_law_420 : decode cL_law 420 = .ok (.aload_n 0, 1) := by decide +kernel
theorem dL_law_421 : decode cL_law 421 = .ok (.iload_n 3, 1) := by decide +kernel
theorem dL_law_422 : decode cL_law 422 = .ok (.iconst 2, 1) := by decide +kernel
theorem dL_law_423 : decode cL_law 423 = .ok (.iadd, 1) := by decide +kernel
theorem dL_law_424 : decode cL_law 424 = .ok (.iaload, 1) := by decide +kernel
theorem dL_law_425 : decode cL_law 425 = .ok (.invokevirtual 42, 3) := by decide +kernel
theorem dL_law_428 : decode cL_law 428 = .ok (.aload_n 2, 1) := by decide +kernel
theorem dL_law_429 : decode cL_law 429 = .ok (.aload_n 0, 1) := by decide +kernel
theorem dL_law_430 : decode cL_law 430 = .ok (.iload_n 3, 1) := by decide +kernel
theorem dL_law_431 : decode cL_law 431 = .ok (.iconst 1, 1) := by decide +kernel
theorem dL_law_432 : decode cL_law 432 = .ok (.iadd, 1) := by decide +kernel
theorem dL_law_433 : decode cL_law 433 = .ok (.iaload, 1) := by decide +kernel
theorem dL_law_434 : decode cL_law 434 = .ok (.aload_n 0, 1) := by decide +kernel
theorem dL_law_435 : decode cL_law 435 = .ok (.iload_n 3, 1) := by decide +kernel
theorem dL_law_436 : decode cL_law 436 = .ok (.iconst 2, 1) := by decide +kernel
theorem dL_law_437 : decode cL_law 437 = .ok (.iadd, 1) := by decide +kernel
theorem dL_law_438 : decode cL_law 438 = .ok (.iaload, 1) := by decide +kernel
theorem dL_law_439 : decode cL_law 439 = .ok (.invokevirtual 46, 3) := by decide +kernel
theorem dL_law_442 : decode cL_law 442 = .ok (.if_icmp .eq 746, 3) := by decide +kernel
theorem dL_law_445 : decode cL_law 445 = .ok (.iconst 0, 1) := by decide +kernel
theorem dL_law_446 : decode cL_law 446 = .ok (.ireturn, 1) := by decide +kernel
theorem dL_law_447 : decode cL_law 447 = .ok (.aload_n 1, 1) := by decide +kernel
theorem dL_law_448 : decode cL_law 448 = .ok (.aload_n 0, 1) := by decide +kernel
theorem dL_law_449 : decode cL_law 449 = .ok (.iload_n 3, 1) := by decide +kernel
theorem dL_law_450 : decode cL_law 450 = .ok (.iconst 1, 1) := by decide +kernel
theorem dL_law_451 : decode cL_law 451 = .ok (.iadd, 1) := by decide +kernel
theorem dL_law_452 : decode cL_law 452 = .ok (.iaload, 1) := by decide +kernel
theorem dL_law_453 : decode cL_law 453 = .ok (.aload_n 0, 1) := by decide +kernel
theorem dL_law_454 : decode cL_law 454 = .ok (.iload_n 3, 1) := by decide +kernel
theorem dL_law_455 : decode cL_law 455 = .ok (.iconst 2, 1) := by decide +kernel
theorem dL_law_456 : decode cL_law 456 = .ok (.iadd, 1) := by decide +kernel
theorem dL_law_457 : decode cL_law 457 = .ok (.iaload, 1) := by decide +kernel
theorem dL_law_458 : decode cL_law 458 = .ok (.aload_n 0, 1) := by decide +kernel
theorem dL_law_459 : decode cL_law 459 = .ok (.iload_n 3, 1) := by decide +kernel
theorem dL_law_460 : decode cL_law 460 = .ok (.iconst 3, 1) := by decide +kernel
theorem dL_law_461 : decode cL_law 461 = .ok (.iadd, 1) := by decide +kernel
theorem dL_law_462 : decode cL_law 462 = .ok (.iaload, 1) := by decide +kernel
theorem dL_law_463 : decode cL_law 463 = .ok (.invokevirtual 47, 3) := by decide +kernel
theorem dL_law_466 : decode cL_law 466 = .ok (.aload_n 2, 1) := by decide +kernel
theorem dL_law_467 : decode cL_law 467 = .ok (.aload_n 0, 1) := by decide +kernel
theorem dL_law_468 : decode cL_law 468 = .ok (.iload_n 3, 1) := by decide +kernel
theorem dL_law_469 : decode cL_law 469 = .ok (.iconst 1, 1) := by decide +kernel
theorem dL_law_470 : decode cL_law 470 = .ok (.iadd, 1) := by decide +kernel
theorem dL_law_471 : decode cL_law 471 = .ok (.iaload, 1) := by decide +kernel
theorem dL_law_472 : decode cL_law 472 = .ok (.aload_n 0, 1) := by decide +kernel
theorem dL_law_473 : decode cL_law 473 = .ok (.iload_n 3, 1) := by decide +kernel
theorem dL_law_474 : decode cL_law 474 = .ok (.iconst 2, 1) := by decide +kernel
theorem dL_law_475 : decode cL_law 475 = .ok (.iadd, 1) := by decide +kernel
theorem dL_law_476 : decode cL_law 476 = .ok (.iaload, 1) := by decide +kernel
theorem dL_law_477 : decode cL_law 477 = .ok (.aload_n 0, 1) := by decide +kernel
theorem dL_law_478 : decode cL_law 478 = .ok (.iload_n 3, 1) := by decide +kernel
theorem dL_law_479 : decode cL_law 479 = .ok (.iconst 3, 1) := by decide +kernel
theorem dL_law_480 : decode cL_law 480 = .ok (.iadd, 1) := by decide +kernel
theorem dL_law_481 : decode cL_law 481 = .ok (.iaload, 1) := by decide +kernel
theorem dL_law_482 : decode cL_law 482 = .ok (.invokevirtual 51, 3) := by decide +kernel
theorem dL_law_485 : decode cL_law 485 = .ok (.lcmp, 1) := by decide +kernel
theorem dL_law_486 : decode cL_law 486 = .ok (.ifCond .eq 702, 3) := by decide +kernel
theorem dL_law_489 : decode cL_law 489 = .ok (.iconst 0, 1) := by decide +kernel
theorem dL_law_490 : decode cL_law 490 = .ok (.ireturn, 1) := by decide +kernel
theorem dL_law_491 : decode cL_law 491 = .ok (.aload_n 1, 1) := by decide +kernel
theorem dL_law_492 : decode cL_law 492 = .ok (.aload_n 0, 1) := by decide +kernel
theorem dL_law_493 : decode cL_law 493 = .ok (.iload_n 3, 1) := by decide +kernel
theorem dL_law_494 : decode cL_law 494 = .ok (.iconst 1, 1) := by decide +kernel
theorem dL_law_495 : decode cL_law 495 = .ok (.iadd, 1) := by decide +kernel
theorem dL_law_496 : decode cL_law 496 = .ok (.iaload, 1) := by decide +kernel
theorem dL_law_497 : decode cL_law 497 = .ok (.aload_n 0, 1) := by decide +kernel
theorem dL_law_498 : decode cL_law 498 = .ok (.iload_n 3, 1) := by decide +kernel
theorem dL_law_499 : decode cL_law 499 = .ok (.iconst 2, 1) := by decide +kernel
theorem dL_law_500 : decode cL_law 500 = .ok (.iadd, 1) := by decide +kernel
theorem dL_law_501 : decode cL_law 501 = .ok (.iaload, 1) := by decide +kernel
theorem dL_law_502 : decode cL_law 502 = .ok (.aload_n 0, 1) := by decide +kernel
theorem dL_law_503 : decode cL_law 503 = .ok (.iload_n 3, 1) := by decide +kernel
theorem dL_law_504 : decode cL_law 504 = .ok (.iconst 3, 1) := by decide +kernel
theorem dL_law_505 : decode cL_law 505 = .ok (.iadd, 1) := by decide +kernel
theorem dL_law_506 : decode cL_law 506 = .ok (.iaload, 1) := by decide +kernel
theorem dL_law_507 : decode cL_law 507 = .ok (.invokevirtual 52, 3) := by decide +kernel
theorem dL_law_510 : decode cL_law 510 = .ok (.aload_n 2, 1) := by decide +kernel
theorem dL_law_511 : decode cL_law 511 = .ok (.aload_n 0, 1) := by decide +kernel
theorem dL_law_512 : decode cL_law 512 = .ok (.iload_n 3, 1) := by decide +kernel
theorem dL_law_513 : decode cL_law 513 = .ok (.iconst 1, 1) := by decide +kernel
theorem dL_law_514 : decode cL_law 514 = .ok (.iadd, 1) := by decide +kernel
theorem dL_law_515 : decode cL_law 515 = .ok (.iaload, 1) := by decide +kernel
theorem dL_law_516 : decode cL_law 516 = .ok (.aload_n 0, 1) := by decide +kernel
theorem dL_law_517 : decode cL_law 517 = .ok (.iload_n 3, 1) := by decide +kernel
theorem dL_law_518 : decode cL_law 518 = .ok (.iconst 2, 1) := by decide +kernel
theorem dL_law_519 : decode cL_law 519 = .ok (.iadd, 1) := by decide +kernel
theorem dL_law_520 : decode cL_law 520 = .ok (.iaload, 1) := by decide +kernel
theorem dL_law_521 : decode cL_law 521 = .ok (.aload_n 0, 1) := by decide +kernel
theorem dL_law_522 : decode cL_law 522 = .ok (.iload_n 3, 1) := by decide +kernel
theorem dL_law_523 : decode cL_law 523 = .ok (.iconst 3, 1) := by decide +kernel
theorem dL_law_524 : decode cL_law 524 = .ok (.iadd, 1) := by decide +kernel
theorem dL_law_525 : decode cL_law 525 = .ok (.iaload, 1) := by decide +kernel
theorem dL_law_526 : decode cL_law 526 = .ok (.invokevirtual 55, 3) := by decide +kernel
theorem dL_law_529 : decode cL_law 529 = .ok (.lcmp, 1) := by decide +kernel
theorem dL_law_530 : decode cL_law 530 = .ok (.ifCond .eq 658, 3) := by decide +kernel
theorem dL_law_533 : decode cL_law 533 = .ok (.iconst 0, 1) := by decide +kernel
theorem dL_law_534 : decode cL_law 534 = .ok (.ireturn, 1) := by decide +kernel
theorem dL_law_535 : decode cL_law 535 = .ok (.aload_n 1, 1) := by decide +kernel
theorem dL_law_536 : decode cL_law 536 = .ok (.aload_n 0, 1) := by decide +kernel
theorem dL_law_537 : decode cL_law 537 = .ok (.iload_n 3, 1) := by decide +kernel
theorem dL_law_538 : decode cL_law 538 = .ok (.iconst 1, 1) := by decide +kernel
theorem dL_law_539 : decode cL_law 539 = .ok (.iadd, 1) := by decide +kernel
theorem dL_law_540 : decode cL_law 540 = .ok (.iaload, 1) := by decide +kernel
theorem dL_law_541 : decode cL_law 541 = .ok (.aload_n 0, 1) := by decide +kernel
theorem dL_law_542 : decode cL_law 542 = .ok (.iload_n 3, 1) := by decide +kernel
theorem dL_law_543 : decode cL_law 543 = .ok (.iconst 2, 1) := by decide +kernel
theorem dL_law_544 : decode cL_law 544 = .ok (.iadd, 1) := by decide +kernel
theorem dL_law_545 : decode cL_law 545 = .ok (.iaload, 1) := by decide +kernel
theorem dL_law_546 : decode cL_law 546 = .ok (.aload_n 0, 1) := by decide +kernel
theorem dL_law_547 : decode cL_law 547 = .ok (.iload_n 3, 1) := by decide +kernel
theorem dL_law_548 : decode cL_law 548 = .ok (.iconst 3, 1) := by decide +kernel
theorem dL_law_549 : decode cL_law 549 = .ok (.iadd, 1) := by decide +kernel
theorem dL_law_550 : decode cL_law 550 = .ok (.iaload, 1) := by decide +kernel
theorem dL_law_551 : decode cL_law 551 = .ok (.invokevirtual 56, 3) := by decide +kernel
theorem dL_law_554 : decode cL_law 554 = .ok (.aload_n 2, 1) := by decide +kernel
theorem dL_law_555 : decode cL_law 555 = .ok (.aload_n 0, 1) := by decide +kernel
theorem dL_law_556 : decode cL_law 556 = .ok (.iload_n 3, 1) := by decide +kernel
theorem dL_law_557 : decode cL_law 557 = .ok (.iconst 1, 1) := by decide +kernel
theorem dL_law_558 : decode cL_law 558 = .ok (.iadd, 1) := by decide +kernel
theorem dL_law_559 : decode cL_law 559 = .ok (.iaload, 1) := by decide +kernel
theorem dL_law_560 : decode cL_law 560 = .ok (.aload_n 0, 1) := by decide +kernel
theorem dL_law_561 : decode cL_law 561 = .ok (.iload_n 3, 1) := by decide +kernel
theorem dL_law_562 : decode cL_law 562 = .ok (.iconst 2, 1) := by decide +kernel
theorem dL_law_563 : decode cL_law 563 = .ok (.iadd, 1) := by decide +kernel
theorem dL_law_564 : decode cL_law 564 = .ok (.iaload, 1) := by decide +kernel
theorem dL_law_565 : decode cL_law 565 = .ok (.aload_n 0, 1) := by decide +kernel
theorem dL_law_566 : decode cL_law 566 = .ok (.iload_n 3, 1) := by decide +kernel
theorem dL_law_567 : decode cL_law 567 = .ok (.iconst 3, 1) := by decide +kernel
theorem dL_law_568 : decode cL_law 568 = .ok (.iadd, 1) := by decide +kernel
theorem dL_law_569 : decode cL_law 569 = .ok (.iaload, 1) := by decide +kernel
theorem dL_law_570 : decode cL_law 570 = .ok (.invokevirtual 59, 3) := by decide +kernel
theorem dL_law_573 : decode cL_law 573 = .ok (.lcmp, 1) := by decide +kernel
theorem dL_law_574 : decode cL_law 574 = .ok (.ifCond .eq 614, 3) := by decide +kernel
theorem dL_law_577 : decode cL_law 577 = .ok (.iconst 0, 1) := by decide +kernel
theorem dL_law_578 : decode cL_law 578 = .ok (.ireturn, 1) := by decide +kernel
theorem dL_law_579 : decode cL_law 579 = .ok (.aload_n 1, 1) := by decide +kernel
theorem dL_law_580 : decode cL_law 580 = .ok (.aload_n 0, 1) := by decide +kernel
theorem dL_law_581 : decode cL_law 581 = .ok (.iload_n 3, 1) := by decide +kernel
theorem dL_law_582 : decode cL_law 582 = .ok (.iconst 1, 1) := by decide +kernel
theorem dL_law_583 : decode cL_law 583 = .ok (.iadd, 1) := by decide +kernel
theorem dL_law_584 : decode cL_law 584 = .ok (.iaload, 1) := by decide +kernel
theorem dL_law_585 : decode cL_law 585 = .ok (.aload_n 0, 1) := by decide +kernel
theorem dL_law_586 : decode cL_law 586 = .ok (.iload_n 3, 1) := by decide +kernel
theorem dL_law_587 : decode cL_law 587 = .ok (.iconst 2, 1) := by decide +kernel
theorem dL_law_588 : decode cL_law 588 = .ok (.iadd, 1) := by decide +kernel
theorem dL_law_589 : decode cL_law 589 = .ok (.iaload, 1) := by decide +kernel
theorem dL_law_590 : decode cL_law 590 = .ok (.aload_n 0, 1) := by decide +kernel
theorem dL_law_591 : decode cL_law 591 = .ok (.iload_n 3, 1) := by decide +kernel
theorem dL_law_592 : decode cL_law 592 = .ok (.iconst 3, 1) := by decide +kernel
theorem dL_law_593 : decode cL_law 593 = .ok (.iadd, 1) := by decide +kernel
theorem dL_law_594 : decode cL_law 594 = .ok (.iaload, 1) := by decide +kernel
theorem dL_law_595 : decode cL_law 595 = .ok (.aload_n 0, 1) := by decide +kernel
theorem dL_law_596 : decode cL_law 596 = .ok (.iload_n 3, 1) := by decide +kernel
theorem dL_law_597 : decode cL_law 597 = .ok (.iconst 4, 1) := by decide +kernel
theorem dL_law_598 : decode cL_law 598 = .ok (.iadd, 1) := by decide +kernel
theorem dL_law_599 : decode cL_law 599 = .ok (.iaload, 1) := by decide +kernel
theorem dL_law_600 : decode cL_law 600 = .ok (.invokevirtual 60, 3) := by decide +kernel
theorem dL_law_603 : decode cL_law 603 = .ok (.aload_n 2, 1) := by decide +kernel
theorem dL_law_604 : decode cL_law 604 = .ok (.aload_n 0, 1) := by decide +kernel
theorem dL_law_605 : decode cL_law 605 = .ok (.iload_n 3, 1) := by decide +kernel
theorem dL_law_606 : decode cL_law 606 = .ok (.iconst 1, 1) := by decide +kernel
theorem dL_law_607 : decode cL_law 607 = .ok (.iadd, 1) := by decide +kernel
theorem dL_law_608 : decode cL_law 608 = .ok (.iaload, 1) := by decide +kernel
theorem dL_law_609 : decode cL_law 609 = .ok (.aload_n 0, 1) := by decide +kernel
theorem dL_law_610 : decode cL_law 610 = .ok (.iload_n 3, 1) := by decide +kernel
theorem dL_law_611 : decode cL_law 611 = .ok (.iconst 2, 1) := by decide +kernel
theorem dL_law_612 : decode cL_law 612 = .ok (.iadd, 1) := by decide +kernel
theorem dL_law_613 : decode cL_law 613 = .ok (.iaload, 1) := by decide +kernel
theorem dL_law_614 : decode cL_law 614 = .ok (.aload_n 0, 1) := by decide +kernel
theorem dL_law_615 : decode cL_law 615 = .ok (.iload_n 3, 1) := by decide +kernel
theorem dL_law_616 : decode cL_law 616 = .ok (.iconst 3, 1) := by decide +kernel
theorem dL_law_617 : decode cL_law 617 = .ok (.iadd, 1) := by decide +kernel
theorem dL_law_618 : decode cL_law 618 = .ok (.iaload, 1) := by decide +kernel
theorem dL_law_619 : decode cL_law 619 = .ok (.aload_n 0, 1) := by decide +kernel
theorem dL_law_620 : decode cL_law 620 = .ok (.iload_n 3, 1) := by decide +kernel
theorem dL_law_621 : decode cL_law 621 = .ok (.iconst 4, 1) := by decide +kernel
theorem dL_law_622 : decode cL_law 622 = .ok (.iadd, 1) := by decide +kernel
theorem dL_law_623 : decode cL_law 623 = .ok (.iaload, 1) := by decide +kernel
theorem dL_law_624 : decode cL_law 624 = .ok (.invokevirtual 64, 3) := by decide +kernel
theorem dL_law_627 : decode cL_law 627 = .ok (.lcmp, 1) := by decide +kernel
theorem dL_law_628 : decode cL_law 628 = .ok (.ifCond .eq 560, 3) := by decide +kernel
theorem dL_law_631 : decode cL_law 631 = .ok (.iconst 0, 1) := by decide +kernel
theorem dL_law_632 : decode cL_law 632 = .ok (.ireturn, 1) := by decide +kernel
theorem dL_law_633 : decode cL_law 633 = .ok (.aload_n 1, 1) := by decide +kernel
theorem dL_law_634 : decode cL_law 634 = .ok (.aload_n 0, 1) := by decide +kernel
theorem dL_law_635 : decode cL_law 635 = .ok (.iload_n 3, 1) := by decide +kernel
theorem dL_law_636 : decode cL_law 636 = .ok (.iconst 1, 1) := by decide +kernel
theorem dL_law_637 : decode cL_law 637 = .ok (.iadd, 1) := by decide +kernel
theorem dL_law_638 : decode cL_law 638 = .ok (.iaload, 1) := by decide +kernel
theorem dL_law_639 : decode cL_law 639 = .ok (.aload_n 0, 1) := by decide +kernel
theorem dL_law_640 : decode cL_law 640 = .ok (.iload_n 3, 1) := by decide +kernel
theorem dL_law_641 : decode cL_law 641 = .ok (.iconst 2, 1) := by decide +kernel
theorem dL_law_642 : decode cL_law 642 = .ok (.iadd, 1) := by decide +kernel
theorem dL_law_643 : decode cL_law 643 = .ok (.iaload, 1) := by decide +kernel
theorem dL_law_644 : decode cL_law 644 = .ok (.invokevirtual 65, 3) := by decide +kernel
theorem dL_law_647 : decode cL_law 647 = .ok (.aload_n 2, 1) := by decide +kernel
theorem dL_law_648 : decode cL_law 648 = .ok (.aload_n 0, 1) := by decide +kernel
theorem dL_law_649 : decode cL_law 649 = .ok (.iload_n 3, 1) := by decide +kernel
theorem dL_law_650 : decode cL_law 650 = .ok (.iconst 1, 1) := by decide +kernel
theorem dL_law_651 : decode cL_law 651 = .ok (.iadd, 1) := by decide +kernel
theorem dL_law_652 : decode cL_law 652 = .ok (.iaload, 1) := by decide +kernel
theorem dL_law_653 : decode cL_law 653 = .ok (.aload_n 0, 1) := by decide +kernel
theorem dL_law_654 : decode cL_law 654 = .ok (.iload_n 3, 1) := by decide +kernel
theorem dL_law_655 : decode cL_law 655 = .ok (.iconst 2, 1) := by decide +kernel
theorem dL_law_656 : decode cL_law 656 = .ok (.iadd, 1) := by decide +kernel
theorem dL_law_657 : decode cL_law 657 = .ok (.iaload, 1) := by decide +kernel
theorem dL_law_658 : decode cL_law 658 = .ok (.invokevirtual 68, 3) := by decide +kernel
theorem dL_law_661 : decode cL_law 661 = .ok (.if_icmp .eq 527, 3) := by decide +kernel
theorem dL_law_664 : decode cL_law 664 = .ok (.iconst 0, 1) := by decide +kernel
theorem dL_law_665 : decode cL_law 665 = .ok (.ireturn, 1) := by decide +kernel
theorem dL_law_666 : decode cL_law 666 = .ok (.aload_n 1, 1) := by decide +kernel
theorem dL_law_667 : decode cL_law 667 = .ok (.aload_n 0, 1) := by decide +kernel
theorem dL_law_668 : decode cL_law 668 = .ok (.iload_n 3, 1) := by decide +kernel
theorem dL_law_669 : decode cL_law 669 = .ok (.iconst 1, 1) := by decide +kernel
theorem dL_law_670 : decode cL_law 670 = .ok (.iadd, 1) := by decide +kernel
theorem dL_law_671 : decode cL_law 671 = .ok (.iaload, 1) := by decide +kernel
theorem dL_law_672 : decode cL_law 672 = .ok (.aload_n 0, 1) := by decide +kernel
theorem dL_law_673 : decode cL_law 673 = .ok (.iload_n 3, 1) := by decide +kernel
theorem dL_law_674 : decode cL_law 674 = .ok (.iconst 2, 1) := by decide +kernel
theorem dL_law_675 : decode cL_law 675 = .ok (.iadd, 1) := by decide +kernel
theorem dL_law_676 : decode cL_law 676 = .ok (.iaload, 1) := by decide +kernel
theorem dL_law_677 : decode cL_law 677 = .ok (.aload_n 0, 1) := by decide +kernel
theorem dL_law_678 : decode cL_law 678 = .ok (.iload_n 3, 1) := by decide +kernel
theorem dL_law_679 : decode cL_law 679 = .ok (.iconst 3, 1) := by decide +kernel
theorem dL_law_680 : decode cL_law 680 = .ok (.iadd, 1) := by decide +kernel
theorem dL_law_681 : decode cL_law 681 = .ok (.iaload, 1) := by decide +kernel
theorem dL_law_682 : decode cL_law 682 = .ok (.aload_n 0, 1) := by decide +kernel
theorem dL_law_683 : decode cL_law 683 = .ok (.iload_n 3, 1) := by decide +kernel
theorem dL_law_684 : decode cL_law 684 = .ok (.iconst 4, 1) := by decide +kernel
theorem dL_law_685 : decode cL_law 685 = .ok (.iadd, 1) := by decide +kernel
theorem dL_law_686 : decode cL_law 686 = .ok (.iaload, 1) := by decide +kernel
theorem dL_law_687 : decode cL_law 687 = .ok (.aload_n 0, 1) := by decide +kernel
theorem dL_law_688 : decode cL_law 688 = .ok (.iload_n 3, 1) := by decide +kernel
theorem dL_law_689 : decode cL_law 689 = .ok (.iconst 5, 1) := by decide +kernel
theorem dL_law_690 : decode cL_law 690 = .ok (.iadd, 1) := by decide +kernel
theorem dL_law_691 : decode cL_law 691 = .ok (.iaload, 1) := by decide +kernel
theorem dL_law_692 : decode cL_law 692 = .ok (.aload_n 0, 1) := by decide +kernel
theorem dL_law_693 : decode cL_law 693 = .ok (.iload_n 3, 1) := by decide +kernel
theorem dL_law_694 : decode cL_law 694 = .ok (.bipush 6, 2) := by decide +kernel
theorem dL_law_696 : decode cL_law 696 = .ok (.iadd, 1) := by decide +kernel
theorem dL_law_697 : decode cL_law 697 = .ok (.iaload, 1) := by decide +kernel
theorem dL_law_698 : decode cL_law 698 = .ok (.aload_n 0, 1) := by decide +kernel
theorem dL_law_699 : decode cL_law 699 = .ok (.iload_n 3, 1) := by decide +kernel
theorem dL_law_700 : decode cL_law 700 = .ok (.bipush 7, 2) := by decide +kernel
theorem dL_law_702 : decode cL_law 702 = .ok (.iadd, 1) := by decide +kernel
theorem dL_law_703 : decode cL_law 703 = .ok (.iaload, 1) := by decide +kernel
theorem dL_law_704 : decode cL_law 704 = .ok (.invokevirtual 69, 3) := by decide +kernel
theorem dL_law_707 : decode cL_law 707 = .ok (.aload_n 2, 1) := by decide +kernel
theorem dL_law_708 : decode cL_law 708 = .ok (.aload_n 0, 1) := by decide +kernel
theorem dL_law_709 : decode cL_law 709 = .ok (.iload_n 3, 1) := by decide +kernel
theorem dL_law_710 : decode cL_law 710 = .ok (.iconst 1, 1) := by decide +kernel
theorem dL_law_711 : decode cL_law 711 = .ok (.iadd, 1) := by decide +kernel
theorem dL_law_712 : decode cL_law 712 = .ok (.iaload, 1) := by decide +kernel
theorem dL_law_713 : decode cL_law 713 = .ok (.aload_n 0, 1) := by decide +kernel
theorem dL_law_714 : decode cL_law 714 = .ok (.iload_n 3, 1) := by decide +kernel
theorem dL_law_715 : decode cL_law 715 = .ok (.iconst 2, 1) := by decide +kernel
theorem dL_law_716 : decode cL_law 716 = .ok (.iadd, 1) := by decide +kernel
theorem dL_law_717 : decode cL_law 717 = .ok (.iaload, 1) := by decide +kernel
theorem dL_law_718 : decode cL_law 718 = .ok (.aload_n 0, 1) := by decide +kernel
theorem dL_law_719 : decode cL_law 719 = .ok (.iload_n 3, 1) := by decide +kernel
theorem dL_law_720 : decode cL_law 720 = .ok (.iconst 3, 1) := by decide +kernel
theorem dL_law_721 : decode cL_law 721 = .ok (.iadd, 1) := by decide +kernel
theorem dL_law_722 : decode cL_law 722 = .ok (.iaload, 1) := by decide +kernel
theorem dL_law_723 : decode cL_law 723 = .ok (.aload_n 0, 1) := by decide +kernel
theorem dL_law_724 : decode cL_law 724 = .ok (.iload_n 3, 1) := by decide +kernel
theorem dL_law_725 : decode cL_law 725 = .ok (.iconst 4, 1) := by decide +kernel
theorem dL_law_726 : decode cL_law 726 = .ok (.iadd, 1) := by decide +kernel
theorem dL_law_727 : decode cL_law 727 = .ok (.iaload, 1) := by decide +kernel
theorem dL_law_728 : decode cL_law 728 = .ok (.aload_n 0, 1) := by decide +kernel
theorem dL_law_729 : decode cL_law 729 = .ok (.iload_n 3, 1) := by decide +kernel
theorem dL_law_730 : decode cL_law 730 = .ok (.iconst 5, 1) := by decide +kernel
theorem dL_law_731 : decode cL_law 731 = .ok (.iadd, 1) := by decide +kernel
theorem dL_law_732 : decode cL_law 732 = .ok (.iaload, 1) := by decide +kernel
theorem dL_law_733 : decode cL_law 733 = .ok (.aload_n 0, 1) := by decide +kernel
theorem dL_law_734 : decode cL_law 734 = .ok (.iload_n 3, 1) := by decide +kernel
theorem dL_law_735 : decode cL_law 735 = .ok (.bipush 6, 2) := by decide +kernel
theorem dL_law_737 : decode cL_law 737 = .ok (.iadd, 1) := by decide +kernel
theorem dL_law_738 : decode cL_law 738 = .ok (.iaload, 1) := by decide +kernel
theorem dL_law_739 : decode cL_law 739 = .ok (.aload_n 0, 1) := by decide +kernel
theorem dL_law_740 : decode cL_law 740 = .ok (.iload_n 3, 1) := by decide +kernel
theorem dL_law_741 : decode cL_law 741 = .ok (.bipush 7, 2) := by decide +kernel
theorem dL_law_743 : decode cL_law 743 = .ok (.iadd, 1) := by decide +kernel
theorem dL_law_744 : decode cL_law 744 = .ok (.iaload, 1) := by decide +kernel
theorem dL_law_745 : decode cL_law 745 = .ok (.invokevirtual 73, 3) := by decide +kernel
theorem dL_law_748 : decode cL_law 748 = .ok (.lcmp, 1) := by decide +kernel
theorem dL_law_749 : decode cL_law 749 = .ok (.ifCond .eq 439, 3) := by decide +kernel
theorem dL_law_752 : decode cL_law 752 = .ok (.iconst 0, 1) := by decide +kernel
theorem dL_law_753 : decode cL_law 753 = .ok (.ireturn, 1) := by decide +kernel
theorem dL_law_754 : decode cL_law 754 = .ok (.aload_n 1, 1) := by decide +kernel
theorem dL_law_755 : decode cL_law 755 = .ok (.aload_n 0, 1) := by decide +kernel
theorem dL_law_756 : decode cL_law 756 = .ok (.iload_n 3, 1) := by decide +kernel
theorem dL_law_757 : decode cL_law 757 = .ok (.iconst 1, 1) := by decide +kernel
theorem dL_law_758 : decode cL_law 758 = .ok (.iadd, 1) := by decide +kernel
theorem dL_law_759 : decode cL_law 759 = .ok (.iaload, 1) := by decide +kernel
theorem dL_law_760 : decode cL_law 760 = .ok (.aload_n 0, 1) := by decide +kernel
theorem dL_law_761 : decode cL_law 761 = .ok (.iload_n 3, 1) := by decide +kernel
theorem dL_law_762 : decode cL_law 762 = .ok (.iconst 2, 1) := by decide +kernel
theorem dL_law_763 : decode cL_law 763 = .ok (.iadd, 1) := by decide +kernel
theorem dL_law_764 : decode cL_law 764 = .ok (.iaload, 1) := by decide +kernel
theorem dL_law_765 : decode cL_law 765 = .ok (.aload_n 0, 1) := by decide +kernel
theorem dL_law_766 : decode cL_law 766 = .ok (.iload_n 3, 1) := by decide +kernel
theorem dL_law_767 : decode cL_law 767 = .ok (.iconst 3, 1) := by decide +kernel
theorem dL_law_768 : decode cL_law 768 = .ok (.iadd, 1) := by decide +kernel
theorem dL_law_769 : decode cL_law 769 = .ok (.iaload, 1) := by decide +kernel
theorem dL_law_770 : decode cL_law 770 = .ok (.invokevirtual 74, 3) := by decide +kernel
theorem dL_law_773 : decode cL_law 773 = .ok (.aload_n 2, 1) := by decide +kernel
theorem dL_law_774 : decode cL_law 774 = .ok (.aload_n 0, 1) := by decide +kernel
theorem dL_law_775 : decode cL_law 775 = .ok (.iload_n 3, 1) := by decide +kernel
theorem dL_law_776 : decode cL_law 776 = .ok (.iconst 1, 1) := by decide +kernel
theorem dL_law_777 : decode cL_law 777 = .ok (.iadd, 1) := by decide +kernel
theorem dL_law_778 : decode cL_law 778 = .ok (.iaload, 1) := by decide +kernel
theorem dL_law_779 : decode cL_law 779 = .ok (.aload_n 0, 1) := by decide +kernel
theorem dL_law_780 : decode cL_law 780 = .ok (.iload_n 3, 1) := by decide +kernel
theorem dL_law_781 : decode cL_law 781 = .ok (.iconst 2, 1) := by decide +kernel
theorem dL_law_782 : decode cL_law 782 = .ok (.iadd, 1) := by decide +kernel
theorem dL_law_783 : decode cL_law 783 = .ok (.iaload, 1) := by decide +kernel
theorem dL_law_784 : decode cL_law 784 = .ok (.aload_n 0, 1) := by decide +kernel
theorem dL_law_785 : decode cL_law 785 = .ok (.iload_n 3, 1) := by decide +kernel
theorem dL_law_786 : decode cL_law 786 = .ok (.iconst 3, 1) := by decide +kernel
theorem dL_law_787 : decode cL_law 787 = .ok (.iadd, 1) := by decide +kernel
theorem dL_law_788 : decode cL_law 788 = .ok (.iaload, 1) := by decide +kernel
theorem dL_law_789 : decode cL_law 789 = .ok (.invokevirtual 77, 3) := by decide +kernel
theorem dL_law_792 : decode cL_law 792 = .ok (.lcmp, 1) := by decide +kernel
theorem dL_law_793 : decode cL_law 793 = .ok (.ifCond .eq 395, 3) := by decide +kernel
theorem dL_law_796 : decode cL_law 796 = .ok (.iconst 0, 1) := by decide +kernel
theorem dL_law_797 : decode cL_law 797 = .ok (.ireturn, 1) := by decide +kernel
theorem dL_law_798 : decode cL_law 798 = .ok (.aload_n 1, 1) := by decide +kernel
theorem dL_law_799 : decode cL_law 799 = .ok (.aload_n 0, 1) := by decide +kernel
theorem dL_law_800 : decode cL_law 800 = .ok (.iload_n 3, 1) := by decide +kernel
theorem dL_law_801 : decode cL_law 801 = .ok (.iconst 1, 1) := by decide +kernel
theorem dL_law_802 : decode cL_law 802 = .ok (.iadd, 1) := by decide +kernel
theorem dL_law_803 : decode cL_law 803 = .ok (.iaload, 1) := by decide +kernel
theorem dL_law_804 : decode cL_law 804 = .ok (.aload_n 0, 1) := by decide +kernel
theorem dL_law_805 : decode cL_law 805 = .ok (.iload_n 3, 1) := by decide +kernel
theorem dL_law_806 : decode cL_law 806 = .ok (.iconst 2, 1) := by decide +kernel
theorem dL_law_807 : decode cL_law 807 = .ok (.iadd, 1) := by decide +kernel
theorem dL_law_808 : decode cL_law 808 = .ok (.iaload, 1) := by decide +kernel
theorem dL_law_809 : decode cL_law 809 = .ok (.aload_n 0, 1) := by decide +kernel
theorem dL_law_810 : decode cL_law 810 = .ok (.iload_n 3, 1) := by decide +kernel
theorem dL_law_811 : decode cL_law 811 = .ok (.iconst 3, 1) := by decide +kernel
theorem dL_law_812 : decode cL_law 812 = .ok (.iadd, 1) := by decide +kernel
theorem dL_law_813 : decode cL_law 813 = .ok (.iaload, 1) := by decide +kernel
theorem dL_law_814 : decode cL_law 814 = .ok (.aload_n 0, 1) := by decide +kernel
theorem dL_law_815 : decode cL_law 815 = .ok (.iload_n 3, 1) := by decide +kernel
theorem dL_law_816 : decode cL_law 816 = .ok (.iconst 4, 1) := by decide +kernel
theorem dL_law_817 : decode cL_law 817 = .ok (.iadd, 1) := by decide +kernel
theorem dL_law_818 : decode cL_law 818 = .ok (.iaload, 1) := by decide +kernel
theorem dL_law_819 : decode cL_law 819 = .ok (.aload_n 0, 1) := by decide +kernel
theorem dL_law_820 : decode cL_law 820 = .ok (.iload_n 3, 1) := by decide +kernel
theorem dL_law_821 : decode cL_law 821 = .ok (.iconst 5, 1) := by decide +kernel
theorem dL_law_822 : decode cL_law 822 = .ok (.iadd, 1) := by decide +kernel
theorem dL_law_823 : decode cL_law 823 = .ok (.iaload, 1) := by decide +kernel
theorem dL_law_824 : decode cL_law 824 = .ok (.invokevirtual 78, 3) := by decide +kernel
theorem dL_law_827 : decode cL_law 827 = .ok (.aload_n 2, 1) := by decide +kernel
theorem dL_law_828 : decode cL_law 828 = .ok (.aload_n 0, 1) := by decide +kernel
theorem dL_law_829 : decode cL_law 829 = .ok (.iload_n 3, 1) := by decide +kernel
theorem dL_law_830 : decode cL_law 830 = .ok (.iconst 1, 1) := by decide +kernel
theorem dL_law_831 : decode cL_law 831 = .ok (.iadd, 1) := by decide +kernel
theorem dL_law_832 : decode cL_law 832 = .ok (.iaload, 1) := by decide +kernel
theorem dL_law_833 : decode cL_law 833 = .ok (.aload_n 0, 1) := by decide +kernel
theorem dL_law_834 : decode cL_law 834 = .ok (.iload_n 3, 1) := by decide +kernel
theorem dL_law_835 : decode cL_law 835 = .ok (.iconst 2, 1) := by decide +kernel
theorem dL_law_836 : decode cL_law 836 = .ok (.iadd, 1) := by decide +kernel
theorem dL_law_837 : decode cL_law 837 = .ok (.iaload, 1) := by decide +kernel
theorem dL_law_838 : decode cL_law 838 = .ok (.aload_n 0, 1) := by decide +kernel
theorem dL_law_839 : decode cL_law 839 = .ok (.iload_n 3, 1) := by decide +kernel
theorem dL_law_840 : decode cL_law 840 = .ok (.iconst 3, 1) := by decide +kernel
theorem dL_law_841 : decode cL_law 841 = .ok (.iadd, 1) := by decide +kernel
theorem dL_law_842 : decode cL_law 842 = .ok (.iaload, 1) := by decide +kernel
theorem dL_law_843 : decode cL_law 843 = .ok (.aload_n 0, 1) := by decide +kernel
theorem dL_law_844 : decode cL_law 844 = .ok (.iload_n 3, 1) := by decide +kernel
theorem dL_law_845 : decode cL_law 845 = .ok (.iconst 4, 1) := by decide +kernel
theorem dL_law_846 : decode cL_law 846 = .ok (.iadd, 1) := by decide +kernel
theorem dL_law_847 : decode cL_law 847 = .ok (.iaload, 1) := by decide +kernel
theorem dL_law_848 : decode cL_law 848 = .ok (.aload_n 0, 1) := by decide +kernel
theorem dL_law_849 : decode cL_law 849 = .ok (.iload_n 3, 1) := by decide +kernel
theorem dL_law_850 : decode cL_law 850 = .ok (.iconst 5, 1) := by decide +kernel
theorem dL_law_851 : decode cL_law 851 = .ok (.iadd, 1) := by decide +kernel
theorem dL_law_852 : decode cL_law 852 = .ok (.iaload, 1) := by decide +kernel
theorem dL_law_853 : decode cL_law 853 = .ok (.invokevirtual 81, 3) := by decide +kernel
theorem dL_law_856 : decode cL_law 856 = .ok (.if_icmp .eq 332, 3) := by decide +kernel
theorem dL_law_859 : decode cL_law 859 = .ok (.iconst 0, 1) := by decide +kernel
theorem dL_law_860 : decode cL_law 860 = .ok (.ireturn, 1) := by decide +kernel
theorem dL_law_861 : decode cL_law 861 = .ok (.aload_n 1, 1) := by decide +kernel
theorem dL_law_862 : decode cL_law 862 = .ok (.invokevirtual 82, 3) := by decide +kernel
theorem dL_law_865 : decode cL_law 865 = .ok (.aload_n 2, 1) := by decide +kernel
theorem dL_law_866 : decode cL_law 866 = .ok (.invokevirtual 86, 3) := by decide +kernel
theorem dL_law_869 : decode cL_law 869 = .ok (.if_icmp .eq 319, 3) := by decide +kernel
theorem dL_law_872 : decode cL_law 872 = .ok (.iconst 0, 1) := by decide +kernel
theorem dL_law_873 : decode cL_law 873 = .ok (.ireturn, 1) := by decide +kernel
theorem dL_law_874 : decode cL_law 874 = .ok (.aload_n 1, 1) := by decide +kernel
theorem dL_law_875 : decode cL_law 875 = .ok (.aload_n 0, 1) := by decide +kernel
theorem dL_law_876 : decode cL_law 876 = .ok (.iload_n 3, 1) := by decide +kernel
theorem dL_law_877 : decode cL_law 877 = .ok (.iconst 1, 1) := by decide +kernel
theorem dL_law_878 : decode cL_law 878 = .ok (.iadd, 1) := by decide +kernel
theorem dL_law_879 : decode cL_law 879 = .ok (.iaload, 1) := by decide +kernel
theorem dL_law_880 : decode cL_law 880 = .ok (.aload_n 0, 1) := by decide +kernel
theorem dL_law_881 : decode cL_law 881 = .ok (.iload_n 3, 1) := by decide +kernel
theorem dL_law_882 : decode cL_law 882 = .ok (.iconst 2, 1) := by decide +kernel
theorem dL_law_883 : decode cL_law 883 = .ok (.iadd, 1) := by decide +kernel
theorem dL_law_884 : decode cL_law 884 = .ok (.iaload, 1) := by decide +kernel
theorem dL_law_885 : decode cL_law 885 = .ok (.invokevirtual 87, 3) := by decide +kernel
theorem dL_law_888 : decode cL_law 888 = .ok (.aload_n 2, 1) := by decide +kernel
theorem dL_law_889 : decode cL_law 889 = .ok (.aload_n 0, 1) := by decide +kernel
theorem dL_law_890 : decode cL_law 890 = .ok (.iload_n 3, 1) := by decide +kernel
theorem dL_law_891 : decode cL_law 891 = .ok (.iconst 1, 1) := by decide +kernel
theorem dL_law_892 : decode cL_law 892 = .ok (.iadd, 1) := by decide +kernel
theorem dL_law_893 : decode cL_law 893 = .ok (.iaload, 1) := by decide +kernel
theorem dL_law_894 : decode cL_law 894 = .ok (.aload_n 0, 1) := by decide +kernel
theorem dL_law_895 : decode cL_law 895 = .ok (.iload_n 3, 1) := by decide +kernel
theorem dL_law_896 : decode cL_law 896 = .ok (.iconst 2, 1) := by decide +kernel
theorem dL_law_897 : decode cL_law 897 = .ok (.iadd, 1) := by decide +kernel
theorem dL_law_898 : decode cL_law 898 = .ok (.iaload, 1) := by decide +kernel
theorem dL_law_899 : decode cL_law 899 = .ok (.invokevirtual 90, 3) := by decide +kernel
theorem dL_law_902 : decode cL_law 902 = .ok (.if_icmp .eq 286, 3) := by decide +kernel
theorem dL_law_905 : decode cL_law 905 = .ok (.iconst 0, 1) := by decide +kernel
theorem dL_law_906 : decode cL_law 906 = .ok (.ireturn, 1) := by decide +kernel
theorem dL_law_907 : decode cL_law 907 = .ok (.aload_n 1, 1) := by decide +kernel
theorem dL_law_908 : decode cL_law 908 = .ok (.aload_n 0, 1) := by decide +kernel
theorem dL_law_909 : decode cL_law 909 = .ok (.iload_n 3, 1) := by decide +kernel
theorem dL_law_910 : decode cL_law 910 = .ok (.iconst 1, 1) := by decide +kernel
theorem dL_law_911 : decode cL_law 911 = .ok (.iadd, 1) := by decide +kernel
theorem dL_law_912 : decode cL_law 912 = .ok (.iaload, 1) := by decide +kernel
theorem dL_law_913 : decode cL_law 913 = .ok (.aload_n 0, 1) := by decide +kernel
theorem dL_law_914 : decode cL_law 914 = .ok (.iload_n 3, 1) := by decide +kernel
theorem dL_law_915 : decode cL_law 915 = .ok (.iconst 2, 1) := by decide +kernel
theorem dL_law_916 : decode cL_law 916 = .ok (.iadd, 1) := by decide +kernel
theorem dL_law_917 : decode cL_law 917 = .ok (.iaload, 1) := by decide +kernel
theorem dL_law_918 : decode cL_law 918 = .ok (.aload_n 0, 1) := by decide +kernel
theorem dL_law_919 : decode cL_law 919 = .ok (.iload_n 3, 1) := by decide +kernel
theorem dL_law_920 : decode cL_law 920 = .ok (.iconst 3, 1) := by decide +kernel
theorem dL_law_921 : decode cL_law 921 = .ok (.iadd, 1) := by decide +kernel
theorem dL_law_922 : decode cL_law 922 = .ok (.iaload, 1) := by decide +kernel
theorem dL_law_923 : decode cL_law 923 = .ok (.invokevirtual 91, 3) := by decide +kernel
theorem dL_law_926 : decode cL_law 926 = .ok (.aload_n 2, 1) := by decide +kernel
theorem dL_law_927 : decode cL_law 927 = .ok (.aload_n 0, 1) := by decide +kernel
theorem dL_law_928 : decode cL_law 928 = .ok (.iload_n 3, 1) := by decide +kernel
theorem dL_law_929 : decode cL_law 929 = .ok (.iconst 1, 1) := by decide +kernel
theorem dL_law_930 : decode cL_law 930 = .ok (.iadd, 1) := by decide +kernel
theorem dL_law_931 : decode cL_law 931 = .ok (.iaload, 1) := by decide +kernel
theorem dL_law_932 : decode cL_law 932 = .ok (.aload_n 0, 1) := by decide +kernel
theorem dL_law_933 : decode cL_law 933 = .ok (.iload_n 3, 1) := by decide +kernel
theorem dL_law_934 : decode cL_law 934 = .ok (.iconst 2, 1) := by decide +kernel
theorem dL_law_935 : decode cL_law 935 = .ok (.iadd, 1) := by decide +kernel
theorem dL_law_936 : decode cL_law 936 = .ok (.iaload, 1) := by decide +kernel
theorem dL_law_937 : decode cL_law 937 = .ok (.aload_n 0, 1) := by decide +kernel
theorem dL_law_938 : decode cL_law 938 = .ok (.iload_n 3, 1) := by decide +kernel
theorem dL_law_939 : decode cL_law 939 = .ok (.iconst 3, 1) := by decide +kernel
theorem dL_law_940 : decode cL_law 940 = .ok (.iadd, 1) := by decide +kernel
theorem dL_law_941 : decode cL_law 941 = .ok (.iaload, 1) := by decide +kernel
theorem dL_law_942 : decode cL_law 942 = .ok (.invokevirtual 94, 3) := by decide +kernel
theorem dL_law_945 : decode cL_law 945 = .ok (.lcmp, 1) := by decide +kernel
theorem dL_law_946 : decode cL_law 946 = .ok (.ifCond .eq 242, 3) := by decide +kernel
theorem dL_law_949 : decode cL_law 949 = .ok (.iconst 0, 1) := by decide +kernel
theorem dL_law_950 : decode cL_law 950 = .ok (.ireturn, 1) := by decide +kernel
theorem dL_law_951 : decode cL_law 951 = .ok (.aload_n 1, 1) := by decide +kernel
theorem dL_law_952 : decode cL_law 952 = .ok (.aload_n 0, 1) := by decide +kernel
theorem dL_law_953 : decode cL_law 953 = .ok (.iload_n 3, 1) := by decide +kernel
theorem dL_law_954 : decode cL_law 954 = .ok (.iconst 1, 1) := by decide +kernel
theorem dL_law_955 : decode cL_law 955 = .ok (.iadd, 1) := by decide +kernel
theorem dL_law_956 : decode cL_law 956 = .ok (.iaload, 1) := by decide +kernel
theorem dL_law_957 : decode cL_law 957 = .ok (.aload_n 0, 1) := by decide +kernel
theorem dL_law_958 : decode cL_law 958 = .ok (.iload_n 3, 1) := by decide +kernel
theorem dL_law_959 : decode cL_law 959 = .ok (.iconst 2, 1) := by decide +kernel
theorem dL_law_960 : decode cL_law 960 = .ok (.iadd, 1) := by decide +kernel
theorem dL_law_961 : decode cL_law 961 = .ok (.iaload, 1) := by decide +kernel
theorem dL_law_962 : decode cL_law 962 = .ok (.aload_n 0, 1) := by decide +kernel
theorem dL_law_963 : decode cL_law 963 = .ok (.iload_n 3, 1) := by decide +kernel
theorem dL_law_964 : decode cL_law 964 = .ok (.iconst 3, 1) := by decide +kernel
theorem dL_law_965 : decode cL_law 965 = .ok (.iadd, 1) := by decide +kernel
theorem dL_law_966 : decode cL_law 966 = .ok (.iaload, 1) := by decide +kernel
theorem dL_law_967 : decode cL_law 967 = .ok (.invokevirtual 95, 3) := by decide +kernel
theorem dL_law_970 : decode cL_law 970 = .ok (.aload_n 2, 1) := by decide +kernel
theorem dL_law_971 : decode cL_law 971 = .ok (.aload_n 0, 1) := by decide +kernel
theorem dL_law_972 : decode cL_law 972 = .ok (.iload_n 3, 1) := by decide +kernel
theorem dL_law_973 : decode cL_law 973 = .ok (.iconst 1, 1) := by decide +kernel
theorem dL_law_974 : decode cL_law 974 = .ok (.iadd, 1) := by decide +kernel
theorem dL_law_975 : decode cL_law 975 = .ok (.iaload, 1) := by decide +kernel
theorem dL_law_976 : decode cL_law 976 = .ok (.aload_n 0, 1) := by decide +kernel
theorem dL_law_977 : decode cL_law 977 = .ok (.iload_n 3, 1) := by decide +kernel
theorem dL_law_978 : decode cL_law 978 = .ok (.iconst 2, 1) := by decide +kernel
theorem dL_law_979 : decode cL_law 979 = .ok (.iadd, 1) := by decide +kernel
theorem dL_law_980 : decode cL_law 980 = .ok (.iaload, 1) := by decide +kernel
theorem dL_law_981 : decode cL_law 981 = .ok (.aload_n 0, 1) := by decide +kernel
theorem dL_law_982 : decode cL_law 982 = .ok (.iload_n 3, 1) := by decide +kernel
theorem dL_law_983 : decode cL_law 983 = .ok (.iconst 3, 1) := by decide +kernel
theorem dL_law_984 : decode cL_law 984 = .ok (.iadd, 1) := by decide +kernel
theorem dL_law_985 : decode cL_law 985 = .ok (.iaload, 1) := by decide +kernel
theorem dL_law_986 : decode cL_law 986 = .ok (.invokevirtual 98, 3) := by decide +kernel
theorem dL_law_989 : decode cL_law 989 = .ok (.if_icmp .eq 199, 3) := by decide +kernel
theorem dL_law_992 : decode cL_law 992 = .ok (.iconst 0, 1) := by decide +kernel
theorem dL_law_993 : decode cL_law 993 = .ok (.ireturn, 1) := by decide +kernel
theorem dL_law_994 : decode cL_law 994 = .ok (.aload_n 1, 1) := by decide +kernel
theorem dL_law_995 : decode cL_law 995 = .ok (.aload_n 0, 1) := by decide +kernel
theorem dL_law_996 : decode cL_law 996 = .ok (.iload_n 3, 1) := by decide +kernel
theorem dL_law_997 : decode cL_law 997 = .ok (.iconst 1, 1) := by decide +kernel
theorem dL_law_998 : decode cL_law 998 = .ok (.iadd, 1) := by decide +kernel
theorem dL_law_999 : decode cL_law 999 = .ok (.iaload, 1) := by decide +kernel
theorem dL_law_1000 : decode cL_law 1000 = .ok (.aload_n 0, 1) := by decide +kernel
theorem dL_law_1001 : decode cL_law 1001 = .ok (.iload_n 3, 1) := by decide +kernel
theorem dL_law_1002 : decode cL_law 1002 = .ok (.iconst 2, 1) := by decide +kernel
theorem dL_law_1003 : decode cL_law 1003 = .ok (.iadd, 1) := by decide +kernel
theorem dL_law_1004 : decode cL_law 1004 = .ok (.iaload, 1) := by decide +kernel
theorem dL_law_1005 : decode cL_law 1005 = .ok (.invokevirtual 99, 3) := by decide +kernel
theorem dL_law_1008 : decode cL_law 1008 = .ok (.aload_n 2, 1) := by decide +kernel
theorem dL_law_1009 : decode cL_law 1009 = .ok (.aload_n 0, 1) := by decide +kernel
theorem dL_law_1010 : decode cL_law 1010 = .ok (.iload_n 3, 1) := by decide +kernel
theorem dL_law_1011 : decode cL_law 1011 = .ok (.iconst 1, 1) := by decide +kernel
theorem dL_law_1012 : decode cL_law 1012 = .ok (.iadd, 1) := by decide +kernel
theorem dL_law_1013 : decode cL_law 1013 = .ok (.iaload, 1) := by decide +kernel
theorem dL_law_1014 : decode cL_law 1014 = .ok (.aload_n 0, 1) := by decide +kernel
theorem dL_law_1015 : decode cL_law 1015 = .ok (.iload_n 3, 1) := by decide +kernel
theorem dL_law_1016 : decode cL_law 1016 = .ok (.iconst 2, 1) := by decide +kernel
theorem dL_law_1017 : decode cL_law 1017 = .ok (.iadd, 1) := by decide +kernel
theorem dL_law_1018 : decode cL_law 1018 = .ok (.iaload, 1) := by decide +kernel
theorem dL_law_1019 : decode cL_law 1019 = .ok (.invokevirtual 102, 3) := by decide +kernel
theorem dL_law_1022 : decode cL_law 1022 = .ok (.if_icmp .eq 166, 3) := by decide +kernel
theorem dL_law_1025 : decode cL_law 1025 = .ok (.iconst 0, 1) := by decide +kernel
theorem dL_law_1026 : decode cL_law 1026 = .ok (.ireturn, 1) := by decide +kernel
theorem dL_law_1027 : decode cL_law 1027 = .ok (.aload_n 1, 1) := by decide +kernel
theorem dL_law_1028 : decode cL_law 1028 = .ok (.aload_n 0, 1) := by decide +kernel
theorem dL_law_1029 : decode cL_law 1029 = .ok (.iload_n 3, 1) := by decide +kernel
theorem dL_law_1030 : decode cL_law 1030 = .ok (.iconst 1, 1) := by decide +kernel
theorem dL_law_1031 : decode cL_law 1031 = .ok (.iadd, 1) := by decide +kernel
theorem dL_law_1032 : decode cL_law 1032 = .ok (.iaload, 1) := by decide +kernel
theorem dL_law_1033 : decode cL_law 1033 = .ok (.aload_n 0, 1) := by decide +kernel
theorem dL_law_1034 : decode cL_law 1034 = .ok (.iload_n 3, 1) := by decide +kernel
theorem dL_law_1035 : decode cL_law 1035 = .ok (.iconst 2, 1) := by decide +kernel
theorem dL_law_1036 : decode cL_law 1036 = .ok (.iadd, 1) := by decide +kernel
theorem dL_law_1037 : decode cL_law 1037 = .ok (.iaload, 1) := by decide +kernel
theorem dL_law_1038 : decode cL_law 1038 = .ok (.aload_n 0, 1) := by decide +kernel
theorem dL_law_1039 : decode cL_law 1039 = .ok (.iload_n 3, 1) := by decide +kernel
theorem dL_law_1040 : decode cL_law 1040 = .ok (.iconst 3, 1) := by decide +kernel
theorem dL_law_1041 : decode cL_law 1041 = .ok (.iadd, 1) := by decide +kernel
theorem dL_law_1042 : decode cL_law 1042 = .ok (.iaload, 1) := by decide +kernel
theorem dL_law_1043 : decode cL_law 1043 = .ok (.invokevirtual 103, 3) := by decide +kernel
theorem dL_law_1046 : decode cL_law 1046 = .ok (.aload_n 2, 1) := by decide +kernel
theorem dL_law_1047 : decode cL_law 1047 = .ok (.aload_n 0, 1) := by decide +kernel
theorem dL_law_1048 : decode cL_law 1048 = .ok (.iload_n 3, 1) := by decide +kernel
theorem dL_law_1049 : decode cL_law 1049 = .ok (.iconst 1, 1) := by decide +kernel
theorem dL_law_1050 : decode cL_law 1050 = .ok (.iadd, 1) := by decide +kernel
theorem dL_law_1051 : decode cL_law 1051 = .ok (.iaload, 1) := by decide +kernel
theorem dL_law_1052 : decode cL_law 1052 = .ok (.aload_n 0, 1) := by decide +kernel
theorem dL_law_1053 : decode cL_law 1053 = .ok (.iload_n 3, 1) := by decide +kernel
theorem dL_law_1054 : decode cL_law 1054 = .ok (.iconst 2, 1) := by decide +kernel
theorem dL_law_1055 : decode cL_law 1055 = .ok (.iadd, 1) := by decide +kernel
theorem dL_law_1056 : decode cL_law 1056 = .ok (.iaload, 1) := by decide +kernel
theorem dL_law_1057 : decode cL_law 1057 = .ok (.aload_n 0, 1) := by decide +kernel
theorem dL_law_1058 : decode cL_law 1058 = .ok (.iload_n 3, 1) := by decide +kernel
theorem dL_law_1059 : decode cL_law 1059 = .ok (.iconst 3, 1) := by decide +kernel
theorem dL_law_1060 : decode cL_law 1060 = .ok (.iadd, 1) := by decide +kernel
theorem dL_law_1061 : decode cL_law 1061 = .ok (.iaload, 1) := by decide +kernel
theorem dL_law_1062 : decode cL_law 1062 = .ok (.invokevirtual 106, 3) := by decide +kernel
theorem dL_law_1065 : decode cL_law 1065 = .ok (.if_icmp .eq 123, 3) := by decide +kernel
theorem dL_law_1068 : decode cL_law 1068 = .ok (.iconst 0, 1) := by decide +kernel
theorem dL_law_1069 : decode cL_law 1069 = .ok (.ireturn, 1) := by decide +kernel
theorem dL_law_1070 : decode cL_law 1070 = .ok (.aload_n 1, 1) := by decide +kernel
theorem dL_law_1071 : decode cL_law 1071 = .ok (.aload_n 0, 1) := by decide +kernel
theorem dL_law_1072 : decode cL_law 1072 = .ok (.iload_n 3, 1) := by decide +kernel
theorem dL_law_1073 : decode cL_law 1073 = .ok (.iconst 1, 1) := by decide +kernel
theorem dL_law_1074 : decode cL_law 1074 = .ok (.iadd, 1) := by decide +kernel
theorem dL_law_1075 : decode cL_law 1075 = .ok (.iaload, 1) := by decide +kernel
theorem dL_law_1076 : decode cL_law 1076 = .ok (.invokevirtual 107, 3) := by decide +kernel
theorem dL_law_1079 : decode cL_law 1079 = .ok (.aload_n 2, 1) := by decide +kernel
theorem dL_law_1080 : decode cL_law 1080 = .ok (.aload_n 0, 1) := by decide +kernel
theorem dL_law_1081 : decode cL_law 1081 = .ok (.iload_n 3, 1) := by decide +kernel
theorem dL_law_1082 : decode cL_law 1082 = .ok (.iconst 1, 1) := by decide +kernel
theorem dL_law_1083 : decode cL_law 1083 = .ok (.iadd, 1) := by decide +kernel
theorem dL_law_1084 : decode cL_law 1084 = .ok (.iaload, 1) := by decide +kernel
theorem dL_law_1085 : decode cL_law 1085 = .ok (.invokevirtual 111, 3) := by decide +kernel
theorem dL_law_1088 : decode cL_law 1088 = .ok (.if_icmp .eq 100, 3) := by decide +kernel
theorem dL_law_1091 : decode cL_law 1091 = .ok (.iconst 0, 1) := by decide +kernel
theorem dL_law_1092 : decode cL_law 1092 = .ok (.ireturn, 1) := by decide +kernel
theorem dL_law_1093 : decode cL_law 1093 = .ok (.aload_n 1, 1) := by decide +kernel
theorem dL_law_1094 : decode cL_law 1094 = .ok (.invokevirtual 112, 3) := by decide +kernel
theorem dL_law_1097 : decode cL_law 1097 = .ok (.aload_n 2, 1) := by decide +kernel
theorem dL_law_1098 : decode cL_law 1098 = .ok (.invokevirtual 115, 3) := by decide +kernel
theorem dL_law_1101 : decode cL_law 1101 = .ok (.if_icmp .eq 87, 3) := by decide +kernel
theorem dL_law_1104 : decode cL_law 1104 = .ok (.iconst 0, 1) := by decide +kernel
theorem dL_law_1105 : decode cL_law 1105 = .ok (.ireturn, 1) := by decide +kernel
theorem dL_law_1106 : decode cL_law 1106 = .ok (.aload_n 1, 1) := by decide +kernel
theorem dL_law_1107 : decode cL_law 1107 = .ok (.aload_n 0, 1) := by decide +kernel
theorem dL_law_1108 : decode cL_law 1108 = .ok (.iload_n 3, 1) := by decide +kernel
theorem dL_law_1109 : decode cL_law 1109 = .ok (.iconst 1, 1) := by decide +kernel
theorem dL_law_1110 : decode cL_law 1110 = .ok (.iadd, 1) := by decide +kernel
theorem dL_law_1111 : decode cL_law 1111 = .ok (.iaload, 1) := by decide +kernel
theorem dL_law_1112 : decode cL_law 1112 = .ok (.invokevirtual 116, 3) := by decide +kernel
theorem dL_law_1115 : decode cL_law 1115 = .ok (.aload_n 2, 1) := by decide +kernel
theorem dL_law_1116 : decode cL_law 1116 = .ok (.aload_n 0, 1) := by decide +kernel
theorem dL_law_1117 : decode cL_law 1117 = .ok (.iload_n 3, 1) := by decide +kernel
theorem dL_law_1118 : decode cL_law 1118 = .ok (.iconst 1, 1) := by decide +kernel
theorem dL_law_1119 : decode cL_law 1119 = .ok (.iadd, 1) := by decide +kernel
theorem dL_law_1120 : decode cL_law 1120 = .ok (.iaload, 1) := by decide +kernel
theorem dL_law_1121 : decode cL_law 1121 = .ok (.invokevirtual 119, 3) := by decide +kernel
theorem dL_law_1124 : decode cL_law 1124 = .ok (.if_icmp .eq 64, 3) := by decide +kernel
theorem dL_law_1127 : decode cL_law 1127 = .ok (.iconst 0, 1) := by decide +kernel
theorem dL_law_1128 : decode cL_law 1128 = .ok (.ireturn, 1) := by decide +kernel
theorem dL_law_1129 : decode cL_law 1129 = .ok (.aload_n 1, 1) := by decide +kernel
theorem dL_law_1130 : decode cL_law 1130 = .ok (.invokevirtual 120, 3) := by decide +kernel
theorem dL_law_1133 : decode cL_law 1133 = .ok (.aload_n 2, 1) := by decide +kernel
theorem dL_law_1134 : decode cL_law 1134 = .ok (.invokevirtual 123, 3) := by decide +kernel
theorem dL_law_1137 : decode cL_law 1137 = .ok (.if_icmp .eq 51, 3) := by decide +kernel
theorem dL_law_1140 : decode cL_law 1140 = .ok (.iconst 0, 1) := by decide +kernel
theorem dL_law_1141 : decode cL_law 1141 = .ok (.ireturn, 1) := by decide +kernel
theorem dL_law_1142 : decode cL_law 1142 = .ok (.aload_n 1, 1) := by decide +kernel
theorem dL_law_1143 : decode cL_law 1143 = .ok (.aload_n 0, 1) := by decide +kernel
theorem dL_law_1144 : decode cL_law 1144 = .ok (.iload_n 3, 1) := by decide +kernel
theorem dL_law_1145 : decode cL_law 1145 = .ok (.iconst 1, 1) := by decide +kernel
theorem dL_law_1146 : decode cL_law 1146 = .ok (.iadd, 1) := by decide +kernel
theorem dL_law_1147 : decode cL_law 1147 = .ok (.iaload, 1) := by decide +kernel
theorem dL_law_1148 : decode cL_law 1148 = .ok (.invokevirtual 124, 3) := by decide +kernel
theorem dL_law_1151 : decode cL_law 1151 = .ok (.aload_n 2, 1) := by decide +kernel
theorem dL_law_1152 : decode cL_law 1152 = .ok (.aload_n 0, 1) := by decide +kernel
theorem dL_law_1153 : decode cL_law 1153 = .ok (.iload_n 3, 1) := by decide +kernel
theorem dL_law_1154 : decode cL_law 1154 = .ok (.iconst 1, 1) := by decide +kernel
theorem dL_law_1155 : decode cL_law 1155 = .ok (.iadd, 1) := by decide +kernel
theorem dL_law_1156 : decode cL_law 1156 = .ok (.iaload, 1) := by decide +kernel
theorem dL_law_1157 : decode cL_law 1157 = .ok (.invokevirtual 127, 3) := by decide +kernel
theorem dL_law_1160 : decode cL_law 1160 = .ok (.if_icmp .eq 28, 3) := by decide +kernel
theorem dL_law_1163 : decode cL_law 1163 = .ok (.iconst 0, 1) := by decide +kernel
theorem dL_law_1164 : decode cL_law 1164 = .ok (.ireturn, 1) := by decide +kernel
theorem dL_law_1165 : decode cL_law 1165 = .ok (.aload_n 1, 1) := by decide +kernel
theorem dL_law_1166 : decode cL_law 1166 = .ok (.aload_n 0, 1) := by decide +kernel
theorem dL_law_1167 : decode cL_law 1167 = .ok (.iload_n 3, 1) := by decide +kernel
theorem dL_law_1168 : decode cL_law 1168 = .ok (.iconst 1, 1) := by decide +kernel
theorem dL_law_1169 : decode cL_law 1169 = .ok (.iadd, 1) := by decide +kernel
theorem dL_law_1170 : decode cL_law 1170 = .ok (.iaload, 1) := by decide +kernel
theorem dL_law_1171 : decode cL_law 1171 = .ok (.invokevirtual 128, 3) := by decide +kernel
theorem dL_law_1174 : decode cL_law 1174 = .ok (.aload_n 2, 1) := by decide +kernel
theorem dL_law_1175 : decode cL_law 1175 = .ok (.aload_n 0, 1) := by decide +kernel
theorem dL_law_1176 : decode cL_law 1176 = .ok (.iload_n 3, 1) := by decide +kernel
theorem dL_law_1177 : decode cL_law 1177 = .ok (.iconst 1, 1) := by decide +kernel
theorem dL_law_1178 : decode cL_law 1178 = .ok (.iadd, 1) := by decide +kernel
theorem dL_law_1179 : decode cL_law 1179 = .ok (.iaload, 1) := by decide +kernel
theorem dL_law_1180 : decode cL_law 1180 = .ok (.invokevirtual 131, 3) := by decide +kernel
theorem dL_law_1183 : decode cL_law 1183 = .ok (.if_icmp .eq 5, 3) := by decide +kernel
theorem dL_law_1186 : decode cL_law 1186 = .ok (.iconst 0, 1) := by decide +kernel
theorem dL_law_1187 : decode cL_law 1187 = .ok (.ireturn, 1) := by decide +kernel
theorem dL_law_1188 : decode cL_law 1188 = .ok (.iinc 3 8, 3) := by decide +kernel
theorem dL_law_1191 : decode cL_law 1191 = .ok (.goto (-1173), 3) := by decide +kernel
theorem dL_law_1194 : decode cL_law 1194 = .ok (.iconst 1, 1) := by decide +kernel
theorem dL_law_1195 : decode cL_law 1195 = .ok (.ireturn, 1) := by decide +kernel
