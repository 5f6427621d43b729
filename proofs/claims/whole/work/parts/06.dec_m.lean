theorem dX9_waveComes_15 : decode cX9_waveComes 15 = .ok (.getfield 201, 3) := by decide +kernel
theorem dX9_waveComes_18 : decode cX9_waveComes 18 = .ok (.if_icmp .ge 144, 3) := by decide +kernel
theorem dX9_waveComes_21 : decode cX9_waveComes 21 = .ok (.iconst 0, 1) := by decide +kernel
theorem dX9_waveComes_22 : decode cX9_waveComes 22 = .ok (.istore 5, 2) := by decide +kernel
theorem dX9_waveComes_24 : decode cX9_waveComes 24 = .ok (.iload 5, 2) := by decide +kernel
theorem dX9_waveComes_26 : decode cX9_waveComes 26 = .ok (.iload_n 2, 1) := by decide +kernel
theorem dX9_waveComes_27 : decode cX9_waveComes 27 = .ok (.aload_n 0, 1) := by decide +kernel
theorem dX9_waveComes_28 : decode cX9_waveComes 28 = .ok (.getfield 204, 3) := by decide +kernel
theorem dX9_waveComes_31 : decode cX9_waveComes 31 = .ok (.invokestatic 370, 3) := by decide +kernel
theorem dX9_waveComes_34 : decode cX9_waveComes 34 = .ok (.if_icmp .ge 122, 3) := by decide +kernel
theorem dX9_waveComes_37 : decode cX9_waveComes 37 = .ok (.aload_n 0, 1) := by decide +kernel
theorem dX9_waveComes_38 : decode cX9_waveComes 38 = .ok (.getfield 201, 3) := by decide +kernel
theorem dX9_waveComes_41 : decode cX9_waveComes 41 = .ok (.iload 5, 2) := by decide +kernel
theorem dX9_waveComes_43 : decode cX9_waveComes 43 = .ok (.imul, 1) := by decide +kernel
theorem dX9_waveComes_44 : decode cX9_waveComes 44 = .ok (.iload 4, 2) := by decide +kernel
theorem dX9_waveComes_46 : decode cX9_waveComes 46 = .ok (.iadd, 1) := by decide +kernel
theorem dX9_waveComes_47 : decode cX9_waveComes 47 = .ok (.istore 6, 2) := by decide +kernel
theorem dX9_waveComes_49 : decode cX9_waveComes 49 = .ok (.aload_n 1, 1) := by decide +kernel
theorem dX9_waveComes_50 : decode cX9_waveComes 50 = .ok (.sipush 192, 3) := by decide +kernel
theorem dX9_waveComes_53 : decode cX9_waveComes 53 = .ok (.iload 6, 2) := by decide +kernel
theorem dX9_waveComes_55 : decode cX9_waveComes 55 = .ok (.iadd, 1) := by decide +kernel
theorem dX9_waveComes_56 : decode cX9_waveComes 56 = .ok (.iaload, 1) := by decide +kernel
theorem dX9_waveComes_57 : decode cX9_waveComes 57 = .ok (.iconst 1, 1) := by decide +kernel
theorem dX9_waveComes_58 : decode cX9_waveComes 58 = .ok (.if_icmp .ne 31, 3) := by decide +kernel
theorem dX9_waveComes_61 : decode cX9_waveComes 61 = .ok (.iload 5, 2) := by decide +kernel
theorem dX9_waveComes_63 : decode cX9_waveComes 63 = .ok (.iconst 1, 1) := by decide +kernel
theorem dX9_waveComes_64 : decode cX9_waveComes 64 = .ok (.iadd, 1) := by decide +kernel
theorem dX9_waveComes_65 : decode cX9_waveComes 65 = .ok (.aload_n 0, 1) := by decide +kernel
theorem dX9_waveComes_66 : decode cX9_waveComes 66 = .ok (.getfield 204, 3) := by decide +kernel
theorem dX9_waveComes_69 : decode cX9_waveComes 69 = .ok (.if_icmp .ge 87, 3) := by decide +kernel
theorem dX9_waveComes_72 : decode cX9_waveComes 72 = .ok (.aload_n 1, 1) := by decide +kernel
theorem dX9_waveComes_73 : decode cX9_waveComes 73 = .ok (.bipush 64, 2) := by decide +kernel
theorem dX9_waveComes_75 : decode cX9_waveComes 75 = .ok (.iload 6, 2) := by decide +kernel
theorem dX9_waveComes_77 : decode cX9_waveComes 77 = .ok (.iadd, 1) := by decide +kernel
theorem dX9_waveComes_78 : decode cX9_waveComes 78 = .ok (.aload_n 0, 1) := by decide +kernel
theorem dX9_waveComes_79 : decode cX9_waveComes 79 = .ok (.getfield 201, 3) := by decide +kernel
theorem dX9_waveComes_82 : decode cX9_waveComes 82 = .ok (.iadd, 1) := by decide +kernel
theorem dX9_waveComes_83 : decode cX9_waveComes 83 = .ok (.bipush 16, 2) := by decide +kernel
theorem dX9_waveComes_85 : decode cX9_waveComes 85 = .ok (.iastore, 1) := by decide +kernel
theorem dX9_waveComes_86 : decode cX9_waveComes 86 = .ok (.goto 70, 3) := by decide +kernel
theorem dX9_waveComes_89 : decode cX9_waveComes 89 = .ok (.aload_n 1, 1) := by decide +kernel
theorem dX9_waveComes_90 : decode cX9_waveComes 90 = .ok (.bipush 64, 2) := by decide +kernel
theorem dX9_waveComes_92 : decode cX9_waveComes 92 = .ok (.iload 6, 2) := by decide +kernel
theorem dX9_waveComes_94 : decode cX9_waveComes 94 = .ok (.iadd, 1) := by decide +kernel
theorem dX9_waveComes_95 : decode cX9_waveComes 95 = .ok (.bipush 16, 2) := by decide +kernel
theorem dX9_waveComes_97 : decode cX9_waveComes 97 = .ok (.iastore, 1) := by decide +kernel
theorem dX9_waveComes_98 : decode cX9_waveComes 98 = .ok (.aload_n 1, 1) := by decide +kernel
theorem dX9_waveComes_99 : decode cX9_waveComes 99 = .ok (.iconst 0, 1) := by decide +kernel
theorem dX9_waveComes_100 : decode cX9_waveComes 100 = .ok (.iload 6, 2) := by decide +kernel
theorem dX9_waveComes_102 : decode cX9_waveComes 102 = .ok (.iadd, 1) := by decide +kernel
theorem dX9_waveComes_103 : decode cX9_waveComes 103 = .ok (.iaload, 1) := by decide +kernel
theorem dX9_waveComes_104 : decode cX9_waveComes 104 = .ok (.iload_n 3, 1) := by decide +kernel
theorem dX9_waveComes_105 : decode cX9_waveComes 105 = .ok (.if_icmp .gt 6, 3) := by decide +kernel
theorem dX9_waveComes_108 : decode cX9_waveComes 108 = .ok (.goto 42, 3) := by decide +kernel
theorem dX9_waveComes_111 : decode cX9_waveComes 111 = .ok (.aload_n 0, 1) := by decide +kernel
theorem dX9_waveComes_112 : decode cX9_waveComes 112 = .ok (.getfield 264, 3) := by decide +kernel
theorem dX9_waveComes_115 : decode cX9_waveComes 115 = .ok (.aload_n 1, 1) := by decide +kernel
theorem dX9_waveComes_116 : decode cX9_waveComes 116 = .ok (.iconst 0, 1) := by decide +kernel
theorem dX9_waveComes_117 : decode cX9_waveComes 117 = .ok (.iload 6, 2) := by decide +kernel
theorem dX9_waveComes_119 : decode cX9_waveComes 119 = .ok (.iadd, 1) := by decide +kernel
theorem dX9_waveComes_120 : decode cX9_waveComes 120 = .ok (.iaload, 1) := by decide +kernel
theorem dX9_waveComes_121 : decode cX9_waveComes 121 = .ok (.invokestatic 370, 3) := by decide +kernel
theorem dX9_waveComes_124 : decode cX9_waveComes 124 = .ok (.istore 7, 2) := by decide +kernel
theorem dX9_waveComes_126 : decode cX9_waveComes 126 = .ok (.aload_n 1, 1) := by decide +kernel
theorem dX9_waveComes_127 : decode cX9_waveComes 127 = .ok (.iconst 0, 1) := by decide +kernel
theorem dX9_waveComes_128 : decode cX9_waveComes 128 = .ok (.iload 6, 2) := by decide +kernel
theorem dX9_waveComes_130 : decode cX9_waveComes 130 = .ok (.iadd, 1) := by decide +kernel
theorem dX9_waveComes_131 : decode cX9_waveComes 131 = .ok (.dup2, 1) := by decide +kernel
theorem dX9_waveComes_132 : decode cX9_waveComes 132 = .ok (.iaload, 1) := by decide +kernel
theorem dX9_waveComes_133 : decode cX9_waveComes 133 = .ok (.iload 7, 2) := by decide +kernel
theorem dX9_waveComes_135 : decode cX9_waveComes 135 = .ok (.isub, 1) := by decide +kernel
theorem dX9_waveComes_136 : decode cX9_waveComes 136 = .ok (.iastore, 1) := by decide +kernel
theorem dX9_waveComes_137 : decode cX9_waveComes 137 = .ok (.aload_n 1, 1) := by decide +kernel
theorem dX9_waveComes_138 : decode cX9_waveComes 138 = .ok (.sipush 269, 3) := by decide +kernel
theorem dX9_waveComes_141 : decode cX9_waveComes 141 = .ok (.dup2, 1) := by decide +kernel
theorem dX9_waveComes_142 : decode cX9_waveComes 142 = .ok (.iaload, 1) := by decide +kernel
theorem dX9_waveComes_143 : decode cX9_waveComes 143 = .ok (.iload 7, 2) := by decide +kernel
theorem dX9_waveComes_145 : decode cX9_waveComes 145 = .ok (.iadd, 1) := by decide +kernel
theorem dX9_waveComes_146 : decode cX9_waveComes 146 = .ok (.iastore, 1) := by decide +kernel
theorem dX9_waveComes_147 : decode cX9_waveComes 147 = .ok (.goto 9, 3) := by decide +kernel
theorem dX9_waveComes_150 : decode cX9_waveComes 150 = .ok (.iinc 5 1, 3) := by decide +kernel
theorem dX9_waveComes_153 : decode cX9_waveComes 153 = .ok (.goto (-129), 3) := by decide +kernel
theorem dX9_waveComes_156 : decode cX9_waveComes 156 = .ok (.iinc 4 1, 3) := by decide +kernel
theorem dX9_waveComes_159 : decode cX9_waveComes 159 = .ok (.goto (-147), 3) := by decide +kernel
theorem dX9_waveComes_162 : decode cX9_waveComes 162 = .ok (.return_, 1) := by decide +kernel
theorem dX9_draw_0 : decode cX9_draw 0 = .ok (.ldc2_w 377, 3) := by decide +kernel
theorem dX9_draw_3 : decode cX9_draw 3 = .ok (.aload_n 0, 1) := by decide +kernel
theorem dX9_draw_4 : decode cX9_draw 4 = .ok (.sipush 288, 3) := by decide +kernel
theorem dX9_draw_7 : decode cX9_draw 7 = .ok (.iaload, 1) := by decide +kernel
theorem dX9_draw_8 : decode cX9_draw 8 = .ok (.i2l, 1) := by decide +kernel
theorem dX9_draw_9 : decode cX9_draw 9 = .ok (.lmul, 1) := by decide +kernel
theorem dX9_draw_10 : decode cX9_draw 10 = .ok (.ldc2_w 379, 3) := by decide +kernel
theorem dX9_draw_13 : decode cX9_draw 13 = .ok (.ladd, 1) := by decide +kernel
theorem dX9_draw_14 : decode cX9_draw 14 = .ok (.ldc2_w 381, 3) := by decide +kernel
theorem dX9_draw_17 : decode cX9_draw 17 = .ok (.lrem, 1) := by decide +kernel
theorem dX9_draw_18 : decode cX9_draw 18 = .ok (.lstore_n 2, 1) := by decide +kernel
theorem dX9_draw_19 : decode cX9_draw 19 = .ok (.aload_n 0, 1) := by decide +kernel
theorem dX9_draw_20 : decode cX9_draw 20 = .ok (.sipush 288, 3) := by decide +kernel
theorem dX9_draw_23 : decode cX9_draw 23 = .ok (.lload_n 2, 1) := by decide +kernel
theorem dX9_draw_24 : decode cX9_draw 24 = .ok (.l2i, 1) := by decide +kernel
theorem dX9_draw_25 : decode cX9_draw 25 = .ok (.iastore, 1) := by decide +kernel
theorem dX9_draw_26 : decode cX9_draw 26 = .ok (.lload_n 2, 1) := by decide +kernel
theorem dX9_draw_27 : decode cX9_draw 27 = .ok (.ldc2_w 383, 3) := by decide +kernel
theorem dX9_draw_30 : decode cX9_draw 30 = .ok (.ldiv, 1) := by decide +kernel
theorem dX9_draw_31 : decode cX9_draw 31 = .ok (.iload_n 1, 1) := by decide +kernel
theorem dX9_draw_32 : decode cX9_draw 32 = .ok (.i2l, 1) := by decide +kernel
theorem dX9_draw_33 : decode cX9_draw 33 = .ok (.lrem, 1) := by decide +kernel
theorem dX9_draw_34 : decode cX9_draw 34 = .ok (.l2i, 1) := by decide +kernel
theorem dX9_draw_35 : decode cX9_draw 35 = .ok (.ireturn, 1) := by decide +kernel
theorem dX9_seaComes_0 : decode cX9_seaComes 0 = .ok (.aload_n 1, 1) := by decide +kernel
theorem dX9_seaComes_1 : decode cX9_seaComes 1 = .ok (.sipush 270, 3) := by decide +kernel
theorem dX9_seaComes_4 : decode cX9_seaComes 4 = .ok (.iaload, 1) := by decide +kernel
theorem dX9_seaComes_5 : decode cX9_seaComes 5 = .ok (.istore_n 2, 1) := by decide +kernel
theorem dX9_seaComes_6 : decode cX9_seaComes 6 = .ok (.iconst 0, 1) := by decide +kernel
theorem dX9_seaComes_7 : decode cX9_seaComes 7 = .ok (.istore_n 3, 1) := by decide +kernel
theorem dX9_seaComes_8 : decode cX9_seaComes 8 = .ok (.iload_n 3, 1) := by decide +kernel
theorem dX9_seaComes_9 : decode cX9_seaComes 9 = .ok (.aload_n 0, 1) := by decide +kernel
theorem dX9_seaComes_10 : decode cX9_seaComes 10 = .ok (.getfield 334, 3) := by decide +kernel
theorem dX9_seaComes_13 : decode cX9_seaComes 13 = .ok (.if_icmp .ge 46, 3) := by decide +kernel
theorem dX9_seaComes_16 : decode cX9_seaComes 16 = .ok (.aload_n 0, 1) := by decide +kernel
theorem dX9_seaComes_17 : decode cX9_seaComes 17 = .ok (.getfield 256, 3) := by decide +kernel
theorem dX9_seaComes_20 : decode cX9_seaComes 20 = .ok (.iconst 3, 1) := by decide +kernel
theorem dX9_seaComes_21 : decode cX9_seaComes 21 = .ok (.iload_n 3, 1) := by decide +kernel
theorem dX9_seaComes_22 : decode cX9_seaComes 22 = .ok (.imul, 1) := by decide +kernel
theorem dX9_seaComes_23 : decode cX9_seaComes 23 = .ok (.iaload, 1) := by decide +kernel
theorem dX9_seaComes_24 : decode cX9_seaComes 24 = .ok (.iload_n 2, 1) := by decide +kernel
theorem dX9_seaComes_25 : decode cX9_seaComes 25 = .ok (.if_icmp .ne 28, 3) := by decide +kernel
theorem dX9_seaComes_28 : decode cX9_seaComes 28 = .ok (.aload_n 0, 1) := by decide +kernel
theorem dX9_seaComes_29 : decode cX9_seaComes 29 = .ok (.aload_n 1, 1) := by decide +kernel
theorem dX9_seaComes_30 : decode cX9_seaComes 30 = .ok (.aload_n 0, 1) := by decide +kernel
theorem dX9_seaComes_31 : decode cX9_seaComes 31 = .ok (.getfield 256, 3) := by decide +kernel
theorem dX9_seaComes_34 : decode cX9_seaComes 34 = .ok (.iconst 3, 1) := by decide +kernel
theorem dX9_seaComes_35 : decode cX9_seaComes 35 = .ok (.iload_n 3, 1) := by decide +kernel
theorem dX9_seaComes_36 : decode cX9_seaComes 36 = .ok (.imul, 1) := by decide +kernel
theorem dX9_seaComes_37 : decode cX9_seaComes 37 = .ok (.iconst 1, 1) := by decide +kernel
theorem dX9_seaComes_38 : decode cX9_seaComes 38 = .ok (.iadd, 1) := by decide +kernel
theorem dX9_seaComes_39 : decode cX9_seaComes 39 = .ok (.iaload, 1) := by decide +kernel
theorem dX9_seaComes_40 : decode cX9_seaComes 40 = .ok (.aload_n 0, 1) := by decide +kernel
theorem dX9_seaComes_41 : decode cX9_seaComes 41 = .ok (.getfield 256, 3) := by decide +kernel
theorem dX9_seaComes_44 : decode cX9_seaComes 44 = .ok (.iconst 3, 1) := by decide +kernel
theorem dX9_seaComes_45 : decode cX9_seaComes 45 = .ok (.iload_n 3, 1) := by decide +kernel
theorem dX9_seaComes_46 : decode cX9_seaComes 46 = .ok (.imul, 1) := by decide +kernel
theorem dX9_seaComes_47 : decode cX9_seaComes 47 = .ok (.iconst 2, 1) := by decide +kernel
theorem dX9_seaComes_48 : decode cX9_seaComes 48 = .ok (.iadd, 1) := by decide +kernel
theorem dX9_seaComes_49 : decode cX9_seaComes 49 = .ok (.iaload, 1) := by decide +kernel
theorem dX9_seaComes_50 : decode cX9_seaComes 50 = .ok (.invokevirtual 385, 3) := by decide +kernel
theorem dX9_seaComes_53 : decode cX9_seaComes 53 = .ok (.iinc 3 1, 3) := by decide +kernel
theorem dX9_seaComes_56 : decode cX9_seaComes 56 = .ok (.goto (-48), 3) := by decide +kernel
theorem dX9_seaComes_59 : decode cX9_seaComes 59 = .ok (.aload_n 0, 1) := by decide +kernel
theorem dX9_seaComes_60 : decode cX9_seaComes 60 = .ok (.getfield 258, 3) := by decide +kernel
theorem dX9_seaComes_63 : decode cX9_seaComes 63 = .ok (.iconst 0, 1) := by decide +kernel
theorem dX9_seaComes_64 : decode cX9_seaComes 64 = .ok (.iaload, 1) := by decide +kernel
theorem dX9_seaComes_65 : decode cX9_seaComes 65 = .ok (.iconst (-1), 1) := by decide +kernel
theorem dX9_seaComes_66 : decode cX9_seaComes 66 = .ok (.if_icmp .eq 41, 3) := by decide +kernel
theorem dX9_seaComes_69 : decode cX9_seaComes 69 = .ok (.iload_n 2, 1) := by decide +kernel
theorem dX9_seaComes_70 : decode cX9_seaComes 70 = .ok (.aload_n 0, 1) := by decide +kernel
theorem dX9_seaComes_71 : decode cX9_seaComes 71 = .ok (.getfield 258, 3) := by decide +kernel
theorem dX9_seaComes_74 : decode cX9_seaComes 74 = .ok (.iconst 0, 1) := by decide +kernel
theorem dX9_seaComes_75 : decode cX9_seaComes 75 = .ok (.iaload, 1) := by decide +kernel
theorem dX9_seaComes_76 : decode cX9_seaComes 76 = .ok (.if_icmp .lt 31, 3) := by decide +kernel
theorem dX9_seaComes_79 : decode cX9_seaComes 79 = .ok (.iload_n 2, 1) := by decide +kernel
theorem dX9_seaComes_80 : decode cX9_seaComes 80 = .ok (.aload_n 0, 1) := by decide +kernel
theorem dX9_seaComes_81 : decode cX9_seaComes 81 = .ok (.getfield 258, 3) := by decide +kernel
theorem dX9_seaComes_84 : decode cX9_seaComes 84 = .ok (.iconst 1, 1) := by decide +kernel
theorem dX9_seaComes_85 : decode cX9_seaComes 85 = .ok (.iaload, 1) := by decide +kernel
theorem dX9_seaComes_86 : decode cX9_seaComes 86 = .ok (.if_icmp .gt 21, 3) := by decide +kernel
theorem dX9_seaComes_89 : decode cX9_seaComes 89 = .ok (.iload_n 2, 1) := by decide +kernel
theorem dX9_seaComes_90 : decode cX9_seaComes 90 = .ok (.aload_n 0, 1) := by decide +kernel
theorem dX9_seaComes_91 : decode cX9_seaComes 91 = .ok (.getfield 258, 3) := by decide +kernel
theorem dX9_seaComes_94 : decode cX9_seaComes 94 = .ok (.iconst 0, 1) := by decide +kernel
theorem dX9_seaComes_95 : decode cX9_seaComes 95 = .ok (.iaload, 1) := by decide +kernel
theorem dX9_seaComes_96 : decode cX9_seaComes 96 = .ok (.isub, 1) := by decide +kernel
theorem dX9_seaComes_97 : decode cX9_seaComes 97 = .ok (.aload_n 0, 1) := by decide +kernel
theorem dX9_seaComes_98 : decode cX9_seaComes 98 = .ok (.getfield 258, 3) := by decide +kernel
theorem dX9_seaComes_101 : decode cX9_seaComes 101 = .ok (.iconst 2, 1) := by decide +kernel
theorem dX9_seaComes_102 : decode cX9_seaComes 102 = .ok (.iaload, 1) := by decide +kernel
theorem dX9_seaComes_103 : decode cX9_seaComes 103 = .ok (.irem, 1) := by decide +kernel
theorem dX9_seaComes_104 : decode cX9_seaComes 104 = .ok (.ifCond .eq 4, 3) := by decide +kernel
theorem dX9_seaComes_107 : decode cX9_seaComes 107 = .ok (.return_, 1) := by decide +kernel
theorem dX9_seaComes_108 : decode cX9_seaComes 108 = .ok (.aload_n 1, 1) := by decide +kernel
theorem dX9_seaComes_109 : decode cX9_seaComes 109 = .ok (.bipush 100, 2) := by decide +kernel
theorem dX9_seaComes_111 : decode cX9_seaComes 111 = .ok (.invokestatic 388, 3) := by decide +kernel
theorem dX9_seaComes_114 : decode cX9_seaComes 114 = .ok (.aload_n 0, 1) := by decide +kernel
theorem dX9_seaComes_115 : decode cX9_seaComes 115 = .ok (.getfield 258, 3) := by decide +kernel
theorem dX9_seaComes_118 : decode cX9_seaComes 118 = .ok (.iconst 3, 1) := by decide +kernel
theorem dX9_seaComes_119 : decode cX9_seaComes 119 = .ok (.iaload, 1) := by decide +kernel
theorem dX9_seaComes_120 : decode cX9_seaComes 120 = .ok (.if_icmp .lt 4, 3) := by decide +kernel
theorem dX9_seaComes_123 : decode cX9_seaComes 123 = .ok (.return_, 1) := by decide +kernel
theorem dX9_seaComes_124 : decode cX9_seaComes 124 = .ok (.aload_n 0, 1) := by decide +kernel
theorem dX9_seaComes_125 : decode cX9_seaComes 125 = .ok (.getfield 260, 3) := by decide +kernel
theorem dX9_seaComes_128 : decode cX9_seaComes 128 = .ok (.iconst 0, 1) := by decide +kernel
theorem dX9_seaComes_129 : decode cX9_seaComes 129 = .ok (.iaload, 1) := by decide +kernel
theorem dX9_seaComes_130 : decode cX9_seaComes 130 = .ok (.aload_n 1, 1) := by decide +kernel
theorem dX9_seaComes_131 : decode cX9_seaComes 131 = .ok (.aload_n 0, 1) := by decide +kernel
theorem dX9_seaComes_132 : decode cX9_seaComes 132 = .ok (.getfield 260, 3) := by decide +kernel
theorem dX9_seaComes_135 : decode cX9_seaComes 135 = .ok (.iconst 1, 1) := by decide +kernel
theorem dX9_seaComes_136 : decode cX9_seaComes 136 = .ok (.iaload, 1) := by decide +kernel
theorem dX9_seaComes_137 : decode cX9_seaComes 137 = .ok (.aload_n 0, 1) := by decide +kernel
theorem dX9_seaComes_138 : decode cX9_seaComes 138 = .ok (.getfield 260, 3) := by decide +kernel
theorem dX9_seaComes_141 : decode cX9_seaComes 141 = .ok (.iconst 0, 1) := by decide +kernel
theorem dX9_seaComes_142 : decode cX9_seaComes 142 = .ok (.iaload, 1) := by decide +kernel
theorem dX9_seaComes_143 : decode cX9_seaComes 143 = .ok (.isub, 1) := by decide +kernel
theorem dX9_seaComes_144 : decode cX9_seaComes 144 = .ok (.iconst 1, 1) := by decide +kernel
theorem dX9_seaComes_145 : decode cX9_seaComes 145 = .ok (.iadd, 1) := by decide +kernel
theorem dX9_seaComes_146 : decode cX9_seaComes 146 = .ok (.invokestatic 388, 3) := by decide +kernel
theorem dX9_seaComes_149 : decode cX9_seaComes 149 = .ok (.iadd, 1) := by decide +kernel
theorem dX9_seaComes_150 : decode cX9_seaComes 150 = .ok (.istore_n 3, 1) := by decide +kernel
theorem dX9_seaComes_151 : decode cX9_seaComes 151 = .ok (.aload_n 0, 1) := by decide +kernel
theorem dX9_seaComes_152 : decode cX9_seaComes 152 = .ok (.aload_n 1, 1) := by decide +kernel
theorem dX9_seaComes_153 : decode cX9_seaComes 153 = .ok (.iload_n 3, 1) := by decide +kernel
theorem dX9_seaComes_154 : decode cX9_seaComes 154 = .ok (.aload_n 0, 1) := by decide +kernel
theorem dX9_seaComes_155 : decode cX9_seaComes 155 = .ok (.getfield 262, 3) := by decide +kernel
theorem dX9_seaComes_158 : decode cX9_seaComes 158 = .ok (.iconst 0, 1) := by decide +kernel
theorem dX9_seaComes_159 : decode cX9_seaComes 159 = .ok (.iaload, 1) := by decide +kernel
theorem dX9_seaComes_160 : decode cX9_seaComes 160 = .ok (.aload_n 1, 1) := by decide +kernel
theorem dX9_seaComes_161 : decode cX9_seaComes 161 = .ok (.aload_n 0, 1) := by decide +kernel
theorem dX9_seaComes_162 : decode cX9_seaComes 162 = .ok (.getfield 262, 3) := by decide +kernel
theorem dX9_seaComes_165 : decode cX9_seaComes 165 = .ok (.iconst 1, 1) := by decide +kernel
theorem dX9_seaComes_166 : decode cX9_seaComes 166 = .ok (.iaload, 1) := by decide +kernel
theorem dX9_seaComes_167 : decode cX9_seaComes 167 = .ok (.aload_n 0, 1) := by decide +kernel
theorem dX9_seaComes_168 : decode cX9_seaComes 168 = .ok (.getfield 262, 3) := by decide +kernel
theorem dX9_seaComes_171 : decode cX9_seaComes 171 = .ok (.iconst 0, 1) := by decide +kernel
theorem dX9_seaComes_172 : decode cX9_seaComes 172 = .ok (.iaload, 1) := by decide +kernel
theorem dX9_seaComes_173 : decode cX9_seaComes 173 = .ok (.isub, 1) := by decide +kernel
theorem dX9_seaComes_174 : decode cX9_seaComes 174 = .ok (.iconst 1, 1) := by decide +kernel
theorem dX9_seaComes_175 : decode cX9_seaComes 175 = .ok (.iadd, 1) := by decide +kernel
theorem dX9_seaComes_176 : decode cX9_seaComes 176 = .ok (.invokestatic 388, 3) := by decide +kernel
theorem dX9_seaComes_179 : decode cX9_seaComes 179 = .ok (.iadd, 1) := by decide +kernel
theorem dX9_seaComes_180 : decode cX9_seaComes 180 = .ok (.invokevirtual 385, 3) := by decide +kernel
theorem dX9_seaComes_183 : decode cX9_seaComes 183 = .ok (.return_, 1) := by decide +kernel
theorem dX9_sun_0 : decode cX9_sun 0 = .ok (.aload_n 1, 1) := by decide +kernel
theorem dX9_sun_1 : decode cX9_sun 1 = .ok (.sipush 270, 3) := by decide +kernel
theorem dX9_sun_4 : decode cX9_sun 4 = .ok (.iaload, 1) := by decide +kernel
theorem dX9_sun_5 : decode cX9_sun 5 = .ok (.iconst 1, 1) := by decide +kernel
theorem dX9_sun_6 : decode cX9_sun 6 = .ok (.iadd, 1) := by decide +kernel
theorem dX9_sun_7 : decode cX9_sun 7 = .ok (.aload_n 0, 1) := by decide +kernel
theorem dX9_sun_8 : decode cX9_sun 8 = .ok (.getfield 245, 3) := by decide +kernel
theorem dX9_sun_11 : decode cX9_sun 11 = .ok (.iconst 2, 1) := by decide +kernel
theorem dX9_sun_12 : decode cX9_sun 12 = .ok (.iaload, 1) := by decide +kernel
theorem dX9_sun_13 : decode cX9_sun 13 = .ok (.irem, 1) := by decide +kernel
theorem dX9_sun_14 : decode cX9_sun 14 = .ok (.ifCond .eq 4, 3) := by decide +kernel
theorem dX9_sun_17 : decode cX9_sun 17 = .ok (.return_, 1) := by decide +kernel
theorem dX9_sun_18 : decode cX9_sun 18 = .ok (.aload_n 0, 1) := by decide +kernel
theorem dX9_sun_19 : decode cX9_sun 19 = .ok (.getfield 201, 3) := by decide +kernel
theorem dX9_sun_22 : decode cX9_sun 22 = .ok (.istore_n 2, 1) := by decide +kernel
theorem dX9_sun_23 : decode cX9_sun 23 = .ok (.iload_n 2, 1) := by decide +kernel
theorem dX9_sun_24 : decode cX9_sun 24 = .ok (.aload_n 0, 1) := by decide +kernel
theorem dX9_sun_25 : decode cX9_sun 25 = .ok (.getfield 201, 3) := by decide +kernel
theorem dX9_sun_28 : decode cX9_sun 28 = .ok (.aload_n 0, 1) := by decide +kernel
theorem dX9_sun_29 : decode cX9_sun 29 = .ok (.getfield 204, 3) := by decide +kernel
theorem dX9_sun_32 : decode cX9_sun 32 = .ok (.imul, 1) := by decide +kernel
theorem dX9_sun_33 : decode cX9_sun 33 = .ok (.if_icmp .ge 41, 3) := by decide +kernel
theorem dX9_sun_36 : decode cX9_sun 36 = .ok (.aload_n 1, 1) := by decide +kernel
theorem dX9_sun_37 : decode cX9_sun 37 = .ok (.bipush 64, 2) := by decide +kernel
theorem dX9_sun_39 : decode cX9_sun 39 = .ok (.iload_n 2, 1) := by decide +kernel
theorem dX9_sun_40 : decode cX9_sun 40 = .ok (.iadd, 1) := by decide +kernel
theorem dX9_sun_41 : decode cX9_sun 41 = .ok (.iconst 0, 1) := by decide +kernel
theorem dX9_sun_42 : decode cX9_sun 42 = .ok (.aload_n 1, 1) := by decide +kernel
theorem dX9_sun_43 : decode cX9_sun 43 = .ok (.bipush 64, 2) := by decide +kernel
theorem dX9_sun_45 : decode cX9_sun 45 = .ok (.iload_n 2, 1) := by decide +kernel
theorem dX9_sun_46 : decode cX9_sun 46 = .ok (.iadd, 1) := by decide +kernel
theorem dX9_sun_47 : decode cX9_sun 47 = .ok (.iaload, 1) := by decide +kernel
theorem dX9_sun_48 : decode cX9_sun 48 = .ok (.aload_n 1, 1) := by decide +kernel
theorem dX9_sun_49 : decode cX9_sun 49 = .ok (.iconst 0, 1) := by decide +kernel
theorem dX9_sun_50 : decode cX9_sun 50 = .ok (.iload_n 2, 1) := by decide +kernel
theorem dX9_sun_51 : decode cX9_sun 51 = .ok (.iadd, 1) := by decide +kernel
theorem dX9_sun_52 : decode cX9_sun 52 = .ok (.iaload, 1) := by decide +kernel
theorem dX9_sun_53 : decode cX9_sun 53 = .ok (.bipush 10, 2) := by decide +kernel
theorem dX9_sun_55 : decode cX9_sun 55 = .ok (.if_icmp .lt 7, 3) := by decide +kernel
theorem dX9_sun_58 : decode cX9_sun 58 = .ok (.iconst 2, 1) := by decide +kernel
theorem dX9_sun_59 : decode cX9_sun 59 = .ok (.goto 4, 3) := by decide +kernel
theorem dX9_sun_62 : decode cX9_sun 62 = .ok (.iconst 1, 1) := by decide +kernel
theorem dX9_sun_63 : decode cX9_sun 63 = .ok (.isub, 1) := by decide +kernel
theorem dX9_sun_64 : decode cX9_sun 64 = .ok (.invokestatic 359, 3) := by decide +kernel
theorem dX9_sun_67 : decode cX9_sun 67 = .ok (.iastore, 1) := by decide +kernel
theorem dX9_sun_68 : decode cX9_sun 68 = .ok (.iinc 2 1, 3) := by decide +kernel
theorem dX9_sun_71 : decode cX9_sun 71 = .ok (.goto (-48), 3) := by decide +kernel
theorem dX9_sun_74 : decode cX9_sun 74 = .ok (.return_, 1) := by decide +kernel
theorem dX9_lowestBeside_0 : decode cX9_lowestBeside 0 = .ok (.iload_n 2, 1) := by decide +kernel
theorem dX9_lowestBeside_1 : decode cX9_lowestBeside 1 = .ok (.aload_n 0, 1) := by decide +kernel
theorem dX9_lowestBeside_2 : decode cX9_lowestBeside 2 = .ok (.getfield 201, 3) := by decide +kernel
theorem dX9_lowestBeside_5 : decode cX9_lowestBeside 5 = .ok (.irem, 1) := by decide +kernel
theorem dX9_lowestBeside_6 : decode cX9_lowestBeside 6 = .ok (.istore_n 3, 1) := by decide +kernel
theorem dX9_lowestBeside_7 : decode cX9_lowestBeside 7 = .ok (.iconst (-1), 1) := by decide +kernel
theorem dX9_lowestBeside_8 : decode cX9_lowestBeside 8 = .ok (.istore 4, 2) := by decide +kernel
theorem dX9_lowestBeside_10 : decode cX9_lowestBeside 10 = .ok (.iconst 0, 1) := by decide +kernel
theorem dX9_lowestBeside_11 : decode cX9_lowestBeside 11 = .ok (.istore 5, 2) := by decide +kernel
theorem dX9_lowestBeside_13 : decode cX9_lowestBeside 13 = .ok (.iload 5, 2) := by decide +kernel
theorem dX9_lowestBeside_15 : decode cX9_lowestBeside 15 = .ok (.iconst 4, 1) := by decide +kernel
theorem dX9_lowestBeside_16 : decode cX9_lowestBeside 16 = .ok (.if_icmp .ge 136, 3) := by decide +kernel
theorem dX9_lowestBeside_19 : decode cX9_lowestBeside 19 = .ok (.iload 5, 2) := by decide +kernel
theorem dX9_lowestBeside_21 : decode cX9_lowestBeside 21 = .ok (.ifCond .ne 12, 3) := by decide +kernel
theorem dX9_lowestBeside_24 : decode cX9_lowestBeside 24 = .ok (.iload_n 2, 1) := by decide +kernel
theorem dX9_lowestBeside_25 : decode cX9_lowestBeside 25 = .ok (.aload_n 0, 1) := by decide +kernel
theorem dX9_lowestBeside_26 : decode cX9_lowestBeside 26 = .ok (.getfield 201, 3) := by decide +kernel
theorem dX9_lowestBeside_29 : decode cX9_lowestBeside 29 = .ok (.isub, 1) := by decide +kernel
theorem dX9_lowestBeside_30 : decode cX9_lowestBeside 30 = .ok (.goto 55, 3) := by decide +kernel
theorem dX9_lowestBeside_33 : decode cX9_lowestBeside 33 = .ok (.iload 5, 2) := by decide +kernel
theorem dX9_lowestBeside_35 : decode cX9_lowestBeside 35 = .ok (.iconst 1, 1) := by decide +kernel
theorem dX9_lowestBeside_36 : decode cX9_lowestBeside 36 = .ok (.if_icmp .ne 17, 3) := by decide +kernel
theorem dX9_lowestBeside_39 : decode cX9_lowestBeside 39 = .ok (.iload_n 3, 1) := by decide +kernel
theorem dX9_lowestBeside_40 : decode cX9_lowestBeside 40 = .ok (.ifCond .le 9, 3) := by decide +kernel
theorem dX9_lowestBeside_43 : decode cX9_lowestBeside 43 = .ok (.iload_n 2, 1) := by decide +kernel
theorem dX9_lowestBeside_44 : decode cX9_lowestBeside 44 = .ok (.iconst 1, 1) := by decide +kernel
theorem dX9_lowestBeside_45 : decode cX9_lowestBeside 45 = .ok (.isub, 1) := by decide +kernel
theorem dX9_lowestBeside_46 : decode cX9_lowestBeside 46 = .ok (.goto 39, 3) := by decide +kernel
theorem dX9_lowestBeside_49 : decode cX9_lowestBeside 49 = .ok (.iconst (-1), 1) := by decide +kernel
theorem dX9_lowestBeside_50 : decode cX9_lowestBeside 50 = .ok (.goto 35, 3) := by decide +kernel
theorem dX9_lowestBeside_53 : decode cX9_lowestBeside 53 = .ok (.iload 5, 2) := by decide +kernel
theorem dX9_lowestBeside_55 : decode cX9_lowestBeside 55 = .ok (.iconst 2, 1) := by decide +kernel
theorem dX9_lowestBeside_56 : decode cX9_lowestBeside 56 = .ok (.if_icmp .ne 23, 3) := by decide +kernel
theorem dX9_lowestBeside_59 : decode cX9_lowestBeside 59 = .ok (.iload_n 3, 1) := by decide +kernel
theorem dX9_lowestBeside_60 : decode cX9_lowestBeside 60 = .ok (.iconst 1, 1) := by decide +kernel
theorem dX9_lowestBeside_61 : decode cX9_lowestBeside 61 = .ok (.iadd, 1) := by decide +kernel
theorem dX9_lowestBeside_62 : decode cX9_lowestBeside 62 = .ok (.aload_n 0, 1) := by decide +kernel
theorem dX9_lowestBeside_63 : decode cX9_lowestBeside 63 = .ok (.getfield 201, 3) := by decide +kernel
theorem dX9_lowestBeside_66 : decode cX9_lowestBeside 66 = .ok (.if_icmp .ge 9, 3) := by decide +kernel
theorem dX9_lowestBeside_69 : decode cX9_lowestBeside 69 = .ok (.iload_n 2, 1) := by decide +kernel
theorem dX9_lowestBeside_70 : decode cX9_lowestBeside 70 = .ok (.iconst 1, 1) := by decide +kernel
theorem dX9_lowestBeside_71 : decode cX9_lowestBeside 71 = .ok (.iadd, 1) := by decide +kernel
theorem dX9_lowestBeside_72 : decode cX9_lowestBeside 72 = .ok (.goto 13, 3) := by decide +kernel
theorem dX9_lowestBeside_75 : decode cX9_lowestBeside 75 = .ok (.iconst (-1), 1) := by decide +kernel
theorem dX9_lowestBeside_76 : decode cX9_lowestBeside 76 = .ok (.goto 9, 3) := by decide +kernel
theorem dX9_lowestBeside_79 : decode cX9_lowestBeside 79 = .ok (.iload_n 2, 1) := by decide +kernel
theorem dX9_lowestBeside_80 : decode cX9_lowestBeside 80 = .ok (.aload_n 0, 1) := by decide +kernel
theorem dX9_lowestBeside_81 : decode cX9_lowestBeside 81 = .ok (.getfield 201, 3) := by decide +kernel
theorem dX9_lowestBeside_84 : decode cX9_lowestBeside 84 = .ok (.iadd, 1) := by decide +kernel
theorem dX9_lowestBeside_85 : decode cX9_lowestBeside 85 = .ok (.istore 6, 2) := by decide +kernel
theorem dX9_lowestBeside_87 : decode cX9_lowestBeside 87 = .ok (.iload 6, 2) := by decide +kernel
theorem dX9_lowestBeside_89 : decode cX9_lowestBeside 89 = .ok (.ifCond .lt 57, 3) := by decide +kernel
theorem dX9_lowestBeside_92 : decode cX9_lowestBeside 92 = .ok (.iload 6, 2) := by decide +kernel
theorem dX9_lowestBeside_94 : decode cX9_lowestBeside 94 = .ok (.aload_n 0, 1) := by decide +kernel
theorem dX9_lowestBeside_95 : decode cX9_lowestBeside 95 = .ok (.getfield 201, 3) := by decide +kernel
theorem dX9_lowestBeside_98 : decode cX9_lowestBeside 98 = .ok (.aload_n 0, 1) := by decide +kernel
theorem dX9_lowestBeside_99 : decode cX9_lowestBeside 99 = .ok (.getfield 204, 3) := by decide +kernel
theorem dX9_lowestBeside_102 : decode cX9_lowestBeside 102 = .ok (.imul, 1) := by decide +kernel
theorem dX9_lowestBeside_103 : decode cX9_lowestBeside 103 = .ok (.if_icmp .ge 43, 3) := by decide +kernel
theorem dX9_lowestBeside_106 : decode cX9_lowestBeside 106 = .ok (.aload_n 1, 1) := by decide +kernel
theorem dX9_lowestBeside_107 : decode cX9_lowestBeside 107 = .ok (.sipush 192, 3) := by decide +kernel
theorem dX9_lowestBeside_110 : decode cX9_lowestBeside 110 = .ok (.iload 6, 2) := by decide +kernel
theorem dX9_lowestBeside_112 : decode cX9_lowestBeside 112 = .ok (.iadd, 1) := by decide +kernel
theorem dX9_lowestBeside_113 : decode cX9_lowestBeside 113 = .ok (.iaload, 1) := by decide +kernel
theorem dX9_lowestBeside_114 : decode cX9_lowestBeside 114 = .ok (.iconst 1, 1) := by decide +kernel
theorem dX9_lowestBeside_115 : decode cX9_lowestBeside 115 = .ok (.if_icmp .ne 6, 3) := by decide +kernel
theorem dX9_lowestBeside_118 : decode cX9_lowestBeside 118 = .ok (.goto 28, 3) := by decide +kernel
theorem dX9_lowestBeside_121 : decode cX9_lowestBeside 121 = .ok (.iload 4, 2) := by decide +kernel
theorem dX9_lowestBeside_123 : decode cX9_lowestBeside 123 = .ok (.iconst (-1), 1) := by decide +kernel
theorem dX9_lowestBeside_124 : decode cX9_lowestBeside 124 = .ok (.if_icmp .eq 18, 3) := by decide +kernel
theorem dX9_lowestBeside_127 : decode cX9_lowestBeside 127 = .ok (.aload_n 1, 1) := by decide +kernel
theorem dX9_lowestBeside_128 : decode cX9_lowestBeside 128 = .ok (.iconst 0, 1) := by decide +kernel
theorem dX9_lowestBeside_129 : decode cX9_lowestBeside 129 = .ok (.iload 6, 2) := by decide +kernel
theorem dX9_lowestBeside_131 : decode cX9_lowestBeside 131 = .ok (.iadd, 1) := by decide +kernel
theorem dX9_lowestBeside_132 : decode cX9_lowestBeside 132 = .ok (.iaload, 1) := by decide +kernel
theorem dX9_lowestBeside_133 : decode cX9_lowestBeside 133 = .ok (.aload_n 1, 1) := by decide +kernel
theorem dX9_lowestBeside_134 : decode cX9_lowestBeside 134 = .ok (.iconst 0, 1) := by decide +kernel
theorem dX9_lowestBeside_135 : decode cX9_lowestBeside 135 = .ok (.iload 4, 2) := by decide +kernel
theorem dX9_lowestBeside_137 : decode cX9_lowestBeside 137 = .ok (.iadd, 1) := by decide +kernel
theorem dX9_lowestBeside_138 : decode cX9_lowestBeside 138 = .ok (.iaload, 1) := by decide +kernel
theorem dX9_lowestBeside_139 : decode cX9_lowestBeside 139 = .ok (.if_icmp .ge 7, 3) := by decide +kernel
theorem dX9_lowestBeside_142 : decode cX9_lowestBeside 142 = .ok (.iload 6, 2) := by decide +kernel
theorem dX9_lowestBeside_144 : decode cX9_lowestBeside 144 = .ok (.istore 4, 2) := by decide +kernel
theorem dX9_lowestBeside_146 : decode cX9_lowestBeside 146 = .ok (.iinc 5 1, 3) := by decide +kernel
theorem dX9_lowestBeside_149 : decode cX9_lowestBeside 149 = .ok (.goto (-136), 3) := by decide +kernel
theorem dX9_lowestBeside_152 : decode cX9_lowestBeside 152 = .ok (.iload 4, 2) := by decide +kernel
theorem dX9_lowestBeside_154 : decode cX9_lowestBeside 154 = .ok (.ireturn, 1) := by decide +kernel
theorem dX9_slides_0 : decode cX9_slides 0 = .ok (.aload_n 1, 1) := by decide +kernel
theorem dX9_slides_1 : decode cX9_slides 1 = .ok (.sipush 272, 3) := by decide +kernel
theorem dX9_slides_4 : decode cX9_slides 4 = .ok (.iconst 0, 1) := by decide +kernel
theorem dX9_slides_5 : decode cX9_slides 5 = .ok (.iastore, 1) := by decide +kernel
theorem dX9_slides_6 : decode cX9_slides 6 = .ok (.aload_n 1, 1) := by decide +kernel
theorem dX9_slides_7 : decode cX9_slides 7 = .ok (.sipush 273, 3) := by decide +kernel
theorem dX9_slides_10 : decode cX9_slides 10 = .ok (.iconst 0, 1) := by decide +kernel
theorem dX9_slides_11 : decode cX9_slides 11 = .ok (.iastore, 1) := by decide +kernel
theorem dX9_slides_12 : decode cX9_slides 12 = .ok (.iconst 1, 1) := by decide +kernel
theorem dX9_slides_13 : decode cX9_slides 13 = .ok (.istore_n 2, 1) := by decide +kernel
theorem dX9_slides_14 : decode cX9_slides 14 = .ok (.iconst 0, 1) := by decide +kernel
theorem dX9_slides_15 : decode cX9_slides 15 = .ok (.istore_n 3, 1) := by decide +kernel
theorem dX9_slides_16 : decode cX9_slides 16 = .ok (.iload_n 3, 1) := by decide +kernel
theorem dX9_slides_17 : decode cX9_slides 17 = .ok (.bipush 50, 2) := by decide +kernel
theorem dX9_slides_19 : decode cX9_slides 19 = .ok (.if_icmp .ge 162, 3) := by decide +kernel
theorem dX9_slides_22 : decode cX9_slides 22 = .ok (.iload_n 2, 1) := by decide +kernel
theorem dX9_slides_23 : decode cX9_slides 23 = .ok (.ifCond .eq 158, 3) := by decide +kernel
theorem dX9_slides_26 : decode cX9_slides 26 = .ok (.aload_n 1, 1) := by decide +kernel
theorem dX9_slides_27 : decode cX9_slides 27 = .ok (.sipush 272, 3) := by decide +kernel
theorem dX9_slides_30 : decode cX9_slides 30 = .ok (.iaload, 1) := by decide +kernel
theorem dX9_slides_31 : decode cX9_slides 31 = .ok (.istore 4, 2) := by decide +kernel
theorem dX9_slides_33 : decode cX9_slides 33 = .ok (.iconst 0, 1) := by decide +kernel
theorem dX9_slides_34 : decode cX9_slides 34 = .ok (.istore 5, 2) := by decide +kernel
theorem dX9_slides_36 : decode cX9_slides 36 = .ok (.iload 5, 2) := by decide +kernel
theorem dX9_slides_38 : decode cX9_slides 38 = .ok (.aload_n 0, 1) := by decide +kernel
theorem dX9_slides_39 : decode cX9_slides 39 = .ok (.getfield 201, 3) := by decide +kernel
theorem dX9_slides_42 : decode cX9_slides 42 = .ok (.aload_n 0, 1) := by decide +kernel
theorem dX9_slides_43 : decode cX9_slides 43 = .ok (.getfield 204, 3) := by decide +kernel
theorem dX9_slides_46 : decode cX9_slides 46 = .ok (.imul, 1) := by decide +kernel
theorem dX9_slides_47 : decode cX9_slides 47 = .ok (.if_icmp .ge 95, 3) := by decide +kernel
theorem dX9_slides_50 : decode cX9_slides 50 = .ok (.aload_n 1, 1) := by decide +kernel
theorem dX9_slides_51 : decode cX9_slides 51 = .ok (.sipush 192, 3) := by decide +kernel
theorem dX9_slides_54 : decode cX9_slides 54 = .ok (.iload 5, 2) := by decide +kernel
theorem dX9_slides_56 : decode cX9_slides 56 = .ok (.iadd, 1) := by decide +kernel
theorem dX9_slides_57 : decode cX9_slides 57 = .ok (.iaload, 1) := by decide +kernel
theorem dX9_slides_58 : decode cX9_slides 58 = .ok (.iconst 1, 1) := by decide +kernel
theorem dX9_slides_59 : decode cX9_slides 59 = .ok (.if_icmp .ne 6, 3) := by decide +kernel
theorem dX9_slides_62 : decode cX9_slides 62 = .ok (.goto 74, 3) := by decide +kernel
theorem dX9_slides_65 : decode cX9_slides 65 = .ok (.aload_n 0, 1) := by decide +kernel
theorem dX9_slides_66 : decode cX9_slides 66 = .ok (.aload_n 1, 1) := by decide +kernel
theorem dX9_slides_67 : decode cX9_slides 67 = .ok (.iload 5, 2) := by decide +kernel
theorem dX9_slides_69 : decode cX9_slides 69 = .ok (.invokevirtual 392, 3) := by decide +kernel
theorem dX9_slides_72 : decode cX9_slides 72 = .ok (.istore 6, 2) := by decide +kernel
theorem dX9_slides_74 : decode cX9_slides 74 = .ok (.iload 6, 2) := by decide +kernel
theorem dX9_slides_76 : decode cX9_slides 76 = .ok (.iconst (-1), 1) := by decide +kernel
theorem dX9_slides_77 : decode cX9_slides 77 = .ok (.if_icmp .eq 59, 3) := by decide +kernel
theorem dX9_slides_80 : decode cX9_slides 80 = .ok (.aload_n 1, 1) := by decide +kernel
theorem dX9_slides_81 : decode cX9_slides 81 = .ok (.iconst 0, 1) := by decide +kernel
theorem dX9_slides_82 : decode cX9_slides 82 = .ok (.iload 5, 2) := by decide +kernel
theorem dX9_slides_84 : decode cX9_slides 84 = .ok (.iadd, 1) := by decide +kernel
theorem dX9_slides_85 : decode cX9_slides 85 = .ok (.iaload, 1) := by decide +kernel
theorem dX9_slides_86 : decode cX9_slides 86 = .ok (.aload_n 1, 1) := by decide +kernel
theorem dX9_slides_87 : decode cX9_slides 87 = .ok (.iconst 0, 1) := by decide +kernel
theorem dX9_slides_88 : decode cX9_slides 88 = .ok (.iload 6, 2) := by decide +kernel
theorem dX9_slides_90 : decode cX9_slides 90 = .ok (.iadd, 1) := by decide +kernel
theorem dX9_slides_91 : decode cX9_slides 91 = .ok (.iaload, 1) := by decide +kernel
theorem dX9_slides_92 : decode cX9_slides 92 = .ok (.isub, 1) := by decide +kernel
theorem dX9_slides_93 : decode cX9_slides 93 = .ok (.aload_n 0, 1) := by decide +kernel
theorem dX9_slides_94 : decode cX9_slides 94 = .ok (.aload_n 1, 1) := by decide +kernel
theorem dX9_slides_95 : decode cX9_slides 95 = .ok (.bipush 64, 2) := by decide +kernel
theorem dX9_slides_97 : decode cX9_slides 97 = .ok (.iload 5, 2) := by decide +kernel
theorem dX9_slides_99 : decode cX9_slides 99 = .ok (.iadd, 1) := by decide +kernel
theorem dX9_slides_100 : decode cX9_slides 100 = .ok (.iaload, 1) := by decide +kernel
theorem dX9_slides_101 : decode cX9_slides 101 = .ok (.aload_n 1, 1) := by decide +kernel
theorem dX9_slides_102 : decode cX9_slides 102 = .ok (.sipush 128, 3) := by decide +kernel
theorem dX9_slides_105 : decode cX9_slides 105 = .ok (.iload 5, 2) := by decide +kernel
theorem dX9_slides_107 : decode cX9_slides 107 = .ok (.iadd, 1) := by decide +kernel
theorem dX9_slides_108 : decode cX9_slides 108 = .ok (.iaload, 1) := by decide +kernel
theorem dX9_slides_109 : decode cX9_slides 109 = .ok (.invokevirtual 395, 3) := by decide +kernel
theorem dX9_slides_112 : decode cX9_slides 112 = .ok (.if_icmp .gt 6, 3) := by decide +kernel
theorem dX9_slides_115 : decode cX9_slides 115 = .ok (.goto 21, 3) := by decide +kernel
theorem dX9_slides_118 : decode cX9_slides 118 = .ok (.aload_n 0, 1) := by decide +kernel
theorem dX9_slides_119 : decode cX9_slides 119 = .ok (.aload_n 1, 1) := by decide +kernel
theorem dX9_slides_120 : decode cX9_slides 120 = .ok (.iload 5, 2) := by decide +kernel
theorem dX9_slides_122 : decode cX9_slides 122 = .ok (.iload 6, 2) := by decide +kernel
theorem dX9_slides_124 : decode cX9_slides 124 = .ok (.invokevirtual 366, 3) := by decide +kernel
theorem dX9_slides_127 : decode cX9_slides 127 = .ok (.aload_n 1, 1) := by decide +kernel
theorem dX9_slides_128 : decode cX9_slides 128 = .ok (.sipush 272, 3) := by decide +kernel
theorem dX9_slides_131 : decode cX9_slides 131 = .ok (.dup2, 1) := by decide +kernel
theorem dX9_slides_132 : decode cX9_slides 132 = .ok (.iaload, 1) := by decide +kernel
theorem dX9_slides_133 : decode cX9_slides 133 = .ok (.iconst 1, 1) := by decide +kernel
theorem dX9_slides_134 : decode cX9_slides 134 = .ok (.iadd, 1) := by decide +kernel
theorem dX9_slides_135 : decode cX9_slides 135 = .ok (.iastore, 1) := by decide +kernel
theorem dX9_slides_136 : decode cX9_slides 136 = .ok (.iinc 5 1, 3) := by decide +kernel
theorem dX9_slides_139 : decode cX9_slides 139 = .ok (.goto (-103), 3) := by decide +kernel
theorem dX9_slides_142 : decode cX9_slides 142 = .ok (.aload_n 1, 1) := by decide +kernel
theorem dX9_slides_143 : decode cX9_slides 143 = .ok (.sipush 272, 3) := by decide +kernel
theorem dX9_slides_146 : decode cX9_slides 146 = .ok (.iaload, 1) := by decide +kernel
theorem dX9_slides_147 : decode cX9_slides 147 = .ok (.iload 4, 2) := by decide +kernel
theorem dX9_slides_149 : decode cX9_slides 149 = .ok (.if_icmp .le 7, 3) := by decide +kernel
theorem dX9_slides_152 : decode cX9_slides 152 = .ok (.iconst 1, 1) := by decide +kernel
theorem dX9_slides_153 : decode cX9_slides 153 = .ok (.goto 4, 3) := by decide +kernel
theorem dX9_slides_156 : decode cX9_slides 156 = .ok (.iconst 0, 1) := by decide +kernel
theorem dX9_slides_157 : decode cX9_slides 157 = .ok (.istore_n 2, 1) := by decide +kernel
theorem dX9_slides_158 : decode cX9_slides 158 = .ok (.aload_n 1, 1) := by decide +kernel
theorem dX9_slides_159 : decode cX9_slides 159 = .ok (.sipush 273, 3) := by decide +kernel
theorem dX9_slides_162 : decode cX9_slides 162 = .ok (.dup2, 1) := by decide +kernel
theorem dX9_slides_163 : decode cX9_slides 163 = .ok (.iaload, 1) := by decide +kernel
theorem dX9_slides_164 : decode cX9_slides 164 = .ok (.iload_n 2, 1) := by decide +kernel
theorem dX9_slides_165 : decode cX9_slides 165 = .ok (.ifCond .eq 7, 3) := by decide +kernel
theorem dX9_slides_168 : decode cX9_slides 168 = .ok (.iconst 1, 1) := by decide +kernel
theorem dX9_slides_169 : decode cX9_slides 169 = .ok (.goto 4, 3) := by decide +kernel
theorem dX9_slides_172 : decode cX9_slides 172 = .ok (.iconst 0, 1) := by decide +kernel
theorem dX9_slides_173 : decode cX9_slides 173 = .ok (.iadd, 1) := by decide +kernel
theorem dX9_slides_174 : decode cX9_slides 174 = .ok (.iastore, 1) := by decide +kernel
theorem dX9_slides_175 : decode cX9_slides 175 = .ok (.iinc 3 1, 3) := by decide +kernel
theorem dX9_slides_178 : decode cX9_slides 178 = .ok (.goto (-162), 3) := by decide +kernel
theorem dX9_slides_181 : decode cX9_slides 181 = .ok (.aload_n 1, 1) := by decide +kernel
theorem dX9_slides_182 : decode cX9_slides 182 = .ok (.sipush 271, 3) := by decide +kernel
theorem dX9_slides_185 : decode cX9_slides 185 = .ok (.dup2, 1) := by decide +kernel
theorem dX9_slides_186 : decode cX9_slides 186 = .ok (.iaload, 1) := by decide +kernel
theorem dX9_slides_187 : decode cX9_slides 187 = .ok (.aload_n 1, 1) := by decide +kernel
theorem dX9_slides_188 : decode cX9_slides 188 = .ok (.sipush 272, 3) := by decide +kernel
theorem dX9_slides_191 : decode cX9_slides 191 = .ok (.iaload, 1) := by decide +kernel
theorem dX9_slides_192 : decode cX9_slides 192 = .ok (.iadd, 1) := by decide +kernel
theorem dX9_slides_193 : decode cX9_slides 193 = .ok (.iastore, 1) := by decide +kernel
theorem dX9_slides_194 : decode cX9_slides 194 = .ok (.return_, 1) := by decide +kernel
theorem dX9_flagsFall_0 : decode cX9_flagsFall 0 = .ok (.iconst 0, 1) := by decide +kernel
theorem dX9_flagsFall_1 : decode cX9_flagsFall 1 = .ok (.istore_n 2, 1) := by decide +kernel
theorem dX9_flagsFall_2 : decode cX9_flagsFall 2 = .ok (.iload_n 2, 1) := by decide +kernel
theorem dX9_flagsFall_3 : decode cX9_flagsFall 3 = .ok (.aload_n 1, 1) := by decide +kernel
theorem dX9_flagsFall_4 : decode cX9_flagsFall 4 = .ok (.sipush 268, 3) := by decide +kernel
theorem dX9_flagsFall_7 : decode cX9_flagsFall 7 = .ok (.iaload, 1) := by decide +kernel
theorem dX9_flagsFall_8 : decode cX9_flagsFall 8 = .ok (.if_icmp .ge 60, 3) := by decide +kernel
theorem dX9_flagsFall_11 : decode cX9_flagsFall 11 = .ok (.aload_n 1, 1) := by decide +kernel
theorem dX9_flagsFall_12 : decode cX9_flagsFall 12 = .ok (.sipush 264, 3) := by decide +kernel
theorem dX9_flagsFall_15 : decode cX9_flagsFall 15 = .ok (.iload_n 2, 1) := by decide +kernel
theorem dX9_flagsFall_16 : decode cX9_flagsFall 16 = .ok (.iadd, 1) := by decide +kernel
theorem dX9_flagsFall_17 : decode cX9_flagsFall 17 = .ok (.iaload, 1) := by decide +kernel
theorem dX9_flagsFall_18 : decode cX9_flagsFall 18 = .ok (.iconst (-1), 1) := by decide +kernel
theorem dX9_flagsFall_19 : decode cX9_flagsFall 19 = .ok (.if_icmp .ne 43, 3) := by decide +kernel
theorem dX9_flagsFall_22 : decode cX9_flagsFall 22 = .ok (.aload_n 1, 1) := by decide +kernel
theorem dX9_flagsFall_23 : decode cX9_flagsFall 23 = .ok (.iconst 0, 1) := by decide +kernel
theorem dX9_flagsFall_24 : decode cX9_flagsFall 24 = .ok (.aload_n 1, 1) := by decide +kernel
theorem dX9_flagsFall_25 : decode cX9_flagsFall 25 = .ok (.sipush 256, 3) := by decide +kernel
theorem dX9_flagsFall_28 : decode cX9_flagsFall 28 = .ok (.iload_n 2, 1) := by decide +kernel
theorem dX9_flagsFall_29 : decode cX9_flagsFall 29 = .ok (.iadd, 1) := by decide +kernel
theorem dX9_flagsFall_30 : decode cX9_flagsFall 30 = .ok (.iaload, 1) := by decide +kernel
theorem dX9_flagsFall_31 : decode cX9_flagsFall 31 = .ok (.iadd, 1) := by decide +kernel
theorem dX9_flagsFall_32 : decode cX9_flagsFall 32 = .ok (.iaload, 1) := by decide +kernel
theorem dX9_flagsFall_33 : decode cX9_flagsFall 33 = .ok (.aload_n 1, 1) := by decide +kernel
theorem dX9_flagsFall_34 : decode cX9_flagsFall 34 = .ok (.sipush 260, 3) := by decide +kernel
theorem dX9_flagsFall_37 : decode cX9_flagsFall 37 = .ok (.iload_n 2, 1) := by decide +kernel
theorem dX9_flagsFall_38 : decode cX9_flagsFall 38 = .ok (.iadd, 1) := by decide +kernel
theorem dX9_flagsFall_39 : decode cX9_flagsFall 39 = .ok (.iaload, 1) := by decide +kernel
theorem dX9_flagsFall_40 : decode cX9_flagsFall 40 = .ok (.aload_n 0, 1) := by decide +kernel
theorem dX9_flagsFall_41 : decode cX9_flagsFall 41 = .ok (.getfield 245, 3) := by decide +kernel
theorem dX9_flagsFall_44 : decode cX9_flagsFall 44 = .ok (.iconst 4, 1) := by decide +kernel
theorem dX9_flagsFall_45 : decode cX9_flagsFall 45 = .ok (.iaload, 1) := by decide +kernel
theorem dX9_flagsFall_46 : decode cX9_flagsFall 46 = .ok (.isub, 1) := by decide +kernel
theorem dX9_flagsFall_47 : decode cX9_flagsFall 47 = .ok (.if_icmp .ge 15, 3) := by decide +kernel
theorem dX9_flagsFall_50 : decode cX9_flagsFall 50 = .ok (.aload_n 1, 1) := by decide +kernel
theorem dX9_flagsFall_51 : decode cX9_flagsFall 51 = .ok (.sipush 264, 3) := by decide +kernel
theorem dX9_flagsFall_54 : decode cX9_flagsFall 54 = .ok (.iload_n 2, 1) := by decide +kernel
theorem dX9_flagsFall_55 : decode cX9_flagsFall 55 = .ok (.iadd, 1) := by decide +kernel
theorem dX9_flagsFall_56 : decode cX9_flagsFall 56 = .ok (.aload_n 1, 1) := by decide +kernel
theorem dX9_flagsFall_57 : decode cX9_flagsFall 57 = .ok (.sipush 270, 3) := by decide +kernel
theorem dX9_flagsFall_60 : decode cX9_flagsFall 60 = .ok (.iaload, 1) := by decide +kernel
theorem dX9_flagsFall_61 : decode cX9_flagsFall 61 = .ok (.iastore, 1) := by decide +kernel
theorem dX9_flagsFall_62 : decode cX9_flagsFall 62 = .ok (.iinc 2 1, 3) := by decide +kernel
theorem dX9_flagsFall_65 : decode cX9_flagsFall 65 = .ok (.goto (-63), 3) := by decide +kernel
theorem dX9_flagsFall_68 : decode cX9_flagsFall 68 = .ok (.return_, 1) := by decide +kernel
theorem dX9_finish_0 : decode cX9_finish 0 = .ok (.aload_n 0, 1) := by decide +kernel
theorem dX9_finish_1 : decode cX9_finish 1 = .ok (.aload_n 1, 1) := by decide +kernel
theorem dX9_finish_2 : decode cX9_finish 2 = .ok (.invokevirtual 398, 3) := by decide +kernel
theorem dX9_finish_5 : decode cX9_finish 5 = .ok (.aload_n 0, 1) := by decide +kernel
theorem dX9_finish_6 : decode cX9_finish 6 = .ok (.aload_n 1, 1) := by decide +kernel
theorem dX9_finish_7 : decode cX9_finish 7 = .ok (.invokevirtual 402, 3) := by decide +kernel
theorem dX9_finish_10 : decode cX9_finish 10 = .ok (.aload_n 0, 1) := by decide +kernel
theorem dX9_finish_11 : decode cX9_finish 11 = .ok (.aload_n 1, 1) := by decide +kernel
theorem dX9_finish_12 : decode cX9_finish 12 = .ok (.invokevirtual 405, 3) := by decide +kernel
theorem dX9_finish_15 : decode cX9_finish 15 = .ok (.aload_n 0, 1) := by decide +kernel
theorem dX9_finish_16 : decode cX9_finish 16 = .ok (.aload_n 1, 1) := by decide +kernel
theorem dX9_finish_17 : decode cX9_finish 17 = .ok (.invokevirtual 408, 3) := by decide +kernel
theorem dX9_finish_20 : decode cX9_finish 20 = .ok (.aload_n 1, 1) := by decide +kernel
theorem dX9_finish_21 : decode cX9_finish 21 = .ok (.sipush 270, 3) := by decide +kernel
theorem dX9_finish_24 : decode cX9_finish 24 = .ok (.dup2, 1) := by decide +kernel
theorem dX9_finish_25 : decode cX9_finish 25 = .ok (.iaload, 1) := by decide +kernel
theorem dX9_finish_26 : decode cX9_finish 26 = .ok (.iconst 1, 1) := by decide +kernel
theorem dX9_finish_27 : decode cX9_finish 27 = .ok (.iadd, 1) := by decide +kernel
theorem dX9_finish_28 : decode cX9_finish 28 = .ok (.iastore, 1) := by decide +kernel
theorem dX9_finish_29 : decode cX9_finish 29 = .ok (.return_, 1) := by decide +kernel
theorem dX9_minute_0 : decode cX9_minute 0 = .ok (.aload_n 0, 1) := by decide +kernel
theorem dX9_minute_1 : decode cX9_minute 1 = .ok (.aload_n 1, 1) := by decide +kernel
theorem dX9_minute_2 : decode cX9_minute 2 = .ok (.invokevirtual 411, 3) := by decide +kernel
theorem dX9_minute_5 : decode cX9_minute 5 = .ok (.aload_n 0, 1) := by decide +kernel
theorem dX9_minute_6 : decode cX9_minute 6 = .ok (.aload_n 1, 1) := by decide +kernel
theorem dX9_minute_7 : decode cX9_minute 7 = .ok (.invokevirtual 414, 3) := by decide +kernel
theorem dX9_minute_10 : decode cX9_minute 10 = .ok (.return_, 1) := by decide +kernel
theorem dX9_chance_0 : decode cX9_chance 0 = .ok (.iload_n 1, 1) := by decide +kernel
theorem dX9_chance_1 : decode cX9_chance 1 = .ok (.ifCond .ge 6, 3) := by decide +kernel
theorem dX9_chance_4 : decode cX9_chance 4 = .ok (.bipush (-2), 2) := by decide +kernel
theorem dX9_chance_6 : decode cX9_chance 6 = .ok (.ireturn, 1) := by decide +kernel
theorem dX9_chance_7 : decode cX9_chance 7 = .ok (.aload_n 0, 1) := by decide +kernel
theorem dX9_chance_8 : decode cX9_chance 8 = .ok (.getfield 269, 3) := by decide +kernel
theorem dX9_chance_11 : decode cX9_chance 11 = .ok (.sipush 288, 3) := by decide +kernel
theorem dX9_chance_14 : decode cX9_chance 14 = .ok (.iload_n 1, 1) := by decide +kernel
theorem dX9_chance_15 : decode cX9_chance 15 = .ok (.iastore, 1) := by decide +kernel
theorem dX9_chance_16 : decode cX9_chance 16 = .ok (.iconst 1, 1) := by decide +kernel
theorem dX9_chance_17 : decode cX9_chance 17 = .ok (.ireturn, 1) := by decide +kernel
theorem dX9_putPlan_0 : decode cX9_putPlan 0 = .ok (.aload_n 0, 1) := by decide +kernel
theorem dX9_putPlan_1 : decode cX9_putPlan 1 = .ok (.sipush 275, 3) := by decide +kernel
theorem dX9_putPlan_4 : decode cX9_putPlan 4 = .ok (.iload_n 1, 1) := by decide +kernel
theorem dX9_putPlan_5 : decode cX9_putPlan 5 = .ok (.iastore, 1) := by decide +kernel
theorem dX9_putPlan_6 : decode cX9_putPlan 6 = .ok (.iconst 0, 1) := by decide +kernel
theorem dX9_putPlan_7 : decode cX9_putPlan 7 = .ok (.istore_n 2, 1) := by decide +kernel
theorem dX9_putPlan_8 : decode cX9_putPlan 8 = .ok (.iload_n 2, 1) := by decide +kernel
theorem dX9_putPlan_9 : decode cX9_putPlan 9 = .ok (.iconst 4, 1) := by decide +kernel
theorem dX9_putPlan_10 : decode cX9_putPlan 10 = .ok (.if_icmp .ge 33, 3) := by decide +kernel
theorem dX9_putPlan_13 : decode cX9_putPlan 13 = .ok (.aload_n 0, 1) := by decide +kernel
theorem dX9_putPlan_14 : decode cX9_putPlan 14 = .ok (.sipush 276, 3) := by decide +kernel
theorem dX9_putPlan_17 : decode cX9_putPlan 17 = .ok (.iload_n 2, 1) := by decide +kernel
theorem dX9_putPlan_18 : decode cX9_putPlan 18 = .ok (.iadd, 1) := by decide +kernel
theorem dX9_putPlan_19 : decode cX9_putPlan 19 = .ok (.iconst 0, 1) := by decide +kernel
theorem dX9_putPlan_20 : decode cX9_putPlan 20 = .ok (.iastore, 1) := by decide +kernel
theorem dX9_putPlan_21 : decode cX9_putPlan 21 = .ok (.aload_n 0, 1) := by decide +kernel
theorem dX9_putPlan_22 : decode cX9_putPlan 22 = .ok (.sipush 280, 3) := by decide +kernel
theorem dX9_putPlan_25 : decode cX9_putPlan 25 = .ok (.iload_n 2, 1) := by decide +kernel
theorem dX9_putPlan_26 : decode cX9_putPlan 26 = .ok (.iadd, 1) := by decide +kernel
theorem dX9_putPlan_27 : decode cX9_putPlan 27 = .ok (.iconst 0, 1) := by decide +kernel
theorem dX9_putPlan_28 : decode cX9_putPlan 28 = .ok (.iastore, 1) := by decide +kernel
theorem dX9_putPlan_29 : decode cX9_putPlan 29 = .ok (.aload_n 0, 1) := by decide +kernel
theorem dX9_putPlan_30 : decode cX9_putPlan 30 = .ok (.sipush 284, 3) := by decide +kernel
theorem dX9_putPlan_33 : decode cX9_putPlan 33 = .ok (.iload_n 2, 1) := by decide +kernel
theorem dX9_putPlan_34 : decode cX9_putPlan 34 = .ok (.iadd, 1) := by decide +kernel
theorem dX9_putPlan_35 : decode cX9_putPlan 35 = .ok (.iconst 0, 1) := by decide +kernel
theorem dX9_putPlan_36 : decode cX9_putPlan 36 = .ok (.iastore, 1) := by decide +kernel
theorem dX9_putPlan_37 : decode cX9_putPlan 37 = .ok (.iinc 2 1, 3) := by decide +kernel
theorem dX9_putPlan_40 : decode cX9_putPlan 40 = .ok (.goto (-32), 3) := by decide +kernel
theorem dX9_putPlan_43 : decode cX9_putPlan 43 = .ok (.return_, 1) := by decide +kernel
theorem dX9_work_0 : decode cX9_work 0 = .ok (.iload_n 1, 1) := by decide +kernel
theorem dX9_work_1 : decode cX9_work 1 = .ok (.iconst (-1), 1) := by decide +kernel
theorem dX9_work_2 : decode cX9_work 2 = .ok (.if_icmp .eq 14, 3) := by decide +kernel
theorem dX9_work_5 : decode cX9_work 5 = .ok (.aload_n 0, 1) := by decide +kernel
theorem dX9_work_6 : decode cX9_work 6 = .ok (.iload_n 1, 1) := by decide +kernel
theorem dX9_work_7 : decode cX9_work 7 = .ok (.invokevirtual 351, 3) := by decide +kernel
theorem dX9_work_10 : decode cX9_work 10 = .ok (.ifCond .ne 6, 3) := by decide +kernel
theorem dX9_work_13 : decode cX9_work 13 = .ok (.bipush (-2), 2) := by decide +kernel
theorem dX9_work_15 : decode cX9_work 15 = .ok (.ireturn, 1) := by decide +kernel
theorem dX9_work_16 : decode cX9_work 16 = .ok (.aload_n 0, 1) := by decide +kernel
theorem dX9_work_17 : decode cX9_work 17 = .ok (.getfield 269, 3) := by decide +kernel
theorem dX9_work_20 : decode cX9_work 20 = .ok (.iload_n 1, 1) := by decide +kernel
theorem dX9_work_21 : decode cX9_work 21 = .ok (.invokestatic 417, 3) := by decide +kernel
theorem dX9_work_24 : decode cX9_work 24 = .ok (.iconst 1, 1) := by decide +kernel
theorem dX9_work_25 : decode cX9_work 25 = .ok (.ireturn, 1) := by decide +kernel
theorem dX9_pass_0 : decode cX9_pass 0 = .ok (.iload_n 1, 1) := by decide +kernel
theorem dX9_pass_1 : decode cX9_pass 1 = .ok (.i2l, 1) := by decide +kernel
theorem dX9_pass_2 : decode cX9_pass 2 = .ok (.lconst 0, 1) := by decide +kernel
theorem dX9_pass_3 : decode cX9_pass 3 = .ok (.ldc2_w 420, 3) := by decide +kernel
theorem dX9_pass_6 : decode cX9_pass 6 = .ok (.invokestatic 52, 3) := by decide +kernel
theorem dX9_pass_9 : decode cX9_pass 9 = .ok (.ifCond .ne 6, 3) := by decide +kernel
theorem dX9_pass_12 : decode cX9_pass 12 = .ok (.bipush (-2), 2) := by decide +kernel
theorem dX9_pass_14 : decode cX9_pass 14 = .ok (.ireturn, 1) := by decide +kernel
theorem dX9_pass_15 : decode cX9_pass 15 = .ok (.iconst 0, 1) := by decide +kernel
theorem dX9_pass_16 : decode cX9_pass 16 = .ok (.istore_n 2, 1) := by decide +kernel
theorem dX9_pass_17 : decode cX9_pass 17 = .ok (.iload_n 2, 1) := by decide +kernel
theorem dX9_pass_18 : decode cX9_pass 18 = .ok (.iload_n 1, 1) := by decide +kernel
theorem dX9_pass_19 : decode cX9_pass 19 = .ok (.if_icmp .ge 17, 3) := by decide +kernel
theorem dX9_pass_22 : decode cX9_pass 22 = .ok (.aload_n 0, 1) := by decide +kernel
theorem dX9_pass_23 : decode cX9_pass 23 = .ok (.aload_n 0, 1) := by decide +kernel
theorem dX9_pass_24 : decode cX9_pass 24 = .ok (.getfield 269, 3) := by decide +kernel
theorem dX9_pass_27 : decode cX9_pass 27 = .ok (.invokevirtual 422, 3) := by decide +kernel
theorem dX9_pass_30 : decode cX9_pass 30 = .ok (.iinc 2 1, 3) := by decide +kernel
theorem dX9_pass_33 : decode cX9_pass 33 = .ok (.goto (-16), 3) := by decide +kernel
theorem dX9_pass_36 : decode cX9_pass 36 = .ok (.aload_n 0, 1) := by decide +kernel
theorem dX9_pass_37 : decode cX9_pass 37 = .ok (.getfield 269, 3) := by decide +kernel
theorem dX9_pass_40 : decode cX9_pass 40 = .ok (.sipush 270, 3) := by decide +kernel
theorem dX9_pass_43 : decode cX9_pass 43 = .ok (.iaload, 1) := by decide +kernel
theorem dX9_pass_44 : decode cX9_pass 44 = .ok (.ireturn, 1) := by decide +kernel
theorem dX9_cell_0 : decode cX9_cell 0 = .ok (.iload_n 1, 1) := by decide +kernel
theorem dX9_cell_1 : decode cX9_cell 1 = .ok (.i2l, 1) := by decide +kernel
theorem dX9_cell_2 : decode cX9_cell 2 = .ok (.lconst 0, 1) := by decide +kernel
theorem dX9_cell_3 : decode cX9_cell 3 = .ok (.aload_n 0, 1) := by decide +kernel
theorem dX9_cell_4 : decode cX9_cell 4 = .ok (.getfield 201, 3) := by decide +kernel
theorem dX9_cell_7 : decode cX9_cell 7 = .ok (.i2l, 1) := by decide +kernel
theorem dX9_cell_8 : decode cX9_cell 8 = .ok (.lconst 1, 1) := by decide +kernel
theorem dX9_cell_9 : decode cX9_cell 9 = .ok (.lsub, 1) := by decide +kernel
theorem dX9_cell_10 : decode cX9_cell 10 = .ok (.invokestatic 52, 3) := by decide +kernel
theorem dX9_cell_13 : decode cX9_cell 13 = .ok (.ifCond .eq 31, 3) := by decide +kernel
theorem dX9_cell_16 : decode cX9_cell 16 = .ok (.iload_n 2, 1) := by decide +kernel
theorem dX9_cell_17 : decode cX9_cell 17 = .ok (.i2l, 1) := by decide +kernel
theorem dX9_cell_18 : decode cX9_cell 18 = .ok (.lconst 0, 1) := by decide +kernel
theorem dX9_cell_19 : decode cX9_cell 19 = .ok (.aload_n 0, 1) := by decide +kernel
theorem dX9_cell_20 : decode cX9_cell 20 = .ok (.getfield 204, 3) := by decide +kernel
theorem dX9_cell_23 : decode cX9_cell 23 = .ok (.i2l, 1) := by decide +kernel
theorem dX9_cell_24 : decode cX9_cell 24 = .ok (.lconst 1, 1) := by decide +kernel
theorem dX9_cell_25 : decode cX9_cell 25 = .ok (.lsub, 1) := by decide +kernel
theorem dX9_cell_26 : decode cX9_cell 26 = .ok (.invokestatic 52, 3) := by decide +kernel
theorem dX9_cell_29 : decode cX9_cell 29 = .ok (.ifCond .eq 15, 3) := by decide +kernel
theorem dX9_cell_32 : decode cX9_cell 32 = .ok (.iload_n 3, 1) := by decide +kernel
theorem dX9_cell_33 : decode cX9_cell 33 = .ok (.i2l, 1) := by decide +kernel
theorem dX9_cell_34 : decode cX9_cell 34 = .ok (.lconst 0, 1) := by decide +kernel
theorem dX9_cell_35 : decode cX9_cell 35 = .ok (.ldc2_w 425, 3) := by decide +kernel
theorem dX9_cell_38 : decode cX9_cell 38 = .ok (.invokestatic 52, 3) := by decide +kernel
theorem dX9_cell_41 : decode cX9_cell 41 = .ok (.ifCond .ne 6, 3) := by decide +kernel
theorem dX9_cell_44 : decode cX9_cell 44 = .ok (.bipush (-2), 2) := by decide +kernel
theorem dX9_cell_46 : decode cX9_cell 46 = .ok (.ireturn, 1) := by decide +kernel
theorem dX9_cell_47 : decode cX9_cell 47 = .ok (.aload_n 0, 1) := by decide +kernel
theorem dX9_cell_48 : decode cX9_cell 48 = .ok (.getfield 201, 3) := by decide +kernel
theorem dX9_cell_51 : decode cX9_cell 51 = .ok (.iload_n 2, 1) := by decide +kernel
theorem dX9_cell_52 : decode cX9_cell 52 = .ok (.imul, 1) := by decide +kernel
theorem dX9_cell_53 : decode cX9_cell 53 = .ok (.iload_n 1, 1) := by decide +kernel
theorem dX9_cell_54 : decode cX9_cell 54 = .ok (.iadd, 1) := by decide +kernel
theorem dX9_cell_55 : decode cX9_cell 55 = .ok (.istore 4, 2) := by decide +kernel
theorem dX9_cell_57 : decode cX9_cell 57 = .ok (.iload_n 3, 1) := by decide +kernel
theorem dX9_cell_58 : decode cX9_cell 58 = .ok (.tableswitch 75 0 3 #[30, 40, 51, 63], 30) := by decide +kernel
theorem dX9_cell_88 : decode cX9_cell 88 = .ok (.aload_n 0, 1) := by decide +kernel
theorem dX9_cell_89 : decode cX9_cell 89 = .ok (.getfield 269, 3) := by decide +kernel
theorem dX9_cell_92 : decode cX9_cell 92 = .ok (.iconst 0, 1) := by decide +kernel
theorem dX9_cell_93 : decode cX9_cell 93 = .ok (.iload 4, 2) := by decide +kernel
theorem dX9_cell_95 : decode cX9_cell 95 = .ok (.iadd, 1) := by decide +kernel
theorem dX9_cell_96 : decode cX9_cell 96 = .ok (.iaload, 1) := by decide +kernel
theorem dX9_cell_97 : decode cX9_cell 97 = .ok (.ireturn, 1) := by decide +kernel
theorem dX9_cell_98 : decode cX9_cell 98 = .ok (.aload_n 0, 1) := by decide +kernel
theorem dX9_cell_99 : decode cX9_cell 99 = .ok (.getfield 269, 3) := by decide +kernel
theorem dX9_cell_102 : decode cX9_cell 102 = .ok (.bipush 64, 2) := by decide +kernel
theorem dX9_cell_104 : decode cX9_cell 104 = .ok (.iload 4, 2) := by decide +kernel
theorem dX9_cell_106 : decode cX9_cell 106 = .ok (.iadd, 1) := by decide +kernel
theorem dX9_cell_107 : decode cX9_cell 107 = .ok (.iaload, 1) := by decide +kernel
theorem dX9_cell_108 : decode cX9_cell 108 = .ok (.ireturn, 1) := by decide +kernel
theorem dX9_cell_109 : decode cX9_cell 109 = .ok (.aload_n 0, 1) := by decide +kernel
theorem dX9_cell_110 : decode cX9_cell 110 = .ok (.getfield 269, 3) := by decide +kernel
theorem dX9_cell_113 : decode cX9_cell 113 = .ok (.sipush 128, 3) := by decide +kernel
theorem dX9_cell_116 : decode cX9_cell 116 = .ok (.iload 4, 2) := by decide +kernel
theorem dX9_cell_118 : decode cX9_cell 118 = .ok (.iadd, 1) := by decide +kernel
theorem dX9_cell_119 : decode cX9_cell 119 = .ok (.iaload, 1) := by decide +kernel
theorem dX9_cell_120 : decode cX9_cell 120 = .ok (.ireturn, 1) := by decide +kernel
theorem dX9_cell_121 : decode cX9_cell 121 = .ok (.aload_n 0, 1) := by decide +kernel
theorem dX9_cell_122 : decode cX9_cell 122 = .ok (.getfield 269, 3) := by decide +kernel
theorem dX9_cell_125 : decode cX9_cell 125 = .ok (.sipush 192, 3) := by decide +kernel
theorem dX9_cell_128 : decode cX9_cell 128 = .ok (.iload 4, 2) := by decide +kernel
theorem dX9_cell_130 : decode cX9_cell 130 = .ok (.iadd, 1) := by decide +kernel
theorem dX9_cell_131 : decode cX9_cell 131 = .ok (.iaload, 1) := by decide +kernel
theorem dX9_cell_132 : decode cX9_cell 132 = .ok (.ireturn, 1) := by decide +kernel
theorem dX9_cell_133 : decode cX9_cell 133 = .ok (.aload_n 0, 1) := by decide +kernel
theorem dX9_cell_134 : decode cX9_cell 134 = .ok (.aload_n 0, 1) := by decide +kernel
theorem dX9_cell_135 : decode cX9_cell 135 = .ok (.getfield 269, 3) := by decide +kernel
theorem dX9_cell_138 : decode cX9_cell 138 = .ok (.bipush 64, 2) := by decide +kernel
theorem dX9_cell_140 : decode cX9_cell 140 = .ok (.iload 4, 2) := by decide +kernel
theorem dX9_cell_142 : decode cX9_cell 142 = .ok (.iadd, 1) := by decide +kernel
theorem dX9_cell_143 : decode cX9_cell 143 = .ok (.iaload, 1) := by decide +kernel
theorem dX9_cell_144 : decode cX9_cell 144 = .ok (.aload_n 0, 1) := by decide +kernel
theorem dX9_cell_145 : decode cX9_cell 145 = .ok (.getfield 269, 3) := by decide +kernel
theorem dX9_cell_148 : decode cX9_cell 148 = .ok (.sipush 128, 3) := by decide +kernel
theorem dX9_cell_151 : decode cX9_cell 151 = .ok (.iload 4, 2) := by decide +kernel
theorem dX9_cell_153 : decode cX9_cell 153 = .ok (.iadd, 1) := by decide +kernel
theorem dX9_cell_154 : decode cX9_cell 154 = .ok (.iaload, 1) := by decide +kernel
theorem dX9_cell_155 : decode cX9_cell 155 = .ok (.invokevirtual 395, 3) := by decide +kernel
theorem dX9_cell_158 : decode cX9_cell 158 = .ok (.ireturn, 1) := by decide +kernel
theorem dX9_isFlag_0 : decode cX9_isFlag 0 = .ok (.iload_n 1, 1) := by decide +kernel
theorem dX9_isFlag_1 : decode cX9_isFlag 1 = .ok (.i2l, 1) := by decide +kernel
theorem dX9_isFlag_2 : decode cX9_isFlag 2 = .ok (.lconst 0, 1) := by decide +kernel
theorem dX9_isFlag_3 : decode cX9_isFlag 3 = .ok (.aload_n 0, 1) := by decide +kernel
theorem dX9_isFlag_4 : decode cX9_isFlag 4 = .ok (.getfield 311, 3) := by decide +kernel
theorem dX9_isFlag_7 : decode cX9_isFlag 7 = .ok (.i2l, 1) := by decide +kernel
theorem dX9_isFlag_8 : decode cX9_isFlag 8 = .ok (.lconst 1, 1) := by decide +kernel
theorem dX9_isFlag_9 : decode cX9_isFlag 9 = .ok (.lsub, 1) := by decide +kernel
theorem dX9_isFlag_10 : decode cX9_isFlag 10 = .ok (.invokestatic 52, 3) := by decide +kernel
theorem dX9_isFlag_13 : decode cX9_isFlag 13 = .ok (.ireturn, 1) := by decide +kernel
theorem dX9_flag_0 : decode cX9_flag 0 = .ok (.aload_n 0, 1) := by decide +kernel
theorem dX9_flag_1 : decode cX9_flag 1 = .ok (.iload_n 1, 1) := by decide +kernel
theorem dX9_flag_2 : decode cX9_flag 2 = .ok (.invokevirtual 427, 3) := by decide +kernel
theorem dX9_flag_5 : decode cX9_flag 5 = .ok (.ifCond .eq 15, 3) := by decide +kernel
theorem dX9_flag_8 : decode cX9_flag 8 = .ok (.iload_n 2, 1) := by decide +kernel
theorem dX9_flag_9 : decode cX9_flag 9 = .ok (.i2l, 1) := by decide +kernel
theorem dX9_flag_10 : decode cX9_flag 10 = .ok (.lconst 0, 1) := by decide +kernel
theorem dX9_flag_11 : decode cX9_flag 11 = .ok (.ldc2_w 430, 3) := by decide +kernel
theorem dX9_flag_14 : decode cX9_flag 14 = .ok (.invokestatic 52, 3) := by decide +kernel
theorem dX9_flag_17 : decode cX9_flag 17 = .ok (.ifCond .ne 6, 3) := by decide +kernel
theorem dX9_flag_20 : decode cX9_flag 20 = .ok (.bipush (-2), 2) := by decide +kernel
theorem dX9_flag_22 : decode cX9_flag 22 = .ok (.ireturn, 1) := by decide +kernel
theorem dX9_flag_23 : decode cX9_flag 23 = .ok (.iload_n 2, 1) := by decide +kernel
theorem dX9_flag_24 : decode cX9_flag 24 = .ok (.ifCond .ne 25, 3) := by decide +kernel
theorem dX9_flag_27 : decode cX9_flag 27 = .ok (.aload_n 0, 1) := by decide +kernel
theorem dX9_flag_28 : decode cX9_flag 28 = .ok (.getfield 269, 3) := by decide +kernel
theorem dX9_flag_31 : decode cX9_flag 31 = .ok (.sipush 264, 3) := by decide +kernel
theorem dX9_flag_34 : decode cX9_flag 34 = .ok (.iload_n 1, 1) := by decide +kernel
theorem dX9_flag_35 : decode cX9_flag 35 = .ok (.iadd, 1) := by decide +kernel
theorem dX9_flag_36 : decode cX9_flag 36 = .ok (.iaload, 1) := by decide +kernel
theorem dX9_flag_37 : decode cX9_flag 37 = .ok (.iconst (-1), 1) := by decide +kernel
theorem dX9_flag_38 : decode cX9_flag 38 = .ok (.if_icmp .ne 7, 3) := by decide +kernel
theorem dX9_flag_41 : decode cX9_flag 41 = .ok (.iconst 1, 1) := by decide +kernel
theorem dX9_flag_42 : decode cX9_flag 42 = .ok (.goto 53, 3) := by decide +kernel
theorem dX9_flag_45 : decode cX9_flag 45 = .ok (.iconst 0, 1) := by decide +kernel
theorem dX9_flag_46 : decode cX9_flag 46 = .ok (.goto 49, 3) := by decide +kernel
theorem dX9_flag_49 : decode cX9_flag 49 = .ok (.iload_n 2, 1) := by decide +kernel
theorem dX9_flag_50 : decode cX9_flag 50 = .ok (.iconst 1, 1) := by decide +kernel
theorem dX9_flag_51 : decode cX9_flag 51 = .ok (.if_icmp .ne 16, 3) := by decide +kernel
theorem dX9_flag_54 : decode cX9_flag 54 = .ok (.aload_n 0, 1) := by decide +kernel
theorem dX9_flag_55 : decode cX9_flag 55 = .ok (.getfield 269, 3) := by decide +kernel
theorem dX9_flag_58 : decode cX9_flag 58 = .ok (.sipush 256, 3) := by decide +kernel
theorem dX9_flag_61 : decode cX9_flag 61 = .ok (.iload_n 1, 1) := by decide +kernel
theorem dX9_flag_62 : decode cX9_flag 62 = .ok (.iadd, 1) := by decide +kernel
theorem dX9_flag_63 : decode cX9_flag 63 = .ok (.iaload, 1) := by decide +kernel
theorem dX9_flag_64 : decode cX9_flag 64 = .ok (.goto 31, 3) := by decide +kernel
theorem dX9_flag_67 : decode cX9_flag 67 = .ok (.iload_n 2, 1) := by decide +kernel
theorem dX9_flag_68 : decode cX9_flag 68 = .ok (.iconst 2, 1) := by decide +kernel
theorem dX9_flag_69 : decode cX9_flag 69 = .ok (.if_icmp .ne 16, 3) := by decide +kernel
theorem dX9_flag_72 : decode cX9_flag 72 = .ok (.aload_n 0, 1) := by decide +kernel
theorem dX9_flag_73 : decode cX9_flag 73 = .ok (.getfield 269, 3) := by decide +kernel
theorem dX9_flag_76 : decode cX9_flag 76 = .ok (.sipush 260, 3) := by decide +kernel
theorem dX9_flag_79 : decode cX9_flag 79 = .ok (.iload_n 1, 1) := by decide +kernel
theorem dX9_flag_80 : decode cX9_flag 80 = .ok (.iadd, 1) := by decide +kernel
theorem dX9_flag_81 : decode cX9_flag 81 = .ok (.iaload, 1) := by decide +kernel
theorem dX9_flag_82 : decode cX9_flag 82 = .ok (.goto 13, 3) := by decide +kernel
theorem dX9_flag_85 : decode cX9_flag 85 = .ok (.aload_n 0, 1) := by decide +kernel
theorem dX9_flag_86 : decode cX9_flag 86 = .ok (.getfield 269, 3) := by decide +kernel
theorem dX9_flag_89 : decode cX9_flag 89 = .ok (.sipush 264, 3) := by decide +kernel
theorem dX9_flag_92 : decode cX9_flag 92 = .ok (.iload_n 1, 1) := by decide +kernel
theorem dX9_flag_93 : decode cX9_flag 93 = .ok (.iadd, 1) := by decide +kernel
theorem dX9_flag_94 : decode cX9_flag 94 = .ok (.iaload, 1) := by decide +kernel
theorem dX9_flag_95 : decode cX9_flag 95 = .ok (.ireturn, 1) := by decide +kernel
theorem dX9_sum_0 : decode cX9_sum 0 = .ok (.iconst 0, 1) := by decide +kernel
theorem dX9_sum_1 : decode cX9_sum 1 = .ok (.istore_n 2, 1) := by decide +kernel
theorem dX9_sum_2 : decode cX9_sum 2 = .ok (.iconst 0, 1) := by decide +kernel
theorem dX9_sum_3 : decode cX9_sum 3 = .ok (.istore_n 3, 1) := by decide +kernel
theorem dX9_sum_4 : decode cX9_sum 4 = .ok (.iload_n 3, 1) := by decide +kernel
theorem dX9_sum_5 : decode cX9_sum 5 = .ok (.aload_n 0, 1) := by decide +kernel
theorem dX9_sum_6 : decode cX9_sum 6 = .ok (.getfield 201, 3) := by decide +kernel
theorem dX9_sum_9 : decode cX9_sum 9 = .ok (.aload_n 0, 1) := by decide +kernel
theorem dX9_sum_10 : decode cX9_sum 10 = .ok (.getfield 204, 3) := by decide +kernel
theorem dX9_sum_13 : decode cX9_sum 13 = .ok (.imul, 1) := by decide +kernel
theorem dX9_sum_14 : decode cX9_sum 14 = .ok (.if_icmp .ge 20, 3) := by decide +kernel
theorem dX9_sum_17 : decode cX9_sum 17 = .ok (.iload_n 2, 1) := by decide +kernel
theorem dX9_sum_18 : decode cX9_sum 18 = .ok (.aload_n 0, 1) := by decide +kernel
theorem dX9_sum_19 : decode cX9_sum 19 = .ok (.getfield 269, 3) := by decide +kernel
theorem dX9_sum_22 : decode cX9_sum 22 = .ok (.iconst 0, 1) := by decide +kernel
theorem dX9_sum_23 : decode cX9_sum 23 = .ok (.iload_n 3, 1) := by decide +kernel
theorem dX9_sum_24 : decode cX9_sum 24 = .ok (.iadd, 1) := by decide +kernel
theorem dX9_sum_25 : decode cX9_sum 25 = .ok (.iaload, 1) := by decide +kernel
theorem dX9_sum_26 : decode cX9_sum 26 = .ok (.iadd, 1) := by decide +kernel
theorem dX9_sum_27 : decode cX9_sum 27 = .ok (.istore_n 2, 1) := by decide +kernel
theorem dX9_sum_28 : decode cX9_sum 28 = .ok (.iinc 3 1, 3) := by decide +kernel
theorem dX9_sum_31 : decode cX9_sum 31 = .ok (.goto (-27), 3) := by decide +kernel
theorem dX9_sum_34 : decode cX9_sum 34 = .ok (.iload_n 1, 1) := by decide +kernel
theorem dX9_sum_35 : decode cX9_sum 35 = .ok (.tableswitch 97 0 6 #[41, 43, 52, 61, 70, 79, 88], 41) := by decide +kernel
theorem dX9_sum_76 : decode cX9_sum 76 = .ok (.iload_n 2, 1) := by decide +kernel
theorem dX9_sum_77 : decode cX9_sum 77 = .ok (.ireturn, 1) := by decide +kernel
theorem dX9_sum_78 : decode cX9_sum 78 = .ok (.aload_n 0, 1) := by decide +kernel
theorem dX9_sum_79 : decode cX9_sum 79 = .ok (.getfield 269, 3) := by decide +kernel
theorem dX9_sum_82 : decode cX9_sum 82 = .ok (.sipush 269, 3) := by decide +kernel
theorem dX9_sum_85 : decode cX9_sum 85 = .ok (.iaload, 1) := by decide +kernel
theorem dX9_sum_86 : decode cX9_sum 86 = .ok (.ireturn, 1) := by decide +kernel
theorem dX9_sum_87 : decode cX9_sum 87 = .ok (.aload_n 0, 1) := by decide +kernel
theorem dX9_sum_88 : decode cX9_sum 88 = .ok (.getfield 269, 3) := by decide +kernel
theorem dX9_sum_91 : decode cX9_sum 91 = .ok (.sipush 270, 3) := by decide +kernel
theorem dX9_sum_94 : decode cX9_sum 94 = .ok (.iaload, 1) := by decide +kernel
theorem dX9_sum_95 : decode cX9_sum 95 = .ok (.ireturn, 1) := by decide +kernel
theorem dX9_sum_96 : decode cX9_sum 96 = .ok (.aload_n 0, 1) := by decide +kernel
theorem dX9_sum_97 : decode cX9_sum 97 = .ok (.getfield 269, 3) := by decide +kernel
theorem dX9_sum_100 : decode cX9_sum 100 = .ok (.sipush 271, 3) := by decide +kernel
theorem dX9_sum_103 : decode cX9_sum 103 = .ok (.iaload, 1) := by decide +kernel
theorem dX9_sum_104 : decode cX9_sum 104 = .ok (.ireturn, 1) := by decide +kernel
theorem dX9_sum_105 : decode cX9_sum 105 = .ok (.aload_n 0, 1) := by decide +kernel
theorem dX9_sum_106 : decode cX9_sum 106 = .ok (.getfield 269, 3) := by decide +kernel
theorem dX9_sum_109 : decode cX9_sum 109 = .ok (.sipush 272, 3) := by decide +kernel
theorem dX9_sum_112 : decode cX9_sum 112 = .ok (.iaload, 1) := by decide +kernel
theorem dX9_sum_113 : decode cX9_sum 113 = .ok (.ireturn, 1) := by decide +kernel
theorem dX9_sum_114 : decode cX9_sum 114 = .ok (.aload_n 0, 1) := by decide +kernel
theorem dX9_sum_115 : decode cX9_sum 115 = .ok (.getfield 269, 3) := by decide +kernel
theorem dX9_sum_118 : decode cX9_sum 118 = .ok (.sipush 273, 3) := by decide +kernel
theorem dX9_sum_121 : decode cX9_sum 121 = .ok (.iaload, 1) := by decide +kernel
theorem dX9_sum_122 : decode cX9_sum 122 = .ok (.ireturn, 1) := by decide +kernel
theorem dX9_sum_123 : decode cX9_sum 123 = .ok (.aload_n 0, 1) := by decide +kernel
theorem dX9_sum_124 : decode cX9_sum 124 = .ok (.getfield 269, 3) := by decide +kernel
theorem dX9_sum_127 : decode cX9_sum 127 = .ok (.sipush 274, 3) := by decide +kernel
theorem dX9_sum_130 : decode cX9_sum 130 = .ok (.iaload, 1) := by decide +kernel
theorem dX9_sum_131 : decode cX9_sum 131 = .ok (.ireturn, 1) := by decide +kernel
theorem dX9_sum_132 : decode cX9_sum 132 = .ok (.iconst (-1), 1) := by decide +kernel
theorem dX9_sum_133 : decode cX9_sum 133 = .ok (.ireturn, 1) := by decide +kernel
theorem dX9_isSlot_0 : decode cX9_isSlot 0 = .ok (.iload_n 0, 1) := by decide +kernel
theorem dX9_isSlot_1 : decode cX9_isSlot 1 = .ok (.i2l, 1) := by decide +kernel
theorem dX9_isSlot_2 : decode cX9_isSlot 2 = .ok (.lconst 0, 1) := by decide +kernel
theorem dX9_isSlot_3 : decode cX9_isSlot 3 = .ok (.ldc2_w 343, 3) := by decide +kernel
theorem dX9_isSlot_6 : decode cX9_isSlot 6 = .ok (.invokestatic 52, 3) := by decide +kernel
theorem dX9_isSlot_9 : decode cX9_isSlot 9 = .ok (.ireturn, 1) := by decide +kernel
theorem dX9_keep_0 : decode cX9_keep 0 = .ok (.iload_n 1, 1) := by decide +kernel
theorem dX9_keep_1 : decode cX9_keep 1 = .ok (.invokestatic 432, 3) := by decide +kernel
theorem dX9_keep_4 : decode cX9_keep 4 = .ok (.ifCond .ne 6, 3) := by decide +kernel
theorem dX9_keep_7 : decode cX9_keep 7 = .ok (.bipush (-2), 2) := by decide +kernel
theorem dX9_keep_9 : decode cX9_keep 9 = .ok (.ireturn, 1) := by decide +kernel
theorem dX9_keep_10 : decode cX9_keep 10 = .ok (.iconst 0, 1) := by decide +kernel
theorem dX9_keep_11 : decode cX9_keep 11 = .ok (.istore_n 2, 1) := by decide +kernel
theorem dX9_keep_12 : decode cX9_keep 12 = .ok (.iload_n 2, 1) := by decide +kernel
theorem dX9_keep_13 : decode cX9_keep 13 = .ok (.sipush 289, 3) := by decide +kernel
theorem dX9_keep_16 : decode cX9_keep 16 = .ok (.if_icmp .ge 27, 3) := by decide +kernel
theorem dX9_keep_19 : decode cX9_keep 19 = .ok (.aload_n 0, 1) := by decide +kernel
theorem dX9_keep_20 : decode cX9_keep 20 = .ok (.getfield 275, 3) := by decide +kernel
theorem dX9_keep_23 : decode cX9_keep 23 = .ok (.sipush 289, 3) := by decide +kernel
theorem dX9_keep_26 : decode cX9_keep 26 = .ok (.iload_n 1, 1) := by decide +kernel
theorem dX9_keep_27 : decode cX9_keep 27 = .ok (.imul, 1) := by decide +kernel
theorem dX9_keep_28 : decode cX9_keep 28 = .ok (.iload_n 2, 1) := by decide +kernel
theorem dX9_keep_29 : decode cX9_keep 29 = .ok (.iadd, 1) := by decide +kernel
theorem dX9_keep_30 : decode cX9_keep 30 = .ok (.aload_n 0, 1) := by decide +kernel
theorem dX9_keep_31 : decode cX9_keep 31 = .ok (.getfield 269, 3) := by decide +kernel
theorem dX9_keep_34 : decode cX9_keep 34 = .ok (.iload_n 2, 1) := by decide +kernel
theorem dX9_keep_35 : decode cX9_keep 35 = .ok (.iaload, 1) := by decide +kernel
theorem dX9_keep_36 : decode cX9_keep 36 = .ok (.iastore, 1) := by decide +kernel
theorem dX9_keep_37 : decode cX9_keep 37 = .ok (.iinc 2 1, 3) := by decide +kernel
theorem dX9_keep_40 : decode cX9_keep 40 = .ok (.goto (-28), 3) := by decide +kernel
theorem dX9_keep_43 : decode cX9_keep 43 = .ok (.aload_n 0, 1) := by decide +kernel
theorem dX9_keep_44 : decode cX9_keep 44 = .ok (.getfield 278, 3) := by decide +kernel
theorem dX9_keep_47 : decode cX9_keep 47 = .ok (.iload_n 1, 1) := by decide +kernel
theorem dX9_keep_48 : decode cX9_keep 48 = .ok (.iconst 1, 1) := by decide +kernel
theorem dX9_keep_49 : decode cX9_keep 49 = .ok (.bastore, 1) := by decide +kernel
theorem dX9_keep_50 : decode cX9_keep 50 = .ok (.aload_n 0, 1) := by decide +kernel
theorem dX9_keep_51 : decode cX9_keep 51 = .ok (.getfield 269, 3) := by decide +kernel
theorem dX9_keep_54 : decode cX9_keep 54 = .ok (.sipush 270, 3) := by decide +kernel
theorem dX9_keep_57 : decode cX9_keep 57 = .ok (.iaload, 1) := by decide +kernel
theorem dX9_keep_58 : decode cX9_keep 58 = .ok (.ireturn, 1) := by decide +kernel
theorem dX9_take_0 : decode cX9_take 0 = .ok (.iload_n 1, 1) := by decide +kernel
theorem dX9_take_1 : decode cX9_take 1 = .ok (.invokestatic 432, 3) := by decide +kernel
theorem dX9_take_4 : decode cX9_take 4 = .ok (.ifCond .ne 6, 3) := by decide +kernel
theorem dX9_take_7 : decode cX9_take 7 = .ok (.bipush (-2), 2) := by decide +kernel
theorem dX9_take_9 : decode cX9_take 9 = .ok (.ireturn, 1) := by decide +kernel
theorem dX9_take_10 : decode cX9_take 10 = .ok (.aload_n 0, 1) := by decide +kernel
theorem dX9_take_11 : decode cX9_take 11 = .ok (.getfield 278, 3) := by decide +kernel
theorem dX9_take_14 : decode cX9_take 14 = .ok (.iload_n 1, 1) := by decide +kernel
theorem dX9_take_15 : decode cX9_take 15 = .ok (.baload, 1) := by decide +kernel
theorem dX9_take_16 : decode cX9_take 16 = .ok (.ifCond .ne 6, 3) := by decide +kernel
theorem dX9_take_19 : decode cX9_take 19 = .ok (.bipush (-4), 2) := by decide +kernel
theorem dX9_take_21 : decode cX9_take 21 = .ok (.ireturn, 1) := by decide +kernel
theorem dX9_take_22 : decode cX9_take 22 = .ok (.iconst 0, 1) := by decide +kernel
theorem dX9_take_23 : decode cX9_take 23 = .ok (.istore_n 2, 1) := by decide +kernel
theorem dX9_take_24 : decode cX9_take 24 = .ok (.iload_n 2, 1) := by decide +kernel
theorem dX9_take_25 : decode cX9_take 25 = .ok (.sipush 289, 3) := by decide +kernel
theorem dX9_take_28 : decode cX9_take 28 = .ok (.if_icmp .ge 27, 3) := by decide +kernel
theorem dX9_take_31 : decode cX9_take 31 = .ok (.aload_n 0, 1) := by decide +kernel
theorem dX9_take_32 : decode cX9_take 32 = .ok (.getfield 269, 3) := by decide +kernel
theorem dX9_take_35 : decode cX9_take 35 = .ok (.iload_n 2, 1) := by decide +kernel
theorem dX9_take_36 : decode cX9_take 36 = .ok (.aload_n 0, 1) := by decide +kernel
theorem dX9_take_37 : decode cX9_take 37 = .ok (.getfield 275, 3) := by decide +kernel
theorem dX9_take_40 : decode cX9_take 40 = .ok (.sipush 289, 3) := by decide +kernel
theorem dX9_take_43 : decode cX9_take 43 = .ok (.iload_n 1, 1) := by decide +kernel
theorem dX9_take_44 : decode cX9_take 44 = .ok (.imul, 1) := by decide +kernel
theorem dX9_take_45 : decode cX9_take 45 = .ok (.iload_n 2, 1) := by decide +kernel
theorem dX9_take_46 : decode cX9_take 46 = .ok (.iadd, 1) := by decide +kernel
theorem dX9_take_47 : decode cX9_take 47 = .ok (.iaload, 1) := by decide +kernel
theorem dX9_take_48 : decode cX9_take 48 = .ok (.iastore, 1) := by decide +kernel
theorem dX9_take_49 : decode cX9_take 49 = .ok (.iinc 2 1, 3) := by decide +kernel
theorem dX9_take_52 : decode cX9_take 52 = .ok (.goto (-28), 3) := by decide +kernel
theorem dX9_take_55 : decode cX9_take 55 = .ok (.aload_n 0, 1) := by decide +kernel
theorem dX9_take_56 : decode cX9_take 56 = .ok (.getfield 269, 3) := by decide +kernel
theorem dX9_take_59 : decode cX9_take 59 = .ok (.sipush 270, 3) := by decide +kernel
theorem dX9_take_62 : decode cX9_take 62 = .ok (.iaload, 1) := by decide +kernel
theorem dX9_take_63 : decode cX9_take 63 = .ok (.ireturn, 1) := by decide +kernel
theorem dX9_isSand_0 : decode cX9_isSand 0 = .ok (.iload_n 0, 1) := by decide +kernel
theorem dX9_isSand_1 : decode cX9_isSand 1 = .ok (.i2l, 1) := by decide +kernel
theorem dX9_isSand_2 : decode cX9_isSand 2 = .ok (.lconst 0, 1) := by decide +kernel
theorem dX9_isSand_3 : decode cX9_isSand 3 = .ok (.ldc2_w 349, 3) := by decide +kernel
theorem dX9_isSand_6 : decode cX9_isSand 6 = .ok (.invokestatic 52, 3) := by decide +kernel
theorem dX9_isSand_9 : decode cX9_isSand 9 = .ok (.ifCond .eq 19, 3) := by decide +kernel
theorem dX9_isSand_12 : decode cX9_isSand 12 = .ok (.iload_n 1, 1) := by decide +kernel
theorem dX9_isSand_13 : decode cX9_isSand 13 = .ok (.i2l, 1) := by decide +kernel
theorem dX9_isSand_14 : decode cX9_isSand 14 = .ok (.lconst 0, 1) := by decide +kernel
theorem dX9_isSand_15 : decode cX9_isSand 15 = .ok (.ldc2_w 425, 3) := by decide +kernel
theorem dX9_isSand_18 : decode cX9_isSand 18 = .ok (.invokestatic 52, 3) := by decide +kernel
theorem dX9_isSand_21 : decode cX9_isSand 21 = .ok (.ifCond .eq 7, 3) := by decide +kernel
theorem dX9_isSand_24 : decode cX9_isSand 24 = .ok (.iconst 1, 1) := by decide +kernel
theorem dX9_isSand_25 : decode cX9_isSand 25 = .ok (.goto 4, 3) := by decide +kernel
theorem dX9_isSand_28 : decode cX9_isSand 28 = .ok (.iconst 0, 1) := by decide +kernel
theorem dX9_isSand_29 : decode cX9_isSand 29 = .ok (.ireturn, 1) := by decide +kernel
theorem dX9_holds_0 : decode cX9_holds 0 = .ok (.iload_n 1, 1) := by decide +kernel
theorem dX9_holds_1 : decode cX9_holds 1 = .ok (.iload_n 2, 1) := by decide +kernel
theorem dX9_holds_2 : decode cX9_holds 2 = .ok (.invokestatic 435, 3) := by decide +kernel
theorem dX9_holds_5 : decode cX9_holds 5 = .ok (.ifCond .eq 12, 3) := by decide +kernel
theorem dX9_holds_8 : decode cX9_holds 8 = .ok (.aload_n 0, 1) := by decide +kernel
theorem dX9_holds_9 : decode cX9_holds 9 = .ok (.iload_n 1, 1) := by decide +kernel
theorem dX9_holds_10 : decode cX9_holds 10 = .ok (.iload_n 2, 1) := by decide +kernel
theorem dX9_holds_11 : decode cX9_holds 11 = .ok (.invokevirtual 395, 3) := by decide +kernel
theorem dX9_holds_14 : decode cX9_holds 14 = .ok (.goto 5, 3) := by decide +kernel
theorem dX9_holds_17 : decode cX9_holds 17 = .ok (.bipush (-2), 2) := by decide +kernel
theorem dX9_holds_19 : decode cX9_holds 19 = .ok (.ireturn, 1) := by decide +kernel
theorem dX9_high_0 : decode cX9_high 0 = .ok (.iload_n 1, 1) := by decide +kernel
theorem dX9_high_1 : decode cX9_high 1 = .ok (.i2l, 1) := by decide +kernel
theorem dX9_high_2 : decode cX9_high 2 = .ok (.lconst 1, 1) := by decide +kernel
theorem dX9_high_3 : decode cX9_high 3 = .ok (.ldc2_w 438, 3) := by decide +kernel
theorem dX9_high_6 : decode cX9_high 6 = .ok (.invokestatic 52, 3) := by decide +kernel
theorem dX9_high_9 : decode cX9_high 9 = .ok (.ifCond .eq 26, 3) := by decide +kernel
theorem dX9_high_12 : decode cX9_high 12 = .ok (.iload_n 2, 1) := by decide +kernel
theorem dX9_high_13 : decode cX9_high 13 = .ok (.iload_n 3, 1) := by decide +kernel
theorem dX9_high_14 : decode cX9_high 14 = .ok (.invokestatic 435, 3) := by decide +kernel
theorem dX9_high_17 : decode cX9_high 17 = .ok (.ifCond .eq 18, 3) := by decide +kernel
theorem dX9_high_20 : decode cX9_high 20 = .ok (.iload_n 1, 1) := by decide +kernel
theorem dX9_high_21 : decode cX9_high 21 = .ok (.iconst 1, 1) := by decide +kernel
theorem dX9_high_22 : decode cX9_high 22 = .ok (.iadd, 1) := by decide +kernel
theorem dX9_high_23 : decode cX9_high 23 = .ok (.iconst 2, 1) := by decide +kernel
theorem dX9_high_24 : decode cX9_high 24 = .ok (.idiv, 1) := by decide +kernel
theorem dX9_high_25 : decode cX9_high 25 = .ok (.aload_n 0, 1) := by decide +kernel
theorem dX9_high_26 : decode cX9_high 26 = .ok (.iload_n 2, 1) := by decide +kernel
theorem dX9_high_27 : decode cX9_high 27 = .ok (.iload_n 3, 1) := by decide +kernel
theorem dX9_high_28 : decode cX9_high 28 = .ok (.invokevirtual 395, 3) := by decide +kernel
theorem dX9_high_31 : decode cX9_high 31 = .ok (.imul, 1) := by decide +kernel
theorem dX9_high_32 : decode cX9_high 32 = .ok (.goto 5, 3) := by decide +kernel
theorem dX9_high_35 : decode cX9_high 35 = .ok (.bipush (-2), 2) := by decide +kernel
theorem dX9_high_37 : decode cX9_high 37 = .ok (.ireturn, 1) := by decide +kernel
theorem dX9_spill_0 : decode cX9_spill 0 = .ok (.iload_n 1, 1) := by decide +kernel
theorem dX9_spill_1 : decode cX9_spill 1 = .ok (.i2l, 1) := by decide +kernel
theorem dX9_spill_2 : decode cX9_spill 2 = .ok (.lconst 0, 1) := by decide +kernel
theorem dX9_spill_3 : decode cX9_spill 3 = .ok (.ldc2_w 440, 3) := by decide +kernel
theorem dX9_spill_6 : decode cX9_spill 6 = .ok (.invokestatic 52, 3) := by decide +kernel
theorem dX9_spill_9 : decode cX9_spill 9 = .ok (.ifCond .eq 24, 3) := by decide +kernel
theorem dX9_spill_12 : decode cX9_spill 12 = .ok (.iload_n 2, 1) := by decide +kernel
theorem dX9_spill_13 : decode cX9_spill 13 = .ok (.iload_n 3, 1) := by decide +kernel
theorem dX9_spill_14 : decode cX9_spill 14 = .ok (.invokestatic 435, 3) := by decide +kernel
theorem dX9_spill_17 : decode cX9_spill 17 = .ok (.ifCond .eq 16, 3) := by decide +kernel
theorem dX9_spill_20 : decode cX9_spill 20 = .ok (.iload 4, 2) := by decide +kernel
theorem dX9_spill_22 : decode cX9_spill 22 = .ok (.i2l, 1) := by decide +kernel
theorem dX9_spill_23 : decode cX9_spill 23 = .ok (.lconst 0, 1) := by decide +kernel
theorem dX9_spill_24 : decode cX9_spill 24 = .ok (.ldc2_w 442, 3) := by decide +kernel
theorem dX9_spill_27 : decode cX9_spill 27 = .ok (.invokestatic 52, 3) := by decide +kernel
theorem dX9_spill_30 : decode cX9_spill 30 = .ok (.ifCond .ne 6, 3) := by decide +kernel
theorem dX9_spill_33 : decode cX9_spill 33 = .ok (.bipush (-2), 2) := by decide +kernel
theorem dX9_spill_35 : decode cX9_spill 35 = .ok (.ireturn, 1) := by decide +kernel
theorem dX9_spill_36 : decode cX9_spill 36 = .ok (.aload_n 0, 1) := by decide +kernel
theorem dX9_spill_37 : decode cX9_spill 37 = .ok (.iload_n 2, 1) := by decide +kernel
theorem dX9_spill_38 : decode cX9_spill 38 = .ok (.iload_n 3, 1) := by decide +kernel
theorem dX9_spill_39 : decode cX9_spill 39 = .ok (.invokevirtual 395, 3) := by decide +kernel
theorem dX9_spill_42 : decode cX9_spill 42 = .ok (.istore 5, 2) := by decide +kernel
theorem dX9_spill_44 : decode cX9_spill 44 = .ok (.iconst 0, 1) := by decide +kernel
theorem dX9_spill_45 : decode cX9_spill 45 = .ok (.istore 6, 2) := by decide +kernel
theorem dX9_spill_47 : decode cX9_spill 47 = .ok (.iload 6, 2) := by decide +kernel
theorem dX9_spill_49 : decode cX9_spill 49 = .ok (.bipush 9, 2) := by decide +kernel
theorem dX9_spill_51 : decode cX9_spill 51 = .ok (.if_icmp .ge 27, 3) := by decide +kernel
theorem dX9_spill_54 : decode cX9_spill 54 = .ok (.aload_n 0, 1) := by decide +kernel
theorem dX9_spill_55 : decode cX9_spill 55 = .ok (.getfield 281, 3) := by decide +kernel
theorem dX9_spill_58 : decode cX9_spill 58 = .ok (.iload 6, 2) := by decide +kernel
theorem dX9_spill_60 : decode cX9_spill 60 = .ok (.iload 6, 2) := by decide +kernel
theorem dX9_spill_62 : decode cX9_spill 62 = .ok (.iconst 4, 1) := by decide +kernel
theorem dX9_spill_63 : decode cX9_spill 63 = .ok (.if_icmp .ne 7, 3) := by decide +kernel
theorem dX9_spill_66 : decode cX9_spill 66 = .ok (.iload_n 1, 1) := by decide +kernel
theorem dX9_spill_67 : decode cX9_spill 67 = .ok (.goto 4, 3) := by decide +kernel
theorem dX9_spill_70 : decode cX9_spill 70 = .ok (.iconst 0, 1) := by decide +kernel
theorem dX9_spill_71 : decode cX9_spill 71 = .ok (.iastore, 1) := by decide +kernel
theorem dX9_spill_72 : decode cX9_spill 72 = .ok (.iinc 6 1, 3) := by decide +kernel
theorem dX9_spill_75 : decode cX9_spill 75 = .ok (.goto (-28), 3) := by decide +kernel
theorem dX9_spill_78 : decode cX9_spill 78 = .ok (.iconst 1, 1) := by decide +kernel
theorem dX9_spill_79 : decode cX9_spill 79 = .ok (.istore 6, 2) := by decide +kernel
theorem dX9_spill_81 : decode cX9_spill 81 = .ok (.iload 6, 2) := by decide +kernel
theorem dX9_spill_83 : decode cX9_spill 83 = .ok (.ifCond .eq 128, 3) := by decide +kernel
theorem dX9_spill_86 : decode cX9_spill 86 = .ok (.iconst 0, 1) := by decide +kernel
theorem dX9_spill_87 : decode cX9_spill 87 = .ok (.istore 6, 2) := by decide +kernel
theorem dX9_spill_89 : decode cX9_spill 89 = .ok (.iconst 0, 1) := by decide +kernel
theorem dX9_spill_90 : decode cX9_spill 90 = .ok (.istore 7, 2) := by decide +kernel
theorem dX9_spill_92 : decode cX9_spill 92 = .ok (.iload 7, 2) := by decide +kernel
theorem dX9_spill_94 : decode cX9_spill 94 = .ok (.bipush 9, 2) := by decide +kernel
theorem dX9_spill_96 : decode cX9_spill 96 = .ok (.if_icmp .ge 112, 3) := by decide +kernel
theorem dX9_spill_99 : decode cX9_spill 99 = .ok (.iload 7, 2) := by decide +kernel
theorem dX9_spill_101 : decode cX9_spill 101 = .ok (.ifCond .ne 7, 3) := by decide +kernel
theorem dX9_spill_104 : decode cX9_spill 104 = .ok (.iconst 1, 1) := by decide +kernel
theorem dX9_spill_105 : decode cX9_spill 105 = .ok (.goto 47, 3) := by decide +kernel
theorem dX9_spill_108 : decode cX9_spill 108 = .ok (.iload 7, 2) := by decide +kernel
theorem dX9_spill_110 : decode cX9_spill 110 = .ok (.bipush 8, 2) := by decide +kernel
theorem dX9_spill_112 : decode cX9_spill 112 = .ok (.if_icmp .ne 8, 3) := by decide +kernel
theorem dX9_spill_115 : decode cX9_spill 115 = .ok (.bipush 7, 2) := by decide +kernel
theorem dX9_spill_117 : decode cX9_spill 117 = .ok (.goto 35, 3) := by decide +kernel
theorem dX9_spill_120 : decode cX9_spill 120 = .ok (.aload_n 0, 1) := by decide +kernel
theorem dX9_spill_121 : decode cX9_spill 121 = .ok (.getfield 281, 3) := by decide +kernel
theorem dX9_spill_124 : decode cX9_spill 124 = .ok (.iload 7, 2) := by decide +kernel
theorem dX9_spill_126 : decode cX9_spill 126 = .ok (.iconst 1, 1) := by decide +kernel
theorem dX9_spill_127 : decode cX9_spill 127 = .ok (.iadd, 1) := by decide +kernel
theorem dX9_spill_128 : decode cX9_spill 128 = .ok (.iaload, 1) := by decide +kernel
theorem dX9_spill_129 : decode cX9_spill 129 = .ok (.aload_n 0, 1) := by decide +kernel
theorem dX9_spill_130 : decode cX9_spill 130 = .ok (.getfield 281, 3) := by decide +kernel
theorem dX9_spill_133 : decode cX9_spill 133 = .ok (.iload 7, 2) := by decide +kernel
theorem dX9_spill_135 : decode cX9_spill 135 = .ok (.iconst 1, 1) := by decide +kernel
theorem dX9_spill_136 : decode cX9_spill 136 = .ok (.isub, 1) := by decide +kernel
theorem dX9_spill_137 : decode cX9_spill 137 = .ok (.iaload, 1) := by decide +kernel
theorem dX9_spill_138 : decode cX9_spill 138 = .ok (.if_icmp .ge 10, 3) := by decide +kernel
theorem dX9_spill_141 : decode cX9_spill 141 = .ok (.iload 7, 2) := by decide +kernel
theorem dX9_spill_143 : decode cX9_spill 143 = .ok (.iconst 1, 1) := by decide +kernel
theorem dX9_spill_144 : decode cX9_spill 144 = .ok (.iadd, 1) := by decide +kernel
theorem dX9_spill_145 : decode cX9_spill 145 = .ok (.goto 7, 3) := by decide +kernel
theorem dX9_spill_148 : decode cX9_spill 148 = .ok (.iload 7, 2) := by decide +kernel
theorem dX9_spill_150 : decode cX9_spill 150 = .ok (.iconst 1, 1) := by decide +kernel
theorem dX9_spill_151 : decode cX9_spill 151 = .ok (.isub, 1) := by decide +kernel
theorem dX9_spill_152 : decode cX9_spill 152 = .ok (.istore 8, 2) := by decide +kernel
theorem dX9_spill_154 : decode cX9_spill 154 = .ok (.aload_n 0, 1) := by decide +kernel
theorem dX9_spill_155 : decode cX9_spill 155 = .ok (.getfield 281, 3) := by decide +kernel
theorem dX9_spill_158 : decode cX9_spill 158 = .ok (.iload 7, 2) := by decide +kernel
theorem dX9_spill_160 : decode cX9_spill 160 = .ok (.iaload, 1) := by decide +kernel
theorem dX9_spill_161 : decode cX9_spill 161 = .ok (.aload_n 0, 1) := by decide +kernel
theorem dX9_spill_162 : decode cX9_spill 162 = .ok (.getfield 281, 3) := by decide +kernel
theorem dX9_spill_165 : decode cX9_spill 165 = .ok (.iload 8, 2) := by decide +kernel
theorem dX9_spill_167 : decode cX9_spill 167 = .ok (.iaload, 1) := by decide +kernel
theorem dX9_spill_168 : decode cX9_spill 168 = .ok (.isub, 1) := by decide +kernel
theorem dX9_spill_169 : decode cX9_spill 169 = .ok (.iload 5, 2) := by decide +kernel
theorem dX9_spill_171 : decode cX9_spill 171 = .ok (.if_icmp .gt 6, 3) := by decide +kernel
theorem dX9_spill_174 : decode cX9_spill 174 = .ok (.goto 28, 3) := by decide +kernel
theorem dX9_spill_177 : decode cX9_spill 177 = .ok (.aload_n 0, 1) := by decide +kernel
theorem dX9_spill_178 : decode cX9_spill 178 = .ok (.getfield 281, 3) := by decide +kernel
theorem dX9_spill_181 : decode cX9_spill 181 = .ok (.iload 7, 2) := by decide +kernel
theorem dX9_spill_183 : decode cX9_spill 183 = .ok (.dup2, 1) := by decide +kernel
theorem dX9_spill_184 : decode cX9_spill 184 = .ok (.iaload, 1) := by decide +kernel
theorem dX9_spill_185 : decode cX9_spill 185 = .ok (.iconst 1, 1) := by decide +kernel
theorem dX9_spill_186 : decode cX9_spill 186 = .ok (.isub, 1) := by decide +kernel
theorem dX9_spill_187 : decode cX9_spill 187 = .ok (.iastore, 1) := by decide +kernel
theorem dX9_spill_188 : decode cX9_spill 188 = .ok (.aload_n 0, 1) := by decide +kernel
theorem dX9_spill_189 : decode cX9_spill 189 = .ok (.getfield 281, 3) := by decide +kernel
theorem dX9_spill_192 : decode cX9_spill 192 = .ok (.iload 8, 2) := by decide +kernel
theorem dX9_spill_194 : decode cX9_spill 194 = .ok (.dup2, 1) := by decide +kernel
theorem dX9_spill_195 : decode cX9_spill 195 = .ok (.iaload, 1) := by decide +kernel
theorem dX9_spill_196 : decode cX9_spill 196 = .ok (.iconst 1, 1) := by decide +kernel
theorem dX9_spill_197 : decode cX9_spill 197 = .ok (.iadd, 1) := by decide +kernel
theorem dX9_spill_198 : decode cX9_spill 198 = .ok (.iastore, 1) := by decide +kernel
theorem dX9_spill_199 : decode cX9_spill 199 = .ok (.iconst 1, 1) := by decide +kernel
theorem dX9_spill_200 : decode cX9_spill 200 = .ok (.istore 6, 2) := by decide +kernel
theorem dX9_spill_202 : decode cX9_spill 202 = .ok (.iinc 7 1, 3) := by decide +kernel
theorem dX9_spill_205 : decode cX9_spill 205 = .ok (.goto (-113), 3) := by decide +kernel
theorem dX9_spill_208 : decode cX9_spill 208 = .ok (.goto (-127), 3) := by decide +kernel
theorem dX9_spill_211 : decode cX9_spill 211 = .ok (.aload_n 0, 1) := by decide +kernel
theorem dX9_spill_212 : decode cX9_spill 212 = .ok (.getfield 281, 3) := by decide +kernel
theorem dX9_spill_215 : decode cX9_spill 215 = .ok (.iload 4, 2) := by decide +kernel
theorem dX9_spill_217 : decode cX9_spill 217 = .ok (.iaload, 1) := by decide +kernel
theorem dX9_spill_218 : decode cX9_spill 218 = .ok (.ireturn, 1) := by decide +kernel
theorem dX9_isTelling_0 : decode cX9_isTelling 0 = .ok (.iload_n 1, 1) := by decide +kernel
theorem dX9_isTelling_1 : decode cX9_isTelling 1 = .ok (.i2l, 1) := by decide +kernel
theorem dX9_isTelling_2 : decode cX9_isTelling 2 = .ok (.aload_n 0, 1) := by decide +kernel
theorem dX9_isTelling_3 : decode cX9_isTelling 3 = .ok (.getfield 444, 3) := by decide +kernel
theorem dX9_isTelling_6 : decode cX9_isTelling 6 = .ok (.i2l, 1) := by decide +kernel
theorem dX9_isTelling_7 : decode cX9_isTelling 7 = .ok (.ldc2_w 447, 3) := by decide +kernel
theorem dX9_isTelling_10 : decode cX9_isTelling 10 = .ok (.invokestatic 52, 3) := by decide +kernel
theorem dX9_isTelling_13 : decode cX9_isTelling 13 = .ok (.ireturn, 1) := by decide +kernel
theorem dX9_trial_0 : decode cX9_trial 0 = .ok (.aload_n 0, 1) := by decide +kernel
theorem dX9_trial_1 : decode cX9_trial 1 = .ok (.iload_n 1, 1) := by decide +kernel
theorem dX9_trial_2 : decode cX9_trial 2 = .ok (.invokevirtual 449, 3) := by decide +kernel
theorem dX9_trial_5 : decode cX9_trial 5 = .ok (.ifCond .eq 38, 3) := by decide +kernel
theorem dX9_trial_8 : decode cX9_trial 8 = .ok (.iload_n 2, 1) := by decide +kernel
theorem dX9_trial_9 : decode cX9_trial 9 = .ok (.i2l, 1) := by decide +kernel
theorem dX9_trial_10 : decode cX9_trial 10 = .ok (.lconst 1, 1) := by decide +kernel
theorem dX9_trial_11 : decode cX9_trial 11 = .ok (.ldc2_w 452, 3) := by decide +kernel
theorem dX9_trial_14 : decode cX9_trial 14 = .ok (.invokestatic 52, 3) := by decide +kernel
theorem dX9_trial_17 : decode cX9_trial 17 = .ok (.ifCond .eq 26, 3) := by decide +kernel
theorem dX9_trial_20 : decode cX9_trial 20 = .ok (.iload_n 3, 1) := by decide +kernel
theorem dX9_trial_21 : decode cX9_trial 21 = .ok (.i2l, 1) := by decide +kernel
theorem dX9_trial_22 : decode cX9_trial 22 = .ok (.lconst 1, 1) := by decide +kernel
theorem dX9_trial_23 : decode cX9_trial 23 = .ok (.ldc2_w 454, 3) := by decide +kernel
theorem dX9_trial_26 : decode cX9_trial 26 = .ok (.invokestatic 52, 3) := by decide +kernel
theorem dX9_trial_29 : decode cX9_trial 29 = .ok (.ifCond .eq 14, 3) := by decide +kernel
theorem dX9_trial_32 : decode cX9_trial 32 = .ok (.iload 4, 2) := by decide +kernel
theorem dX9_trial_34 : decode cX9_trial 34 = .ok (.i2l, 1) := by decide +kernel
theorem dX9_trial_35 : decode cX9_trial 35 = .ok (.lconst 0, 1) := by decide +kernel
theorem dX9_trial_36 : decode cX9_trial 36 = .ok (.lconst 1, 1) := by decide +kernel
theorem dX9_trial_37 : decode cX9_trial 37 = .ok (.invokestatic 52, 3) := by decide +kernel
theorem dX9_trial_40 : decode cX9_trial 40 = .ok (.ifCond .ne 6, 3) := by decide +kernel
theorem dX9_trial_43 : decode cX9_trial 43 = .ok (.bipush (-2), 2) := by decide +kernel
theorem dX9_trial_45 : decode cX9_trial 45 = .ok (.ireturn, 1) := by decide +kernel
theorem dX9_trial_46 : decode cX9_trial 46 = .ok (.aload_n 0, 1) := by decide +kernel
theorem dX9_trial_47 : decode cX9_trial 47 = .ok (.getfield 456, 3) := by decide +kernel
theorem dX9_trial_50 : decode cX9_trial 50 = .ok (.bipush 16, 2) := by decide +kernel
theorem dX9_trial_52 : decode cX9_trial 52 = .ok (.if_icmp .ne 6, 3) := by decide +kernel
theorem dX9_trial_55 : decode cX9_trial 55 = .ok (.bipush (-3), 2) := by decide +kernel
theorem dX9_trial_57 : decode cX9_trial 57 = .ok (.ireturn, 1) := by decide +kernel
theorem dX9_trial_58 : decode cX9_trial 58 = .ok (.aload_n 0, 1) := by decide +kernel
theorem dX9_trial_59 : decode cX9_trial 59 = .ok (.iload_n 1, 1) := by decide +kernel
theorem dX9_trial_60 : decode cX9_trial 60 = .ok (.putfield 444, 3) := by decide +kernel
theorem dX9_trial_63 : decode cX9_trial 63 = .ok (.aload_n 0, 1) := by decide +kernel
theorem dX9_trial_64 : decode cX9_trial 64 = .ok (.getfield 284, 3) := by decide +kernel
theorem dX9_trial_67 : decode cX9_trial 67 = .ok (.aload_n 0, 1) := by decide +kernel
theorem dX9_trial_68 : decode cX9_trial 68 = .ok (.getfield 456, 3) := by decide +kernel
theorem dX9_trial_71 : decode cX9_trial 71 = .ok (.iload_n 2, 1) := by decide +kernel
theorem dX9_trial_72 : decode cX9_trial 72 = .ok (.iastore, 1) := by decide +kernel
theorem dX9_trial_73 : decode cX9_trial 73 = .ok (.aload_n 0, 1) := by decide +kernel
theorem dX9_trial_74 : decode cX9_trial 74 = .ok (.getfield 287, 3) := by decide +kernel
theorem dX9_trial_77 : decode cX9_trial 77 = .ok (.aload_n 0, 1) := by decide +kernel
theorem dX9_trial_78 : decode cX9_trial 78 = .ok (.getfield 456, 3) := by decide +kernel
theorem dX9_trial_81 : decode cX9_trial 81 = .ok (.iload_n 3, 1) := by decide +kernel
theorem dX9_trial_82 : decode cX9_trial 82 = .ok (.iastore, 1) := by decide +kernel
theorem dX9_trial_83 : decode cX9_trial 83 = .ok (.aload_n 0, 1) := by decide +kernel
theorem dX9_trial_84 : decode cX9_trial 84 = .ok (.getfield 290, 3) := by decide +kernel
theorem dX9_trial_87 : decode cX9_trial 87 = .ok (.aload_n 0, 1) := by decide +kernel
theorem dX9_trial_88 : decode cX9_trial 88 = .ok (.getfield 456, 3) := by decide +kernel
theorem dX9_trial_91 : decode cX9_trial 91 = .ok (.iload 4, 2) := by decide +kernel
theorem dX9_trial_93 : decode cX9_trial 93 = .ok (.iastore, 1) := by decide +kernel
theorem dX9_trial_94 : decode cX9_trial 94 = .ok (.aload_n 0, 1) := by decide +kernel
theorem dX9_trial_95 : decode cX9_trial 95 = .ok (.getfield 293, 3) := by decide +kernel
theorem dX9_trial_98 : decode cX9_trial 98 = .ok (.aload_n 0, 1) := by decide +kernel
theorem dX9_trial_99 : decode cX9_trial 99 = .ok (.getfield 456, 3) := by decide +kernel
theorem dX9_trial_102 : decode cX9_trial 102 = .ok (.iload_n 1, 1) := by decide +kernel
theorem dX9_trial_103 : decode cX9_trial 103 = .ok (.iastore, 1) := by decide +kernel
theorem dX9_trial_104 : decode cX9_trial 104 = .ok (.aload_n 0, 1) := by decide +kernel
theorem dX9_trial_105 : decode cX9_trial 105 = .ok (.dup, 1) := by decide +kernel
theorem dX9_trial_106 : decode cX9_trial 106 = .ok (.getfield 456, 3) := by decide +kernel
theorem dX9_trial_109 : decode cX9_trial 109 = .ok (.iconst 1, 1) := by decide +kernel
theorem dX9_trial_110 : decode cX9_trial 110 = .ok (.iadd, 1) := by decide +kernel
theorem dX9_trial_111 : decode cX9_trial 111 = .ok (.putfield 456, 3) := by decide +kernel
theorem dX9_trial_114 : decode cX9_trial 114 = .ok (.aload_n 0, 1) := by decide +kernel
theorem dX9_trial_115 : decode cX9_trial 115 = .ok (.getfield 456, 3) := by decide +kernel
theorem dX9_trial_118 : decode cX9_trial 118 = .ok (.iconst 1, 1) := by decide +kernel
theorem dX9_trial_119 : decode cX9_trial 119 = .ok (.isub, 1) := by decide +kernel
theorem dX9_trial_120 : decode cX9_trial 120 = .ok (.ireturn, 1) := by decide +kernel
theorem dX9_right_0 : decode cX9_right 0 = .ok (.aload_n 0, 1) := by decide +kernel
theorem dX9_right_1 : decode cX9_right 1 = .ok (.iload_n 1, 1) := by decide +kernel
theorem dX9_right_2 : decode cX9_right 2 = .ok (.invokevirtual 449, 3) := by decide +kernel
theorem dX9_right_5 : decode cX9_right 5 = .ok (.ifCond .eq 29, 3) := by decide +kernel
theorem dX9_right_8 : decode cX9_right 8 = .ok (.iload_n 2, 1) := by decide +kernel
theorem dX9_right_9 : decode cX9_right 9 = .ok (.i2l, 1) := by decide +kernel
theorem dX9_right_10 : decode cX9_right 10 = .ok (.lconst 0, 1) := by decide +kernel
theorem dX9_right_11 : decode cX9_right 11 = .ok (.aload_n 0, 1) := by decide +kernel
theorem dX9_right_12 : decode cX9_right 12 = .ok (.getfield 456, 3) := by decide +kernel
theorem dX9_right_15 : decode cX9_right 15 = .ok (.i2l, 1) := by decide +kernel
theorem dX9_right_16 : decode cX9_right 16 = .ok (.lconst 1, 1) := by decide +kernel
theorem dX9_right_17 : decode cX9_right 17 = .ok (.lsub, 1) := by decide +kernel
theorem dX9_right_18 : decode cX9_right 18 = .ok (.invokestatic 52, 3) := by decide +kernel
theorem dX9_right_21 : decode cX9_right 21 = .ok (.ifCond .eq 13, 3) := by decide +kernel
theorem dX9_right_24 : decode cX9_right 24 = .ok (.iload_n 3, 1) := by decide +kernel
theorem dX9_right_25 : decode cX9_right 25 = .ok (.i2l, 1) := by decide +kernel
theorem dX9_right_26 : decode cX9_right 26 = .ok (.lconst 0, 1) := by decide +kernel
theorem dX9_right_27 : decode cX9_right 27 = .ok (.lconst 1, 1) := by decide +kernel
theorem dX9_right_28 : decode cX9_right 28 = .ok (.invokestatic 52, 3) := by decide +kernel
theorem dX9_right_31 : decode cX9_right 31 = .ok (.ifCond .ne 6, 3) := by decide +kernel
theorem dX9_right_34 : decode cX9_right 34 = .ok (.bipush (-2), 2) := by decide +kernel
theorem dX9_right_36 : decode cX9_right 36 = .ok (.ireturn, 1) := by decide +kernel
theorem dX9_right_37 : decode cX9_right 37 = .ok (.aload_n 0, 1) := by decide +kernel
theorem dX9_right_38 : decode cX9_right 38 = .ok (.getfield 459, 3) := by decide +kernel
theorem dX9_right_41 : decode cX9_right 41 = .ok (.bipush 20, 2) := by decide +kernel
theorem dX9_right_43 : decode cX9_right 43 = .ok (.if_icmp .ne 6, 3) := by decide +kernel
theorem dX9_right_46 : decode cX9_right 46 = .ok (.bipush (-3), 2) := by decide +kernel
theorem dX9_right_48 : decode cX9_right 48 = .ok (.ireturn, 1) := by decide +kernel
theorem dX9_right_49 : decode cX9_right 49 = .ok (.aload_n 0, 1) := by decide +kernel
theorem dX9_right_50 : decode cX9_right 50 = .ok (.iload_n 1, 1) := by decide +kernel
theorem dX9_right_51 : decode cX9_right 51 = .ok (.putfield 444, 3) := by decide +kernel
theorem dX9_right_54 : decode cX9_right 54 = .ok (.aload_n 0, 1) := by decide +kernel
theorem dX9_right_55 : decode cX9_right 55 = .ok (.getfield 296, 3) := by decide +kernel
theorem dX9_right_58 : decode cX9_right 58 = .ok (.aload_n 0, 1) := by decide +kernel
theorem dX9_right_59 : decode cX9_right 59 = .ok (.getfield 459, 3) := by decide +kernel
theorem dX9_right_62 : decode cX9_right 62 = .ok (.iload_n 2, 1) := by decide +kernel
theorem dX9_right_63 : decode cX9_right 63 = .ok (.iastore, 1) := by decide +kernel
theorem dX9_right_64 : decode cX9_right 64 = .ok (.aload_n 0, 1) := by decide +kernel
theorem dX9_right_65 : decode cX9_right 65 = .ok (.getfield 299, 3) := by decide +kernel
theorem dX9_right_68 : decode cX9_right 68 = .ok (.aload_n 0, 1) := by decide +kernel
theorem dX9_right_69 : decode cX9_right 69 = .ok (.getfield 459, 3) := by decide +kernel
theorem dX9_right_72 : decode cX9_right 72 = .ok (.iload_n 3, 1) := by decide +kernel
theorem dX9_right_73 : decode cX9_right 73 = .ok (.iastore, 1) := by decide +kernel
theorem dX9_right_74 : decode cX9_right 74 = .ok (.aload_n 0, 1) := by decide +kernel
theorem dX9_right_75 : decode cX9_right 75 = .ok (.getfield 302, 3) := by decide +kernel
theorem dX9_right_78 : decode cX9_right 78 = .ok (.aload_n 0, 1) := by decide +kernel
theorem dX9_right_79 : decode cX9_right 79 = .ok (.getfield 459, 3) := by decide +kernel
theorem dX9_right_82 : decode cX9_right 82 = .ok (.iload_n 1, 1) := by decide +kernel
theorem dX9_right_83 : decode cX9_right 83 = .ok (.iastore, 1) := by decide +kernel
theorem dX9_right_84 : decode cX9_right 84 = .ok (.aload_n 0, 1) := by decide +kernel
theorem dX9_right_85 : decode cX9_right 85 = .ok (.dup, 1) := by decide +kernel
theorem dX9_right_86 : decode cX9_right 86 = .ok (.getfield 459, 3) := by decide +kernel
theorem dX9_right_89 : decode cX9_right 89 = .ok (.iconst 1, 1) := by decide +kernel
theorem dX9_right_90 : decode cX9_right 90 = .ok (.iadd, 1) := by decide +kernel
theorem dX9_right_91 : decode cX9_right 91 = .ok (.putfield 459, 3) := by decide +kernel
theorem dX9_right_94 : decode cX9_right 94 = .ok (.iconst 0, 1) := by decide +kernel
theorem dX9_right_95 : decode cX9_right 95 = .ok (.istore 4, 2) := by decide +kernel
theorem dX9_right_97 : decode cX9_right 97 = .ok (.iconst 0, 1) := by decide +kernel
theorem dX9_right_98 : decode cX9_right 98 = .ok (.istore 5, 2) := by decide +kernel
theorem dX9_right_100 : decode cX9_right 100 = .ok (.iload 5, 2) := by decide +kernel
theorem dX9_right_102 : decode cX9_right 102 = .ok (.aload_n 0, 1) := by decide +kernel
theorem dX9_right_103 : decode cX9_right 103 = .ok (.getfield 459, 3) := by decide +kernel
theorem dX9_right_106 : decode cX9_right 106 = .ok (.if_icmp .ge 30, 3) := by decide +kernel
theorem dX9_right_109 : decode cX9_right 109 = .ok (.iload 4, 2) := by decide +kernel
theorem dX9_right_111 : decode cX9_right 111 = .ok (.aload_n 0, 1) := by decide +kernel
theorem dX9_right_112 : decode cX9_right 112 = .ok (.getfield 296, 3) := by decide +kernel
theorem dX9_right_115 : decode cX9_right 115 = .ok (.iload 5, 2) := by decide +kernel
theorem dX9_right_117 : decode cX9_right 117 = .ok (.iaload, 1) := by decide +kernel
theorem dX9_right_118 : decode cX9_right 118 = .ok (.iload_n 2, 1) := by decide +kernel
theorem dX9_right_119 : decode cX9_right 119 = .ok (.if_icmp .ne 7, 3) := by decide +kernel
theorem dX9_right_122 : decode cX9_right 122 = .ok (.iconst 1, 1) := by decide +kernel
theorem dX9_right_123 : decode cX9_right 123 = .ok (.goto 4, 3) := by decide +kernel
theorem dX9_right_126 : decode cX9_right 126 = .ok (.iconst 0, 1) := by decide +kernel
theorem dX9_right_127 : decode cX9_right 127 = .ok (.iadd, 1) := by decide +kernel
theorem dX9_right_128 : decode cX9_right 128 = .ok (.istore 4, 2) := by decide +kernel
theorem dX9_right_130 : decode cX9_right 130 = .ok (.iinc 5 1, 3) := by decide +kernel
theorem dX9_right_133 : decode cX9_right 133 = .ok (.goto (-33), 3) := by decide +kernel
theorem dX9_right_136 : decode cX9_right 136 = .ok (.iload 4, 2) := by decide +kernel
theorem dX9_right_138 : decode cX9_right 138 = .ok (.ireturn, 1) := by decide +kernel
theorem dX9_stoodBy_0 : decode cX9_stoodBy 0 = .ok (.aload_n 0, 1) := by decide +kernel
theorem dX9_stoodBy_1 : decode cX9_stoodBy 1 = .ok (.getfield 290, 3) := by decide +kernel
theorem dX9_stoodBy_4 : decode cX9_stoodBy 4 = .ok (.iload_n 1, 1) := by decide +kernel
theorem dX9_stoodBy_5 : decode cX9_stoodBy 5 = .ok (.iaload, 1) := by decide +kernel
theorem dX9_stoodBy_6 : decode cX9_stoodBy 6 = .ok (.istore_n 3, 1) := by decide +kernel
theorem dX9_stoodBy_7 : decode cX9_stoodBy 7 = .ok (.iconst 0, 1) := by decide +kernel
theorem dX9_stoodBy_8 : decode cX9_stoodBy 8 = .ok (.istore 4, 2) := by decide +kernel
theorem dX9_stoodBy_10 : decode cX9_stoodBy 10 = .ok (.iload 4, 2) := by decide +kernel
theorem dX9_stoodBy_12 : decode cX9_stoodBy 12 = .ok (.aload_n 0, 1) := by decide +kernel
theorem dX9_stoodBy_13 : decode cX9_stoodBy 13 = .ok (.getfield 459, 3) := by decide +kernel
theorem dX9_stoodBy_16 : decode cX9_stoodBy 16 = .ok (.if_icmp .ge 39, 3) := by decide +kernel
theorem dX9_stoodBy_19 : decode cX9_stoodBy 19 = .ok (.aload_n 0, 1) := by decide +kernel
theorem dX9_stoodBy_20 : decode cX9_stoodBy 20 = .ok (.getfield 296, 3) := by decide +kernel
theorem dX9_stoodBy_23 : decode cX9_stoodBy 23 = .ok (.iload 4, 2) := by decide +kernel
theorem dX9_stoodBy_25 : decode cX9_stoodBy 25 = .ok (.iaload, 1) := by decide +kernel
theorem dX9_stoodBy_26 : decode cX9_stoodBy 26 = .ok (.iload_n 1, 1) := by decide +kernel
theorem dX9_stoodBy_27 : decode cX9_stoodBy 27 = .ok (.if_icmp .ne 22, 3) := by decide +kernel
theorem dX9_stoodBy_30 : decode cX9_stoodBy 30 = .ok (.aload_n 0, 1) := by decide +kernel
theorem dX9_stoodBy_31 : decode cX9_stoodBy 31 = .ok (.getfield 302, 3) := by decide +kernel
theorem dX9_stoodBy_34 : decode cX9_stoodBy 34 = .ok (.iload 4, 2) := by decide +kernel
theorem dX9_stoodBy_36 : decode cX9_stoodBy 36 = .ok (.iaload, 1) := by decide +kernel
theorem dX9_stoodBy_37 : decode cX9_stoodBy 37 = .ok (.iload_n 2, 1) := by decide +kernel
theorem dX9_stoodBy_38 : decode cX9_stoodBy 38 = .ok (.if_icmp .gt 11, 3) := by decide +kernel
theorem dX9_stoodBy_41 : decode cX9_stoodBy 41 = .ok (.aload_n 0, 1) := by decide +kernel
theorem dX9_stoodBy_42 : decode cX9_stoodBy 42 = .ok (.getfield 299, 3) := by decide +kernel
theorem dX9_stoodBy_45 : decode cX9_stoodBy 45 = .ok (.iload 4, 2) := by decide +kernel
theorem dX9_stoodBy_47 : decode cX9_stoodBy 47 = .ok (.iaload, 1) := by decide +kernel
theorem dX9_stoodBy_48 : decode cX9_stoodBy 48 = .ok (.istore_n 3, 1) := by decide +kernel
theorem dX9_stoodBy_49 : decode cX9_stoodBy 49 = .ok (.iinc 4 1, 3) := by decide +kernel
theorem dX9_stoodBy_52 : decode cX9_stoodBy 52 = .ok (.goto (-42), 3) := by decide +kernel
theorem dX9_stoodBy_55 : decode cX9_stoodBy 55 = .ok (.iload_n 3, 1) := by decide +kernel
theorem dX9_stoodBy_56 : decode cX9_stoodBy 56 = .ok (.ireturn, 1) := by decide +kernel
theorem dX9_stands_0 : decode cX9_stands 0 = .ok (.iload 4, 2) := by decide +kernel
theorem dX9_stands_2 : decode cX9_stands 2 = .ok (.iconst 1, 1) := by decide +kernel
theorem dX9_stands_3 : decode cX9_stands 3 = .ok (.iconst 0, 1) := by decide +kernel
theorem dX9_stands_4 : decode cX9_stands 4 = .ok (.iload_n 1, 1) := by decide +kernel
theorem dX9_stands_5 : decode cX9_stands 5 = .ok (.iload_n 2, 1) := by decide +kernel
theorem dX9_stands_6 : decode cX9_stands 6 = .ok (.iload_n 3, 1) := by decide +kernel
theorem dX9_stands_7 : decode cX9_stands 7 = .ok (.iload_n 0, 1) := by decide +kernel
theorem dX9_stands_8 : decode cX9_stands 8 = .ok (.isub, 1) := by decide +kernel
theorem dX9_stands_9 : decode cX9_stands 9 = .ok (.invokestatic 354, 3) := by decide +kernel
theorem dX9_stands_12 : decode cX9_stands 12 = .ok (.imul, 1) := by decide +kernel
theorem dX9_stands_13 : decode cX9_stands 13 = .ok (.isub, 1) := by decide +kernel
theorem dX9_stands_14 : decode cX9_stands 14 = .ok (.invokestatic 359, 3) := by decide +kernel
theorem dX9_stands_17 : decode cX9_stands 17 = .ok (.iadd, 1) := by decide +kernel
theorem dX9_stands_18 : decode cX9_stands 18 = .ok (.if_icmp .gt 7, 3) := by decide +kernel
theorem dX9_stands_21 : decode cX9_stands 21 = .ok (.iconst 1, 1) := by decide +kernel
theorem dX9_stands_22 : decode cX9_stands 22 = .ok (.goto 4, 3) := by decide +kernel
theorem dX9_stands_25 : decode cX9_stands 25 = .ok (.iconst 0, 1) := by decide +kernel
theorem dX9_stands_26 : decode cX9_stands 26 = .ok (.ireturn, 1) := by decide +kernel
theorem dX9_fits_0 : decode cX9_fits 0 = .ok (.iconst 0, 1) := by decide +kernel
theorem dX9_fits_1 : decode cX9_fits 1 = .ok (.istore 5, 2) := by decide +kernel
theorem dX9_fits_3 : decode cX9_fits 3 = .ok (.iload 5, 2) := by decide +kernel
theorem dX9_fits_5 : decode cX9_fits 5 = .ok (.aload_n 0, 1) := by decide +kernel
theorem dX9_fits_6 : decode cX9_fits 6 = .ok (.getfield 456, 3) := by decide +kernel
theorem dX9_fits_9 : decode cX9_fits 9 = .ok (.if_icmp .ge 63, 3) := by decide +kernel
theorem dX9_fits_12 : decode cX9_fits 12 = .ok (.aload_n 0, 1) := by decide +kernel
theorem dX9_fits_13 : decode cX9_fits 13 = .ok (.getfield 293, 3) := by decide +kernel
theorem dX9_fits_16 : decode cX9_fits 16 = .ok (.iload 5, 2) := by decide +kernel
theorem dX9_fits_18 : decode cX9_fits 18 = .ok (.iaload, 1) := by decide +kernel
theorem dX9_fits_19 : decode cX9_fits 19 = .ok (.iload 4, 2) := by decide +kernel
theorem dX9_fits_21 : decode cX9_fits 21 = .ok (.if_icmp .gt 45, 3) := by decide +kernel
theorem dX9_fits_24 : decode cX9_fits 24 = .ok (.iload_n 1, 1) := by decide +kernel
theorem dX9_fits_25 : decode cX9_fits 25 = .ok (.iload_n 2, 1) := by decide +kernel
theorem dX9_fits_26 : decode cX9_fits 26 = .ok (.iload_n 3, 1) := by decide +kernel
theorem dX9_fits_27 : decode cX9_fits 27 = .ok (.aload_n 0, 1) := by decide +kernel
theorem dX9_fits_28 : decode cX9_fits 28 = .ok (.getfield 284, 3) := by decide +kernel
theorem dX9_fits_31 : decode cX9_fits 31 = .ok (.iload 5, 2) := by decide +kernel
theorem dX9_fits_33 : decode cX9_fits 33 = .ok (.iaload, 1) := by decide +kernel
theorem dX9_fits_34 : decode cX9_fits 34 = .ok (.aload_n 0, 1) := by decide +kernel
theorem dX9_fits_35 : decode cX9_fits 35 = .ok (.getfield 287, 3) := by decide +kernel
theorem dX9_fits_38 : decode cX9_fits 38 = .ok (.iload 5, 2) := by decide +kernel
theorem dX9_fits_40 : decode cX9_fits 40 = .ok (.iaload, 1) := by decide +kernel
theorem dX9_fits_41 : decode cX9_fits 41 = .ok (.invokestatic 462, 3) := by decide +kernel
theorem dX9_fits_44 : decode cX9_fits 44 = .ok (.aload_n 0, 1) := by decide +kernel
theorem dX9_fits_45 : decode cX9_fits 45 = .ok (.iload 5, 2) := by decide +kernel
theorem dX9_fits_47 : decode cX9_fits 47 = .ok (.iload 4, 2) := by decide +kernel
theorem dX9_fits_49 : decode cX9_fits 49 = .ok (.invokevirtual 466, 3) := by decide +kernel
theorem dX9_fits_52 : decode cX9_fits 52 = .ok (.iconst 1, 1) := by decide +kernel
theorem dX9_fits_53 : decode cX9_fits 53 = .ok (.if_icmp .ne 7, 3) := by decide +kernel
theorem dX9_fits_56 : decode cX9_fits 56 = .ok (.iconst 1, 1) := by decide +kernel
theorem dX9_fits_57 : decode cX9_fits 57 = .ok (.goto 4, 3) := by decide +kernel
theorem dX9_fits_60 : decode cX9_fits 60 = .ok (.iconst 0, 1) := by decide +kernel
theorem dX9_fits_61 : decode cX9_fits 61 = .ok (.if_icmp .eq 5, 3) := by decide +kernel
theorem dX9_fits_64 : decode cX9_fits 64 = .ok (.iconst 0, 1) := by decide +kernel
theorem dX9_fits_65 : decode cX9_fits 65 = .ok (.ireturn, 1) := by decide +kernel
theorem dX9_fits_66 : decode cX9_fits 66 = .ok (.iinc 5 1, 3) := by decide +kernel
theorem dX9_fits_69 : decode cX9_fits 69 = .ok (.goto (-66), 3) := by decide +kernel
theorem dX9_fits_72 : decode cX9_fits 72 = .ok (.iconst 1, 1) := by decide +kernel
theorem dX9_fits_73 : decode cX9_fits 73 = .ok (.ireturn, 1) := by decide +kernel
theorem dX9_humps_0 : decode cX9_humps 0 = .ok (.iload_n 1, 1) := by decide +kernel
theorem dX9_humps_1 : decode cX9_humps 1 = .ok (.i2l, 1) := by decide +kernel
theorem dX9_humps_2 : decode cX9_humps 2 = .ok (.lconst 0, 1) := by decide +kernel
theorem dX9_humps_3 : decode cX9_humps 3 = .ok (.ldc2_w 447, 3) := by decide +kernel
theorem dX9_humps_6 : decode cX9_humps 6 = .ok (.invokestatic 52, 3) := by decide +kernel
theorem dX9_humps_9 : decode cX9_humps 9 = .ok (.ifCond .eq 15, 3) := by decide +kernel
theorem dX9_humps_12 : decode cX9_humps 12 = .ok (.iload_n 2, 1) := by decide +kernel
theorem dX9_humps_13 : decode cX9_humps 13 = .ok (.i2l, 1) := by decide +kernel
theorem dX9_humps_14 : decode cX9_humps 14 = .ok (.lconst 0, 1) := by decide +kernel
theorem dX9_humps_15 : decode cX9_humps 15 = .ok (.ldc2_w 425, 3) := by decide +kernel
theorem dX9_humps_18 : decode cX9_humps 18 = .ok (.invokestatic 52, 3) := by decide +kernel
theorem dX9_humps_21 : decode cX9_humps 21 = .ok (.ifCond .ne 6, 3) := by decide +kernel
theorem dX9_humps_24 : decode cX9_humps 24 = .ok (.bipush (-2), 2) := by decide +kernel
theorem dX9_humps_26 : decode cX9_humps 26 = .ok (.ireturn, 1) := by decide +kernel
theorem dX9_humps_27 : decode cX9_humps 27 = .ok (.iconst 0, 1) := by decide +kernel
theorem dX9_humps_28 : decode cX9_humps 28 = .ok (.istore_n 3, 1) := by decide +kernel
theorem dX9_humps_29 : decode cX9_humps 29 = .ok (.iconst (-1), 1) := by decide +kernel
theorem dX9_humps_30 : decode cX9_humps 30 = .ok (.istore 4, 2) := by decide +kernel
theorem dX9_humps_32 : decode cX9_humps 32 = .ok (.iconst (-1), 1) := by decide +kernel
theorem dX9_humps_33 : decode cX9_humps 33 = .ok (.istore 5, 2) := by decide +kernel
theorem dX9_humps_35 : decode cX9_humps 35 = .ok (.iconst (-1), 1) := by decide +kernel
theorem dX9_humps_36 : decode cX9_humps 36 = .ok (.istore 6, 2) := by decide +kernel
theorem dX9_humps_38 : decode cX9_humps 38 = .ok (.iconst (-1), 1) := by decide +kernel
theorem dX9_humps_39 : decode cX9_humps 39 = .ok (.istore 7, 2) := by decide +kernel
theorem dX9_humps_41 : decode cX9_humps 41 = .ok (.iconst 1, 1) := by decide +kernel
theorem dX9_humps_42 : decode cX9_humps 42 = .ok (.istore 8, 2) := by decide +kernel
theorem dX9_humps_44 : decode cX9_humps 44 = .ok (.iload 8, 2) := by decide +kernel
theorem dX9_humps_46 : decode cX9_humps 46 = .ok (.bipush 15, 2) := by decide +kernel
theorem dX9_humps_48 : decode cX9_humps 48 = .ok (.if_icmp .gt 108, 3) := by decide +kernel
theorem dX9_humps_51 : decode cX9_humps 51 = .ok (.iconst 0, 1) := by decide +kernel
theorem dX9_humps_52 : decode cX9_humps 52 = .ok (.istore 9, 2) := by decide +kernel
theorem dX9_humps_54 : decode cX9_humps 54 = .ok (.iload 9, 2) := by decide +kernel
theorem dX9_humps_56 : decode cX9_humps 56 = .ok (.bipush 20, 2) := by decide +kernel
theorem dX9_humps_58 : decode cX9_humps 58 = .ok (.if_icmp .gt 92, 3) := by decide +kernel
theorem dX9_humps_61 : decode cX9_humps 61 = .ok (.iconst 1, 1) := by decide +kernel
theorem dX9_humps_62 : decode cX9_humps 62 = .ok (.istore 10, 2) := by decide +kernel
theorem dX9_humps_64 : decode cX9_humps 64 = .ok (.iload 10, 2) := by decide +kernel
theorem dX9_humps_66 : decode cX9_humps 66 = .ok (.iconst 5, 1) := by decide +kernel
theorem dX9_humps_67 : decode cX9_humps 67 = .ok (.if_icmp .gt 77, 3) := by decide +kernel
theorem dX9_humps_70 : decode cX9_humps 70 = .ok (.aload_n 0, 1) := by decide +kernel
theorem dX9_humps_71 : decode cX9_humps 71 = .ok (.iload 8, 2) := by decide +kernel
theorem dX9_humps_73 : decode cX9_humps 73 = .ok (.iload 9, 2) := by decide +kernel
theorem dX9_humps_75 : decode cX9_humps 75 = .ok (.iload 10, 2) := by decide +kernel
theorem dX9_humps_77 : decode cX9_humps 77 = .ok (.iload_n 1, 1) := by decide +kernel
theorem dX9_humps_78 : decode cX9_humps 78 = .ok (.invokevirtual 469, 3) := by decide +kernel
theorem dX9_humps_81 : decode cX9_humps 81 = .ok (.ifCond .ne 6, 3) := by decide +kernel
theorem dX9_humps_84 : decode cX9_humps 84 = .ok (.goto 54, 3) := by decide +kernel
theorem dX9_humps_87 : decode cX9_humps 87 = .ok (.iinc 3 1, 3) := by decide +kernel
theorem dX9_humps_90 : decode cX9_humps 90 = .ok (.iload 4, 2) := by decide +kernel
theorem dX9_humps_92 : decode cX9_humps 92 = .ok (.iconst (-1), 1) := by decide +kernel
theorem dX9_humps_93 : decode cX9_humps 93 = .ok (.if_icmp .ne 8, 3) := by decide +kernel
theorem dX9_humps_96 : decode cX9_humps 96 = .ok (.iload 8, 2) := by decide +kernel
theorem dX9_humps_98 : decode cX9_humps 98 = .ok (.goto 5, 3) := by decide +kernel
theorem dX9_humps_101 : decode cX9_humps 101 = .ok (.iload 4, 2) := by decide +kernel
theorem dX9_humps_103 : decode cX9_humps 103 = .ok (.istore 4, 2) := by decide +kernel
theorem dX9_humps_105 : decode cX9_humps 105 = .ok (.iload 8, 2) := by decide +kernel
theorem dX9_humps_107 : decode cX9_humps 107 = .ok (.istore 5, 2) := by decide +kernel
theorem dX9_humps_109 : decode cX9_humps 109 = .ok (.iload 6, 2) := by decide +kernel
theorem dX9_humps_111 : decode cX9_humps 111 = .ok (.iconst (-1), 1) := by decide +kernel
theorem dX9_humps_112 : decode cX9_humps 112 = .ok (.if_icmp .ne 8, 3) := by decide +kernel
theorem dX9_humps_115 : decode cX9_humps 115 = .ok (.iload 9, 2) := by decide +kernel
theorem dX9_humps_117 : decode cX9_humps 117 = .ok (.goto 10, 3) := by decide +kernel
theorem dX9_humps_120 : decode cX9_humps 120 = .ok (.iload 6, 2) := by decide +kernel
theorem dX9_humps_122 : decode cX9_humps 122 = .ok (.iload 9, 2) := by decide +kernel
theorem dX9_humps_124 : decode cX9_humps 124 = .ok (.invokestatic 370, 3) := by decide +kernel
theorem dX9_humps_127 : decode cX9_humps 127 = .ok (.istore 6, 2) := by decide +kernel
theorem dX9_humps_129 : decode cX9_humps 129 = .ok (.iload 7, 2) := by decide +kernel
theorem dX9_humps_131 : decode cX9_humps 131 = .ok (.iload 9, 2) := by decide +kernel
theorem dX9_humps_133 : decode cX9_humps 133 = .ok (.invokestatic 359, 3) := by decide +kernel
theorem dX9_humps_136 : decode cX9_humps 136 = .ok (.istore 7, 2) := by decide +kernel
theorem dX9_humps_138 : decode cX9_humps 138 = .ok (.iinc 10 1, 3) := by decide +kernel
theorem dX9_humps_141 : decode cX9_humps 141 = .ok (.goto (-77), 3) := by decide +kernel
theorem dX9_humps_144 : decode cX9_humps 144 = .ok (.iinc 9 1, 3) := by decide +kernel
theorem dX9_humps_147 : decode cX9_humps 147 = .ok (.goto (-93), 3) := by decide +kernel
theorem dX9_humps_150 : decode cX9_humps 150 = .ok (.iinc 8 1, 3) := by decide +kernel
theorem dX9_humps_153 : decode cX9_humps 153 = .ok (.goto (-109), 3) := by decide +kernel
theorem dX9_humps_156 : decode cX9_humps 156 = .ok (.iload_n 2, 1) := by decide +kernel
theorem dX9_humps_157 : decode cX9_humps 157 = .ok (.ifCond .ne 7, 3) := by decide +kernel
theorem dX9_humps_160 : decode cX9_humps 160 = .ok (.iload_n 3, 1) := by decide +kernel
theorem dX9_humps_161 : decode cX9_humps 161 = .ok (.goto 35, 3) := by decide +kernel
theorem dX9_humps_164 : decode cX9_humps 164 = .ok (.iload_n 2, 1) := by decide +kernel
theorem dX9_humps_165 : decode cX9_humps 165 = .ok (.iconst 1, 1) := by decide +kernel
theorem dX9_humps_166 : decode cX9_humps 166 = .ok (.if_icmp .ne 8, 3) := by decide +kernel
theorem dX9_humps_169 : decode cX9_humps 169 = .ok (.iload 4, 2) := by decide +kernel
theorem dX9_humps_171 : decode cX9_humps 171 = .ok (.goto 25, 3) := by decide +kernel
theorem dX9_humps_174 : decode cX9_humps 174 = .ok (.iload_n 2, 1) := by decide +kernel
theorem dX9_humps_175 : decode cX9_humps 175 = .ok (.iconst 2, 1) := by decide +kernel
theorem dX9_humps_176 : decode cX9_humps 176 = .ok (.if_icmp .ne 8, 3) := by decide +kernel
theorem dX9_humps_179 : decode cX9_humps 179 = .ok (.iload 5, 2) := by decide +kernel
theorem dX9_humps_181 : decode cX9_humps 181 = .ok (.goto 15, 3) := by decide +kernel
theorem dX9_humps_184 : decode cX9_humps 184 = .ok (.iload_n 2, 1) := by decide +kernel
theorem dX9_humps_185 : decode cX9_humps 185 = .ok (.iconst 3, 1) := by decide +kernel
theorem dX9_humps_186 : decode cX9_humps 186 = .ok (.if_icmp .ne 8, 3) := by decide +kernel
theorem dX9_humps_189 : decode cX9_humps 189 = .ok (.iload 6, 2) := by decide +kernel
theorem dX9_humps_191 : decode cX9_humps 191 = .ok (.goto 5, 3) := by decide +kernel
theorem dX9_humps_194 : decode cX9_humps 194 = .ok (.iload 7, 2) := by decide +kernel
theorem dX9_humps_196 : decode cX9_humps 196 = .ok (.ireturn, 1) := by decide +kernel
theorem dX9_next_0 : decode cX9_next 0 = .ok (.iconst 0, 1) := by decide +kernel
theorem dX9_next_1 : decode cX9_next 1 = .ok (.istore_n 1, 1) := by decide +kernel
theorem dX9_next_2 : decode cX9_next 2 = .ok (.iconst 0, 1) := by decide +kernel
theorem dX9_next_3 : decode cX9_next 3 = .ok (.istore_n 2, 1) := by decide +kernel
theorem dX9_next_4 : decode cX9_next 4 = .ok (.iload_n 2, 1) := by decide +kernel
theorem dX9_next_5 : decode cX9_next 5 = .ok (.aload_n 0, 1) := by decide +kernel
theorem dX9_next_6 : decode cX9_next 6 = .ok (.getfield 305, 3) := by decide +kernel
theorem dX9_next_9 : decode cX9_next 9 = .ok (.arraylength, 1) := by decide +kernel
theorem dX9_next_10 : decode cX9_next 10 = .ok (.if_icmp .ge 16, 3) := by decide +kernel
theorem dX9_next_13 : decode cX9_next 13 = .ok (.aload_n 0, 1) := by decide +kernel
theorem dX9_next_14 : decode cX9_next 14 = .ok (.getfield 305, 3) := by decide +kernel
theorem dX9_next_17 : decode cX9_next 17 = .ok (.iload_n 2, 1) := by decide +kernel
theorem dX9_next_18 : decode cX9_next 18 = .ok (.iconst 0, 1) := by decide +kernel
theorem dX9_next_19 : decode cX9_next 19 = .ok (.iastore, 1) := by decide +kernel
theorem dX9_next_20 : decode cX9_next 20 = .ok (.iinc 2 1, 3) := by decide +kernel
theorem dX9_next_23 : decode cX9_next 23 = .ok (.goto (-19), 3) := by decide +kernel
theorem dX9_next_26 : decode cX9_next 26 = .ok (.iconst 1, 1) := by decide +kernel
theorem dX9_next_27 : decode cX9_next 27 = .ok (.istore_n 2, 1) := by decide +kernel
theorem dX9_next_28 : decode cX9_next 28 = .ok (.iload_n 2, 1) := by decide +kernel
theorem dX9_next_29 : decode cX9_next 29 = .ok (.bipush 15, 2) := by decide +kernel
theorem dX9_next_31 : decode cX9_next 31 = .ok (.if_icmp .gt 125, 3) := by decide +kernel
theorem dX9_next_34 : decode cX9_next 34 = .ok (.iconst 0, 1) := by decide +kernel
theorem dX9_next_35 : decode cX9_next 35 = .ok (.istore_n 3, 1) := by decide +kernel
theorem dX9_next_36 : decode cX9_next 36 = .ok (.iload_n 3, 1) := by decide +kernel
theorem dX9_next_37 : decode cX9_next 37 = .ok (.bipush 20, 2) := by decide +kernel
theorem dX9_next_39 : decode cX9_next 39 = .ok (.if_icmp .gt 111, 3) := by decide +kernel
theorem dX9_next_42 : decode cX9_next 42 = .ok (.iconst 1, 1) := by decide +kernel
theorem dX9_next_43 : decode cX9_next 43 = .ok (.istore 4, 2) := by decide +kernel
theorem dX9_next_45 : decode cX9_next 45 = .ok (.iload 4, 2) := by decide +kernel
theorem dX9_next_47 : decode cX9_next 47 = .ok (.iconst 5, 1) := by decide +kernel
theorem dX9_next_48 : decode cX9_next 48 = .ok (.if_icmp .gt 96, 3) := by decide +kernel
theorem dX9_next_51 : decode cX9_next 51 = .ok (.aload_n 0, 1) := by decide +kernel
theorem dX9_next_52 : decode cX9_next 52 = .ok (.iload_n 2, 1) := by decide +kernel
theorem dX9_next_53 : decode cX9_next 53 = .ok (.iload_n 3, 1) := by decide +kernel
theorem dX9_next_54 : decode cX9_next 54 = .ok (.iload 4, 2) := by decide +kernel
theorem dX9_next_56 : decode cX9_next 56 = .ok (.sipush 999, 3) := by decide +kernel
theorem dX9_next_59 : decode cX9_next 59 = .ok (.invokevirtual 469, 3) := by decide +kernel
theorem dX9_next_62 : decode cX9_next 62 = .ok (.ifCond .ne 6, 3) := by decide +kernel
theorem dX9_next_65 : decode cX9_next 65 = .ok (.goto 73, 3) := by decide +kernel
theorem dX9_next_68 : decode cX9_next 68 = .ok (.iinc 1 1, 3) := by decide +kernel
theorem dX9_next_71 : decode cX9_next 71 = .ok (.iconst 1, 1) := by decide +kernel
theorem dX9_next_72 : decode cX9_next 72 = .ok (.istore 5, 2) := by decide +kernel
theorem dX9_next_74 : decode cX9_next 74 = .ok (.iload 5, 2) := by decide +kernel
theorem dX9_next_76 : decode cX9_next 76 = .ok (.bipush 15, 2) := by decide +kernel
theorem dX9_next_78 : decode cX9_next 78 = .ok (.if_icmp .gt 60, 3) := by decide +kernel
theorem dX9_next_81 : decode cX9_next 81 = .ok (.iconst 1, 1) := by decide +kernel
theorem dX9_next_82 : decode cX9_next 82 = .ok (.istore 6, 2) := by decide +kernel
theorem dX9_next_84 : decode cX9_next 84 = .ok (.iload 6, 2) := by decide +kernel
theorem dX9_next_86 : decode cX9_next 86 = .ok (.bipush 30, 2) := by decide +kernel
theorem dX9_next_88 : decode cX9_next 88 = .ok (.if_icmp .gt 44, 3) := by decide +kernel
theorem dX9_next_91 : decode cX9_next 91 = .ok (.aload_n 0, 1) := by decide +kernel
theorem dX9_next_92 : decode cX9_next 92 = .ok (.getfield 305, 3) := by decide +kernel
theorem dX9_next_95 : decode cX9_next 95 = .ok (.bipush 31, 2) := by decide +kernel
theorem dX9_next_97 : decode cX9_next 97 = .ok (.iload 5, 2) := by decide +kernel
theorem dX9_next_99 : decode cX9_next 99 = .ok (.imul, 1) := by decide +kernel
theorem dX9_next_100 : decode cX9_next 100 = .ok (.iload 6, 2) := by decide +kernel
theorem dX9_next_102 : decode cX9_next 102 = .ok (.iadd, 1) := by decide +kernel
theorem dX9_next_103 : decode cX9_next 103 = .ok (.dup2, 1) := by decide +kernel
theorem dX9_next_104 : decode cX9_next 104 = .ok (.iaload, 1) := by decide +kernel
theorem dX9_next_105 : decode cX9_next 105 = .ok (.iload_n 2, 1) := by decide +kernel
theorem dX9_next_106 : decode cX9_next 106 = .ok (.iload_n 3, 1) := by decide +kernel
theorem dX9_next_107 : decode cX9_next 107 = .ok (.iload 4, 2) := by decide +kernel
theorem dX9_next_109 : decode cX9_next 109 = .ok (.iload 5, 2) := by decide +kernel
theorem dX9_next_111 : decode cX9_next 111 = .ok (.iload 6, 2) := by decide +kernel
theorem dX9_next_113 : decode cX9_next 113 = .ok (.invokestatic 462, 3) := by decide +kernel
theorem dX9_next_116 : decode cX9_next 116 = .ok (.ifCond .eq 7, 3) := by decide +kernel
theorem dX9_next_119 : decode cX9_next 119 = .ok (.iconst 1, 1) := by decide +kernel
theorem dX9_next_120 : decode cX9_next 120 = .ok (.goto 4, 3) := by decide +kernel
theorem dX9_next_123 : decode cX9_next 123 = .ok (.iconst 0, 1) := by decide +kernel
theorem dX9_next_124 : decode cX9_next 124 = .ok (.iadd, 1) := by decide +kernel
theorem dX9_next_125 : decode cX9_next 125 = .ok (.iastore, 1) := by decide +kernel
theorem dX9_next_126 : decode cX9_next 126 = .ok (.iinc 6 1, 3) := by decide +kernel
theorem dX9_next_129 : decode cX9_next 129 = .ok (.goto (-45), 3) := by decide +kernel
theorem dX9_next_132 : decode cX9_next 132 = .ok (.iinc 5 1, 3) := by decide +kernel
theorem dX9_next_135 : decode cX9_next 135 = .ok (.goto (-61), 3) := by decide +kernel
theorem dX9_next_138 : decode cX9_next 138 = .ok (.iinc 4 1, 3) := by decide +kernel
theorem dX9_next_141 : decode cX9_next 141 = .ok (.goto (-96), 3) := by decide +kernel
theorem dX9_next_144 : decode cX9_next 144 = .ok (.iinc 3 1, 3) := by decide +kernel
theorem dX9_next_147 : decode cX9_next 147 = .ok (.goto (-111), 3) := by decide +kernel
theorem dX9_next_150 : decode cX9_next 150 = .ok (.iinc 2 1, 3) := by decide +kernel
theorem dX9_next_153 : decode cX9_next 153 = .ok (.goto (-125), 3) := by decide +kernel
theorem dX9_next_156 : decode cX9_next 156 = .ok (.iload_n 1, 1) := by decide +kernel
theorem dX9_next_157 : decode cX9_next 157 = .ok (.istore_n 2, 1) := by decide +kernel
theorem dX9_next_158 : decode cX9_next 158 = .ok (.iconst (-1), 1) := by decide +kernel
theorem dX9_next_159 : decode cX9_next 159 = .ok (.istore_n 3, 1) := by decide +kernel
theorem dX9_next_160 : decode cX9_next 160 = .ok (.iconst 1, 1) := by decide +kernel
theorem dX9_next_161 : decode cX9_next 161 = .ok (.istore 4, 2) := by decide +kernel
theorem dX9_next_163 : decode cX9_next 163 = .ok (.iload 4, 2) := by decide +kernel
theorem dX9_next_165 : decode cX9_next 165 = .ok (.bipush 15, 2) := by decide +kernel
theorem dX9_next_167 : decode cX9_next 167 = .ok (.if_icmp .gt 79, 3) := by decide +kernel
theorem dX9_next_170 : decode cX9_next 170 = .ok (.iconst 1, 1) := by decide +kernel
theorem dX9_next_171 : decode cX9_next 171 = .ok (.istore 5, 2) := by decide +kernel
theorem dX9_next_173 : decode cX9_next 173 = .ok (.iload 5, 2) := by decide +kernel
theorem dX9_next_175 : decode cX9_next 175 = .ok (.bipush 30, 2) := by decide +kernel
theorem dX9_next_177 : decode cX9_next 177 = .ok (.if_icmp .gt 63, 3) := by decide +kernel
theorem dX9_next_180 : decode cX9_next 180 = .ok (.aload_n 0, 1) := by decide +kernel
theorem dX9_next_181 : decode cX9_next 181 = .ok (.getfield 305, 3) := by decide +kernel
theorem dX9_next_184 : decode cX9_next 184 = .ok (.bipush 31, 2) := by decide +kernel
theorem dX9_next_186 : decode cX9_next 186 = .ok (.iload 4, 2) := by decide +kernel
theorem dX9_next_188 : decode cX9_next 188 = .ok (.imul, 1) := by decide +kernel
theorem dX9_next_189 : decode cX9_next 189 = .ok (.iload 5, 2) := by decide +kernel
theorem dX9_next_191 : decode cX9_next 191 = .ok (.iadd, 1) := by decide +kernel
theorem dX9_next_192 : decode cX9_next 192 = .ok (.iaload, 1) := by decide +kernel
theorem dX9_next_193 : decode cX9_next 193 = .ok (.iload_n 1, 1) := by decide +kernel
theorem dX9_next_194 : decode cX9_next 194 = .ok (.aload_n 0, 1) := by decide +kernel
theorem dX9_next_195 : decode cX9_next 195 = .ok (.getfield 305, 3) := by decide +kernel
theorem dX9_next_198 : decode cX9_next 198 = .ok (.bipush 31, 2) := by decide +kernel
theorem dX9_next_200 : decode cX9_next 200 = .ok (.iload 4, 2) := by decide +kernel
theorem dX9_next_202 : decode cX9_next 202 = .ok (.imul, 1) := by decide +kernel
theorem dX9_next_203 : decode cX9_next 203 = .ok (.iload 5, 2) := by decide +kernel
theorem dX9_next_205 : decode cX9_next 205 = .ok (.iadd, 1) := by decide +kernel
theorem dX9_next_206 : decode cX9_next 206 = .ok (.iaload, 1) := by decide +kernel
theorem dX9_next_207 : decode cX9_next 207 = .ok (.isub, 1) := by decide +kernel
theorem dX9_next_208 : decode cX9_next 208 = .ok (.invokestatic 359, 3) := by decide +kernel
theorem dX9_next_211 : decode cX9_next 211 = .ok (.istore 6, 2) := by decide +kernel
theorem dX9_next_213 : decode cX9_next 213 = .ok (.iload 6, 2) := by decide +kernel
theorem dX9_next_215 : decode cX9_next 215 = .ok (.iload_n 2, 1) := by decide +kernel
theorem dX9_next_216 : decode cX9_next 216 = .ok (.if_icmp .lt 6, 3) := by decide +kernel
theorem dX9_next_219 : decode cX9_next 219 = .ok (.goto 15, 3) := by decide +kernel
theorem dX9_next_222 : decode cX9_next 222 = .ok (.iload 6, 2) := by decide +kernel
theorem dX9_next_224 : decode cX9_next 224 = .ok (.istore_n 2, 1) := by decide +kernel
theorem dX9_next_225 : decode cX9_next 225 = .ok (.bipush 100, 2) := by decide +kernel
theorem dX9_next_227 : decode cX9_next 227 = .ok (.iload 4, 2) := by decide +kernel
theorem dX9_next_229 : decode cX9_next 229 = .ok (.imul, 1) := by decide +kernel
theorem dX9_next_230 : decode cX9_next 230 = .ok (.iload 5, 2) := by decide +kernel
theorem dX9_next_232 : decode cX9_next 232 = .ok (.iadd, 1) := by decide +kernel
theorem dX9_next_233 : decode cX9_next 233 = .ok (.istore_n 3, 1) := by decide +kernel
theorem dX9_next_234 : decode cX9_next 234 = .ok (.iinc 5 1, 3) := by decide +kernel
theorem dX9_next_237 : decode cX9_next 237 = .ok (.goto (-64), 3) := by decide +kernel
theorem dX9_next_240 : decode cX9_next 240 = .ok (.iinc 4 1, 3) := by decide +kernel
theorem dX9_next_243 : decode cX9_next 243 = .ok (.goto (-80), 3) := by decide +kernel
theorem dX9_next_246 : decode cX9_next 246 = .ok (.iload_n 3, 1) := by decide +kernel
theorem dX9_next_247 : decode cX9_next 247 = .ok (.ireturn, 1) := by decide +kernel
theorem dX9_beginTrial_0 : decode cX9_beginTrial 0 = .ok (.iconst 0, 1) := by decide +kernel
theorem dX9_beginTrial_1 : decode cX9_beginTrial 1 = .ok (.istore_n 3, 1) := by decide +kernel
theorem dX9_beginTrial_2 : decode cX9_beginTrial 2 = .ok (.iload_n 3, 1) := by decide +kernel
theorem dX9_beginTrial_3 : decode cX9_beginTrial 3 = .ok (.sipush 289, 3) := by decide +kernel
theorem dX9_beginTrial_6 : decode cX9_beginTrial 6 = .ok (.if_icmp .ge 21, 3) := by decide +kernel
theorem dX9_beginTrial_9 : decode cX9_beginTrial 9 = .ok (.aload_n 0, 1) := by decide +kernel
theorem dX9_beginTrial_10 : decode cX9_beginTrial 10 = .ok (.getfield 272, 3) := by decide +kernel
theorem dX9_beginTrial_13 : decode cX9_beginTrial 13 = .ok (.iload_n 3, 1) := by decide +kernel
theorem dX9_beginTrial_14 : decode cX9_beginTrial 14 = .ok (.aload_n 0, 1) := by decide +kernel
theorem dX9_beginTrial_15 : decode cX9_beginTrial 15 = .ok (.getfield 269, 3) := by decide +kernel
theorem dX9_beginTrial_18 : decode cX9_beginTrial 18 = .ok (.iload_n 3, 1) := by decide +kernel
theorem dX9_beginTrial_19 : decode cX9_beginTrial 19 = .ok (.iaload, 1) := by decide +kernel
theorem dX9_beginTrial_20 : decode cX9_beginTrial 20 = .ok (.iastore, 1) := by decide +kernel
theorem dX9_beginTrial_21 : decode cX9_beginTrial 21 = .ok (.iinc 3 1, 3) := by decide +kernel
theorem dX9_beginTrial_24 : decode cX9_beginTrial 24 = .ok (.goto (-22), 3) := by decide +kernel
theorem dX9_beginTrial_27 : decode cX9_beginTrial 27 = .ok (.aload_n 0, 1) := by decide +kernel
theorem dX9_beginTrial_28 : decode cX9_beginTrial 28 = .ok (.getfield 272, 3) := by decide +kernel
theorem dX9_beginTrial_31 : decode cX9_beginTrial 31 = .ok (.sipush 288, 3) := by decide +kernel
theorem dX9_beginTrial_34 : decode cX9_beginTrial 34 = .ok (.iload_n 2, 1) := by decide +kernel
theorem dX9_beginTrial_35 : decode cX9_beginTrial 35 = .ok (.iastore, 1) := by decide +kernel
theorem dX9_beginTrial_36 : decode cX9_beginTrial 36 = .ok (.aload_n 0, 1) := by decide +kernel
theorem dX9_beginTrial_37 : decode cX9_beginTrial 37 = .ok (.getfield 272, 3) := by decide +kernel
theorem dX9_beginTrial_40 : decode cX9_beginTrial 40 = .ok (.iload_n 1, 1) := by decide +kernel
theorem dX9_beginTrial_41 : decode cX9_beginTrial 41 = .ok (.invokestatic 417, 3) := by decide +kernel
theorem dX9_beginTrial_44 : decode cX9_beginTrial 44 = .ok (.return_, 1) := by decide +kernel
theorem dX9_lastOf_0 : decode cX9_lastOf 0 = .ok (.aload_n 0, 1) := by decide +kernel
theorem dX9_lastOf_1 : decode cX9_lastOf 1 = .ok (.getfield 272, 3) := by decide +kernel
theorem dX9_lastOf_4 : decode cX9_lastOf 4 = .ok (.sipush 264, 3) := by decide +kernel
theorem dX9_lastOf_7 : decode cX9_lastOf 7 = .ok (.iload_n 1, 1) := by decide +kernel
theorem dX9_lastOf_8 : decode cX9_lastOf 8 = .ok (.iadd, 1) := by decide +kernel
theorem dX9_lastOf_9 : decode cX9_lastOf 9 = .ok (.iaload, 1) := by decide +kernel
theorem dX9_lastOf_10 : decode cX9_lastOf 10 = .ok (.iconst (-1), 1) := by decide +kernel
theorem dX9_lastOf_11 : decode cX9_lastOf 11 = .ok (.if_icmp .ne 5, 3) := by decide +kernel
theorem dX9_lastOf_14 : decode cX9_lastOf 14 = .ok (.iload_n 2, 1) := by decide +kernel
theorem dX9_lastOf_15 : decode cX9_lastOf 15 = .ok (.ireturn, 1) := by decide +kernel
theorem dX9_lastOf_16 : decode cX9_lastOf 16 = .ok (.iconst 0, 1) := by decide +kernel
theorem dX9_lastOf_17 : decode cX9_lastOf 17 = .ok (.aload_n 0, 1) := by decide +kernel
theorem dX9_lastOf_18 : decode cX9_lastOf 18 = .ok (.getfield 272, 3) := by decide +kernel
theorem dX9_lastOf_21 : decode cX9_lastOf 21 = .ok (.sipush 264, 3) := by decide +kernel
theorem dX9_lastOf_24 : decode cX9_lastOf 24 = .ok (.iload_n 1, 1) := by decide +kernel
theorem dX9_lastOf_25 : decode cX9_lastOf 25 = .ok (.iadd, 1) := by decide +kernel
theorem dX9_lastOf_26 : decode cX9_lastOf 26 = .ok (.iaload, 1) := by decide +kernel
theorem dX9_lastOf_27 : decode cX9_lastOf 27 = .ok (.aload_n 0, 1) := by decide +kernel
theorem dX9_lastOf_28 : decode cX9_lastOf 28 = .ok (.getfield 269, 3) := by decide +kernel
theorem dX9_lastOf_31 : decode cX9_lastOf 31 = .ok (.sipush 270, 3) := by decide +kernel
theorem dX9_lastOf_34 : decode cX9_lastOf 34 = .ok (.iaload, 1) := by decide +kernel
theorem dX9_lastOf_35 : decode cX9_lastOf 35 = .ok (.isub, 1) := by decide +kernel
theorem dX9_lastOf_36 : decode cX9_lastOf 36 = .ok (.invokestatic 359, 3) := by decide +kernel
theorem dX9_lastOf_39 : decode cX9_lastOf 39 = .ok (.ireturn, 1) := by decide +kernel
theorem dX9_areMinutes_0 : decode cX9_areMinutes 0 = .ok (.iload_n 0, 1) := by decide +kernel
theorem dX9_areMinutes_1 : decode cX9_areMinutes 1 = .ok (.i2l, 1) := by decide +kernel
theorem dX9_areMinutes_2 : decode cX9_areMinutes 2 = .ok (.lconst 1, 1) := by decide +kernel
theorem dX9_areMinutes_3 : decode cX9_areMinutes 3 = .ok (.ldc2_w 473, 3) := by decide +kernel
theorem dX9_areMinutes_6 : decode cX9_areMinutes 6 = .ok (.invokestatic 52, 3) := by decide +kernel
theorem dX9_areMinutes_9 : decode cX9_areMinutes 9 = .ok (.ireturn, 1) := by decide +kernel
theorem dX9_last_0 : decode cX9_last 0 = .ok (.aload_n 0, 1) := by decide +kernel
theorem dX9_last_1 : decode cX9_last 1 = .ok (.iload_n 1, 1) := by decide +kernel
theorem dX9_last_2 : decode cX9_last 2 = .ok (.invokevirtual 427, 3) := by decide +kernel
theorem dX9_last_5 : decode cX9_last 5 = .ok (.ifCond .eq 28, 3) := by decide +kernel
theorem dX9_last_8 : decode cX9_last 8 = .ok (.iload_n 2, 1) := by decide +kernel
theorem dX9_last_9 : decode cX9_last 9 = .ok (.iconst (-1), 1) := by decide +kernel
theorem dX9_last_10 : decode cX9_last 10 = .ok (.if_icmp .eq 11, 3) := by decide +kernel
theorem dX9_last_13 : decode cX9_last 13 = .ok (.aload_n 0, 1) := by decide +kernel
theorem dX9_last_14 : decode cX9_last 14 = .ok (.iload_n 2, 1) := by decide +kernel
theorem dX9_last_15 : decode cX9_last 15 = .ok (.invokevirtual 351, 3) := by decide +kernel
theorem dX9_last_18 : decode cX9_last 18 = .ok (.ifCond .eq 15, 3) := by decide +kernel
theorem dX9_last_21 : decode cX9_last 21 = .ok (.iload_n 3, 1) := by decide +kernel
theorem dX9_last_22 : decode cX9_last 22 = .ok (.ifCond .lt 11, 3) := by decide +kernel
theorem dX9_last_25 : decode cX9_last 25 = .ok (.iload 4, 2) := by decide +kernel
theorem dX9_last_27 : decode cX9_last 27 = .ok (.invokestatic 475, 3) := by decide +kernel
theorem dX9_last_30 : decode cX9_last 30 = .ok (.ifCond .ne 6, 3) := by decide +kernel
theorem dX9_last_33 : decode cX9_last 33 = .ok (.bipush (-2), 2) := by decide +kernel
theorem dX9_last_35 : decode cX9_last 35 = .ok (.ireturn, 1) := by decide +kernel
theorem dX9_last_36 : decode cX9_last 36 = .ok (.aload_n 0, 1) := by decide +kernel
theorem dX9_last_37 : decode cX9_last 37 = .ok (.iload_n 2, 1) := by decide +kernel
theorem dX9_last_38 : decode cX9_last 38 = .ok (.iload_n 3, 1) := by decide +kernel
theorem dX9_last_39 : decode cX9_last 39 = .ok (.invokevirtual 478, 3) := by decide +kernel
theorem dX9_last_42 : decode cX9_last 42 = .ok (.iconst 0, 1) := by decide +kernel
theorem dX9_last_43 : decode cX9_last 43 = .ok (.istore 5, 2) := by decide +kernel
theorem dX9_last_45 : decode cX9_last 45 = .ok (.iload 5, 2) := by decide +kernel
theorem dX9_last_47 : decode cX9_last 47 = .ok (.iload 4, 2) := by decide +kernel
theorem dX9_last_49 : decode cX9_last 49 = .ok (.if_icmp .ge 17, 3) := by decide +kernel
theorem dX9_last_52 : decode cX9_last 52 = .ok (.aload_n 0, 1) := by decide +kernel
theorem dX9_last_53 : decode cX9_last 53 = .ok (.aload_n 0, 1) := by decide +kernel
theorem dX9_last_54 : decode cX9_last 54 = .ok (.getfield 272, 3) := by decide +kernel
theorem dX9_last_57 : decode cX9_last 57 = .ok (.invokevirtual 422, 3) := by decide +kernel
theorem dX9_last_60 : decode cX9_last 60 = .ok (.iinc 5 1, 3) := by decide +kernel
theorem dX9_last_63 : decode cX9_last 63 = .ok (.goto (-18), 3) := by decide +kernel
theorem dX9_last_66 : decode cX9_last 66 = .ok (.aload_n 0, 1) := by decide +kernel
theorem dX9_last_67 : decode cX9_last 67 = .ok (.iload_n 1, 1) := by decide +kernel
theorem dX9_last_68 : decode cX9_last 68 = .ok (.iload 4, 2) := by decide +kernel
theorem dX9_last_70 : decode cX9_last 70 = .ok (.invokevirtual 482, 3) := by decide +kernel
theorem dX9_last_73 : decode cX9_last 73 = .ok (.ireturn, 1) := by decide +kernel
theorem dX9_works_0 : decode cX9_works 0 = .ok (.aload_n 0, 1) := by decide +kernel
theorem dX9_works_1 : decode cX9_works 1 = .ok (.getfield 269, 3) := by decide +kernel
theorem dX9_works_4 : decode cX9_works 4 = .ok (.sipush 256, 3) := by decide +kernel
theorem dX9_works_7 : decode cX9_works 7 = .ok (.iload_n 2, 1) := by decide +kernel
theorem dX9_works_8 : decode cX9_works 8 = .ok (.iadd, 1) := by decide +kernel
theorem dX9_works_9 : decode cX9_works 9 = .ok (.iaload, 1) := by decide +kernel
theorem dX9_works_10 : decode cX9_works 10 = .ok (.istore_n 3, 1) := by decide +kernel
theorem dX9_works_11 : decode cX9_works 11 = .ok (.iload_n 3, 1) := by decide +kernel
theorem dX9_works_12 : decode cX9_works 12 = .ok (.aload_n 0, 1) := by decide +kernel
theorem dX9_works_13 : decode cX9_works 13 = .ok (.getfield 201, 3) := by decide +kernel
theorem dX9_works_16 : decode cX9_works 16 = .ok (.if_icmp .lt 7, 3) := by decide +kernel
theorem dX9_works_19 : decode cX9_works 19 = .ok (.iconst 1, 1) := by decide +kernel
theorem dX9_works_20 : decode cX9_works 20 = .ok (.goto 4, 3) := by decide +kernel
theorem dX9_works_23 : decode cX9_works 23 = .ok (.iconst 0, 1) := by decide +kernel
theorem dX9_works_24 : decode cX9_works 24 = .ok (.istore 4, 2) := by decide +kernel
theorem dX9_works_26 : decode cX9_works 26 = .ok (.iload_n 3, 1) := by decide +kernel
theorem dX9_works_27 : decode cX9_works 27 = .ok (.aload_n 0, 1) := by decide +kernel
theorem dX9_works_28 : decode cX9_works 28 = .ok (.getfield 201, 3) := by decide +kernel
theorem dX9_works_31 : decode cX9_works 31 = .ok (.iadd, 1) := by decide +kernel
theorem dX9_works_32 : decode cX9_works 32 = .ok (.aload_n 0, 1) := by decide +kernel
theorem dX9_works_33 : decode cX9_works 33 = .ok (.getfield 201, 3) := by decide +kernel
theorem dX9_works_36 : decode cX9_works 36 = .ok (.aload_n 0, 1) := by decide +kernel
theorem dX9_works_37 : decode cX9_works 37 = .ok (.getfield 204, 3) := by decide +kernel
theorem dX9_works_40 : decode cX9_works 40 = .ok (.imul, 1) := by decide +kernel
theorem dX9_works_41 : decode cX9_works 41 = .ok (.if_icmp .ge 7, 3) := by decide +kernel
theorem dX9_works_44 : decode cX9_works 44 = .ok (.iconst 1, 1) := by decide +kernel
theorem dX9_works_45 : decode cX9_works 45 = .ok (.goto 4, 3) := by decide +kernel
theorem dX9_works_48 : decode cX9_works 48 = .ok (.iconst 0, 1) := by decide +kernel
theorem dX9_works_49 : decode cX9_works 49 = .ok (.istore 5, 2) := by decide +kernel
theorem dX9_works_51 : decode cX9_works 51 = .ok (.iload_n 1, 1) := by decide +kernel
theorem dX9_works_52 : decode cX9_works 52 = .ok (.ifCond .ne 24, 3) := by decide +kernel
theorem dX9_works_55 : decode cX9_works 55 = .ok (.iload 4, 2) := by decide +kernel
theorem dX9_works_57 : decode cX9_works 57 = .ok (.ifCond .eq 19, 3) := by decide +kernel
theorem dX9_works_60 : decode cX9_works 60 = .ok (.aload_n 0, 1) := by decide +kernel
theorem dX9_works_61 : decode cX9_works 61 = .ok (.aload_n 0, 1) := by decide +kernel
theorem dX9_works_62 : decode cX9_works 62 = .ok (.getfield 272, 3) := by decide +kernel
theorem dX9_works_65 : decode cX9_works 65 = .ok (.iconst 3, 1) := by decide +kernel
theorem dX9_works_66 : decode cX9_works 66 = .ok (.iload_n 3, 1) := by decide +kernel
theorem dX9_works_67 : decode cX9_works 67 = .ok (.aload_n 0, 1) := by decide +kernel
theorem dX9_works_68 : decode cX9_works 68 = .ok (.getfield 201, 3) := by decide +kernel
theorem dX9_works_71 : decode cX9_works 71 = .ok (.isub, 1) := by decide +kernel
theorem dX9_works_72 : decode cX9_works 72 = .ok (.iconst (-1), 1) := by decide +kernel
theorem dX9_works_73 : decode cX9_works 73 = .ok (.invokevirtual 373, 3) := by decide +kernel
theorem dX9_works_76 : decode cX9_works 76 = .ok (.iload_n 1, 1) := by decide +kernel
theorem dX9_works_77 : decode cX9_works 77 = .ok (.iconst 1, 1) := by decide +kernel
theorem dX9_works_78 : decode cX9_works 78 = .ok (.if_icmp .ne 24, 3) := by decide +kernel
theorem dX9_works_81 : decode cX9_works 81 = .ok (.iload 4, 2) := by decide +kernel
theorem dX9_works_83 : decode cX9_works 83 = .ok (.ifCond .eq 19, 3) := by decide +kernel
theorem dX9_works_86 : decode cX9_works 86 = .ok (.aload_n 0, 1) := by decide +kernel
theorem dX9_works_87 : decode cX9_works 87 = .ok (.aload_n 0, 1) := by decide +kernel
theorem dX9_works_88 : decode cX9_works 88 = .ok (.getfield 272, 3) := by decide +kernel
theorem dX9_works_91 : decode cX9_works 91 = .ok (.iconst 0, 1) := by decide +kernel
theorem dX9_works_92 : decode cX9_works 92 = .ok (.iload_n 3, 1) := by decide +kernel
theorem dX9_works_93 : decode cX9_works 93 = .ok (.aload_n 0, 1) := by decide +kernel
theorem dX9_works_94 : decode cX9_works 94 = .ok (.getfield 201, 3) := by decide +kernel
theorem dX9_works_97 : decode cX9_works 97 = .ok (.isub, 1) := by decide +kernel
theorem dX9_works_98 : decode cX9_works 98 = .ok (.iload_n 3, 1) := by decide +kernel
theorem dX9_works_99 : decode cX9_works 99 = .ok (.invokevirtual 373, 3) := by decide +kernel
theorem dX9_works_102 : decode cX9_works 102 = .ok (.iload_n 1, 1) := by decide +kernel
theorem dX9_works_103 : decode cX9_works 103 = .ok (.iconst 2, 1) := by decide +kernel
theorem dX9_works_104 : decode cX9_works 104 = .ok (.if_icmp .ne 24, 3) := by decide +kernel
theorem dX9_works_107 : decode cX9_works 107 = .ok (.iload 5, 2) := by decide +kernel
theorem dX9_works_109 : decode cX9_works 109 = .ok (.ifCond .eq 19, 3) := by decide +kernel
theorem dX9_works_112 : decode cX9_works 112 = .ok (.aload_n 0, 1) := by decide +kernel
theorem dX9_works_113 : decode cX9_works 113 = .ok (.aload_n 0, 1) := by decide +kernel
theorem dX9_works_114 : decode cX9_works 114 = .ok (.getfield 272, 3) := by decide +kernel
theorem dX9_works_117 : decode cX9_works 117 = .ok (.iconst 0, 1) := by decide +kernel
theorem dX9_works_118 : decode cX9_works 118 = .ok (.iload_n 3, 1) := by decide +kernel
theorem dX9_works_119 : decode cX9_works 119 = .ok (.aload_n 0, 1) := by decide +kernel
theorem dX9_works_120 : decode cX9_works 120 = .ok (.getfield 201, 3) := by decide +kernel
theorem dX9_works_123 : decode cX9_works 123 = .ok (.iadd, 1) := by decide +kernel
theorem dX9_works_124 : decode cX9_works 124 = .ok (.iload_n 3, 1) := by decide +kernel
theorem dX9_works_125 : decode cX9_works 125 = .ok (.invokevirtual 373, 3) := by decide +kernel
theorem dX9_works_128 : decode cX9_works 128 = .ok (.iload_n 1, 1) := by decide +kernel
theorem dX9_works_129 : decode cX9_works 129 = .ok (.iconst 3, 1) := by decide +kernel
theorem dX9_works_130 : decode cX9_works 130 = .ok (.if_icmp .ne 14, 3) := by decide +kernel
theorem dX9_works_133 : decode cX9_works 133 = .ok (.aload_n 0, 1) := by decide +kernel
theorem dX9_works_134 : decode cX9_works 134 = .ok (.aload_n 0, 1) := by decide +kernel
theorem dX9_works_135 : decode cX9_works 135 = .ok (.getfield 272, 3) := by decide +kernel
theorem dX9_works_138 : decode cX9_works 138 = .ok (.iconst 2, 1) := by decide +kernel
theorem dX9_works_139 : decode cX9_works 139 = .ok (.iload_n 3, 1) := by decide +kernel
theorem dX9_works_140 : decode cX9_works 140 = .ok (.iconst (-1), 1) := by decide +kernel
theorem dX9_works_141 : decode cX9_works 141 = .ok (.invokevirtual 373, 3) := by decide +kernel
theorem dX9_works_144 : decode cX9_works 144 = .ok (.return_, 1) := by decide +kernel
theorem dX9_lastByRow_0 : decode cX9_lastByRow 0 = .ok (.aload_n 0, 1) := by decide +kernel
theorem dX9_lastByRow_1 : decode cX9_lastByRow 1 = .ok (.iconst (-1), 1) := by decide +kernel
theorem dX9_lastByRow_2 : decode cX9_lastByRow 2 = .ok (.iload 4, 2) := by decide +kernel
theorem dX9_lastByRow_4 : decode cX9_lastByRow 4 = .ok (.invokevirtual 478, 3) := by decide +kernel
theorem dX9_lastByRow_7 : decode cX9_lastByRow 7 = .ok (.iconst 0, 1) := by decide +kernel
theorem dX9_lastByRow_8 : decode cX9_lastByRow 8 = .ok (.istore 6, 2) := by decide +kernel
theorem dX9_lastByRow_10 : decode cX9_lastByRow 10 = .ok (.iload 6, 2) := by decide +kernel
theorem dX9_lastByRow_12 : decode cX9_lastByRow 12 = .ok (.iload 5, 2) := by decide +kernel
theorem dX9_lastByRow_14 : decode cX9_lastByRow 14 = .ok (.if_icmp .ge 40, 3) := by decide +kernel
theorem dX9_lastByRow_17 : decode cX9_lastByRow 17 = .ok (.iload 6, 2) := by decide +kernel
theorem dX9_lastByRow_19 : decode cX9_lastByRow 19 = .ok (.iload_n 2, 1) := by decide +kernel
theorem dX9_lastByRow_20 : decode cX9_lastByRow 20 = .ok (.if_icmp .ge 20, 3) := by decide +kernel
theorem dX9_lastByRow_23 : decode cX9_lastByRow 23 = .ok (.aload_n 0, 1) := by decide +kernel
theorem dX9_lastByRow_24 : decode cX9_lastByRow 24 = .ok (.iload_n 3, 1) := by decide +kernel
theorem dX9_lastByRow_25 : decode cX9_lastByRow 25 = .ok (.iconst 2, 1) := by decide +kernel
theorem dX9_lastByRow_26 : decode cX9_lastByRow 26 = .ok (.iload_n 2, 1) := by decide +kernel
theorem dX9_lastByRow_27 : decode cX9_lastByRow 27 = .ok (.iconst 1, 1) := by decide +kernel
theorem dX9_lastByRow_28 : decode cX9_lastByRow 28 = .ok (.isub, 1) := by decide +kernel
theorem dX9_lastByRow_29 : decode cX9_lastByRow 29 = .ok (.iload 6, 2) := by decide +kernel
theorem dX9_lastByRow_31 : decode cX9_lastByRow 31 = .ok (.isub, 1) := by decide +kernel
theorem dX9_lastByRow_32 : decode cX9_lastByRow 32 = .ok (.imul, 1) := by decide +kernel
theorem dX9_lastByRow_33 : decode cX9_lastByRow 33 = .ok (.ishr, 1) := by decide +kernel
theorem dX9_lastByRow_34 : decode cX9_lastByRow 34 = .ok (.iconst 3, 1) := by decide +kernel
theorem dX9_lastByRow_35 : decode cX9_lastByRow 35 = .ok (.iand, 1) := by decide +kernel
theorem dX9_lastByRow_36 : decode cX9_lastByRow 36 = .ok (.iload_n 1, 1) := by decide +kernel
theorem dX9_lastByRow_37 : decode cX9_lastByRow 37 = .ok (.invokevirtual 485, 3) := by decide +kernel
theorem dX9_lastByRow_40 : decode cX9_lastByRow 40 = .ok (.aload_n 0, 1) := by decide +kernel
theorem dX9_lastByRow_41 : decode cX9_lastByRow 41 = .ok (.aload_n 0, 1) := by decide +kernel
theorem dX9_lastByRow_42 : decode cX9_lastByRow 42 = .ok (.getfield 272, 3) := by decide +kernel
theorem dX9_lastByRow_45 : decode cX9_lastByRow 45 = .ok (.invokevirtual 414, 3) := by decide +kernel
theorem dX9_lastByRow_48 : decode cX9_lastByRow 48 = .ok (.iinc 6 1, 3) := by decide +kernel
theorem dX9_lastByRow_51 : decode cX9_lastByRow 51 = .ok (.goto (-41), 3) := by decide +kernel
theorem dX9_lastByRow_54 : decode cX9_lastByRow 54 = .ok (.aload_n 0, 1) := by decide +kernel
theorem dX9_lastByRow_55 : decode cX9_lastByRow 55 = .ok (.iload_n 1, 1) := by decide +kernel
theorem dX9_lastByRow_56 : decode cX9_lastByRow 56 = .ok (.iload 5, 2) := by decide +kernel
theorem dX9_lastByRow_58 : decode cX9_lastByRow 58 = .ok (.invokevirtual 482, 3) := by decide +kernel
theorem dX9_lastByRow_61 : decode cX9_lastByRow 61 = .ok (.ireturn, 1) := by decide +kernel
theorem dX9_bestRow_0 : decode cX9_bestRow 0 = .ok (.iconst 0, 1) := by decide +kernel
theorem dX9_bestRow_1 : decode cX9_bestRow 1 = .ok (.istore 5, 2) := by decide +kernel
theorem dX9_bestRow_3 : decode cX9_bestRow 3 = .ok (.iconst (-1), 1) := by decide +kernel
theorem dX9_bestRow_4 : decode cX9_bestRow 4 = .ok (.istore 6, 2) := by decide +kernel
theorem dX9_bestRow_6 : decode cX9_bestRow 6 = .ok (.iconst 0, 1) := by decide +kernel
theorem dX9_bestRow_7 : decode cX9_bestRow 7 = .ok (.istore 7, 2) := by decide +kernel
theorem dX9_bestRow_9 : decode cX9_bestRow 9 = .ok (.iload 7, 2) := by decide +kernel
theorem dX9_bestRow_11 : decode cX9_bestRow 11 = .ok (.iconst 1, 1) := by decide +kernel
theorem dX9_bestRow_12 : decode cX9_bestRow 12 = .ok (.iconst 2, 1) := by decide +kernel
theorem dX9_bestRow_13 : decode cX9_bestRow 13 = .ok (.iload_n 2, 1) := by decide +kernel
theorem dX9_bestRow_14 : decode cX9_bestRow 14 = .ok (.imul, 1) := by decide +kernel
theorem dX9_bestRow_15 : decode cX9_bestRow 15 = .ok (.ishl, 1) := by decide +kernel
theorem dX9_bestRow_16 : decode cX9_bestRow 16 = .ok (.if_icmp .ge 40, 3) := by decide +kernel
theorem dX9_bestRow_19 : decode cX9_bestRow 19 = .ok (.aload_n 0, 1) := by decide +kernel
theorem dX9_bestRow_20 : decode cX9_bestRow 20 = .ok (.iload_n 1, 1) := by decide +kernel
theorem dX9_bestRow_21 : decode cX9_bestRow 21 = .ok (.iload_n 2, 1) := by decide +kernel
theorem dX9_bestRow_22 : decode cX9_bestRow 22 = .ok (.iload 7, 2) := by decide +kernel
theorem dX9_bestRow_24 : decode cX9_bestRow 24 = .ok (.iload_n 3, 1) := by decide +kernel
theorem dX9_bestRow_25 : decode cX9_bestRow 25 = .ok (.iload 4, 2) := by decide +kernel
theorem dX9_bestRow_27 : decode cX9_bestRow 27 = .ok (.invokevirtual 488, 3) := by decide +kernel
theorem dX9_bestRow_30 : decode cX9_bestRow 30 = .ok (.istore 8, 2) := by decide +kernel
theorem dX9_bestRow_32 : decode cX9_bestRow 32 = .ok (.iload 8, 2) := by decide +kernel
theorem dX9_bestRow_34 : decode cX9_bestRow 34 = .ok (.iload 6, 2) := by decide +kernel
theorem dX9_bestRow_36 : decode cX9_bestRow 36 = .ok (.if_icmp .gt 6, 3) := by decide +kernel
theorem dX9_bestRow_39 : decode cX9_bestRow 39 = .ok (.goto 11, 3) := by decide +kernel
theorem dX9_bestRow_42 : decode cX9_bestRow 42 = .ok (.iload 8, 2) := by decide +kernel
theorem dX9_bestRow_44 : decode cX9_bestRow 44 = .ok (.istore 6, 2) := by decide +kernel
theorem dX9_bestRow_46 : decode cX9_bestRow 46 = .ok (.iload 7, 2) := by decide +kernel
theorem dX9_bestRow_48 : decode cX9_bestRow 48 = .ok (.istore 5, 2) := by decide +kernel
theorem dX9_bestRow_50 : decode cX9_bestRow 50 = .ok (.iinc 7 1, 3) := by decide +kernel
theorem dX9_bestRow_53 : decode cX9_bestRow 53 = .ok (.goto (-44), 3) := by decide +kernel
theorem dX9_bestRow_56 : decode cX9_bestRow 56 = .ok (.iconst 0, 1) := by decide +kernel
theorem dX9_bestRow_57 : decode cX9_bestRow 57 = .ok (.istore 7, 2) := by decide +kernel
theorem dX9_bestRow_59 : decode cX9_bestRow 59 = .ok (.iload_n 2, 1) := by decide +kernel
theorem dX9_bestRow_60 : decode cX9_bestRow 60 = .ok (.iconst 1, 1) := by decide +kernel
theorem dX9_bestRow_61 : decode cX9_bestRow 61 = .ok (.isub, 1) := by decide +kernel
theorem dX9_bestRow_62 : decode cX9_bestRow 62 = .ok (.istore 8, 2) := by decide +kernel
theorem dX9_bestRow_64 : decode cX9_bestRow 64 = .ok (.iload 8, 2) := by decide +kernel
theorem dX9_bestRow_66 : decode cX9_bestRow 66 = .ok (.ifCond .lt 26, 3) := by decide +kernel
theorem dX9_bestRow_69 : decode cX9_bestRow 69 = .ok (.bipush 10, 2) := by decide +kernel
theorem dX9_bestRow_71 : decode cX9_bestRow 71 = .ok (.iload 7, 2) := by decide +kernel
theorem dX9_bestRow_73 : decode cX9_bestRow 73 = .ok (.imul, 1) := by decide +kernel
theorem dX9_bestRow_74 : decode cX9_bestRow 74 = .ok (.iload 5, 2) := by decide +kernel
theorem dX9_bestRow_76 : decode cX9_bestRow 76 = .ok (.iconst 2, 1) := by decide +kernel
theorem dX9_bestRow_77 : decode cX9_bestRow 77 = .ok (.iload 8, 2) := by decide +kernel
theorem dX9_bestRow_79 : decode cX9_bestRow 79 = .ok (.imul, 1) := by decide +kernel
theorem dX9_bestRow_80 : decode cX9_bestRow 80 = .ok (.ishr, 1) := by decide +kernel
theorem dX9_bestRow_81 : decode cX9_bestRow 81 = .ok (.iconst 3, 1) := by decide +kernel
theorem dX9_bestRow_82 : decode cX9_bestRow 82 = .ok (.iand, 1) := by decide +kernel
theorem dX9_bestRow_83 : decode cX9_bestRow 83 = .ok (.iadd, 1) := by decide +kernel
theorem dX9_bestRow_84 : decode cX9_bestRow 84 = .ok (.istore 7, 2) := by decide +kernel
theorem dX9_bestRow_86 : decode cX9_bestRow 86 = .ok (.iinc 8 (-1), 3) := by decide +kernel
theorem dX9_bestRow_89 : decode cX9_bestRow 89 = .ok (.goto (-25), 3) := by decide +kernel
theorem dX9_bestRow_92 : decode cX9_bestRow 92 = .ok (.iload 7, 2) := by decide +kernel
theorem dX9_bestRow_94 : decode cX9_bestRow 94 = .ok (.ireturn, 1) := by decide +kernel
theorem dX9_isAsked_0 : decode cX9_isAsked 0 = .ok (.aload_n 0, 1) := by decide +kernel
theorem dX9_isAsked_1 : decode cX9_isAsked 1 = .ok (.iload_n 1, 1) := by decide +kernel
theorem dX9_isAsked_2 : decode cX9_isAsked 2 = .ok (.invokevirtual 427, 3) := by decide +kernel
theorem dX9_isAsked_5 : decode cX9_isAsked 5 = .ok (.ifCond .eq 18, 3) := by decide +kernel
theorem dX9_isAsked_8 : decode cX9_isAsked 8 = .ok (.iload_n 2, 1) := by decide +kernel
theorem dX9_isAsked_9 : decode cX9_isAsked 9 = .ok (.ifCond .lt 14, 3) := by decide +kernel
theorem dX9_isAsked_12 : decode cX9_isAsked 12 = .ok (.iload_n 3, 1) := by decide +kernel
theorem dX9_isAsked_13 : decode cX9_isAsked 13 = .ok (.invokestatic 475, 3) := by decide +kernel
theorem dX9_isAsked_16 : decode cX9_isAsked 16 = .ok (.ifCond .eq 7, 3) := by decide +kernel
theorem dX9_isAsked_19 : decode cX9_isAsked 19 = .ok (.iconst 1, 1) := by decide +kernel
theorem dX9_isAsked_20 : decode cX9_isAsked 20 = .ok (.goto 4, 3) := by decide +kernel
theorem dX9_isAsked_23 : decode cX9_isAsked 23 = .ok (.iconst 0, 1) := by decide +kernel
theorem dX9_isAsked_24 : decode cX9_isAsked 24 = .ok (.ireturn, 1) := by decide +kernel
theorem dX9_pail_0 : decode cX9_pail 0 = .ok (.aload_n 0, 1) := by decide +kernel
theorem dX9_pail_1 : decode cX9_pail 1 = .ok (.iload_n 1, 1) := by decide +kernel
theorem dX9_pail_2 : decode cX9_pail 2 = .ok (.iload_n 2, 1) := by decide +kernel
theorem dX9_pail_3 : decode cX9_pail 3 = .ok (.iload_n 3, 1) := by decide +kernel
theorem dX9_pail_4 : decode cX9_pail 4 = .ok (.invokevirtual 492, 3) := by decide +kernel
theorem dX9_pail_7 : decode cX9_pail 7 = .ok (.ifCond .eq 14, 3) := by decide +kernel
theorem dX9_pail_10 : decode cX9_pail 10 = .ok (.aload_n 0, 1) := by decide +kernel
theorem dX9_pail_11 : decode cX9_pail 11 = .ok (.iload_n 1, 1) := by decide +kernel
theorem dX9_pail_12 : decode cX9_pail 12 = .ok (.iconst 2, 1) := by decide +kernel
theorem dX9_pail_13 : decode cX9_pail 13 = .ok (.iload_n 2, 1) := by decide +kernel
theorem dX9_pail_14 : decode cX9_pail 14 = .ok (.iload_n 3, 1) := by decide +kernel
theorem dX9_pail_15 : decode cX9_pail 15 = .ok (.invokevirtual 495, 3) := by decide +kernel
theorem dX9_pail_18 : decode cX9_pail 18 = .ok (.goto 5, 3) := by decide +kernel
theorem dX9_pail_21 : decode cX9_pail 21 = .ok (.bipush (-2), 2) := by decide +kernel
theorem dX9_pail_23 : decode cX9_pail 23 = .ok (.ireturn, 1) := by decide +kernel
theorem dX9_row_0 : decode cX9_row 0 = .ok (.aload_n 0, 1) := by decide +kernel
theorem dX9_row_1 : decode cX9_row 1 = .ok (.iload_n 1, 1) := by decide +kernel
theorem dX9_row_2 : decode cX9_row 2 = .ok (.iload_n 3, 1) := by decide +kernel
theorem dX9_row_3 : decode cX9_row 3 = .ok (.iload 4, 2) := by decide +kernel
theorem dX9_row_5 : decode cX9_row 5 = .ok (.invokevirtual 492, 3) := by decide +kernel
theorem dX9_row_8 : decode cX9_row 8 = .ok (.ifCond .eq 27, 3) := by decide +kernel
theorem dX9_row_11 : decode cX9_row 11 = .ok (.iload_n 2, 1) := by decide +kernel
theorem dX9_row_12 : decode cX9_row 12 = .ok (.i2l, 1) := by decide +kernel
theorem dX9_row_13 : decode cX9_row 13 = .ok (.lconst 1, 1) := by decide +kernel
theorem dX9_row_14 : decode cX9_row 14 = .ok (.ldc2_w 425, 3) := by decide +kernel
theorem dX9_row_17 : decode cX9_row 17 = .ok (.invokestatic 52, 3) := by decide +kernel
theorem dX9_row_20 : decode cX9_row 20 = .ok (.ifCond .eq 15, 3) := by decide +kernel
theorem dX9_row_23 : decode cX9_row 23 = .ok (.aload_n 0, 1) := by decide +kernel
theorem dX9_row_24 : decode cX9_row 24 = .ok (.iload_n 1, 1) := by decide +kernel
theorem dX9_row_25 : decode cX9_row 25 = .ok (.iload_n 2, 1) := by decide +kernel
theorem dX9_row_26 : decode cX9_row 26 = .ok (.iload_n 3, 1) := by decide +kernel
theorem dX9_row_27 : decode cX9_row 27 = .ok (.iload 4, 2) := by decide +kernel
theorem dX9_row_29 : decode cX9_row 29 = .ok (.invokevirtual 495, 3) := by decide +kernel
theorem dX9_row_32 : decode cX9_row 32 = .ok (.goto 5, 3) := by decide +kernel
theorem dX9_row_35 : decode cX9_row 35 = .ok (.bipush (-2), 2) := by decide +kernel
theorem dX9_row_37 : decode cX9_row 37 = .ok (.ireturn, 1) := by decide +kernel
theorem dX9_lastByWet_0 : decode cX9_lastByWet 0 = .ok (.aload_n 0, 1) := by decide +kernel
theorem dX9_lastByWet_1 : decode cX9_lastByWet 1 = .ok (.iconst (-1), 1) := by decide +kernel
theorem dX9_lastByWet_2 : decode cX9_lastByWet 2 = .ok (.iload_n 3, 1) := by decide +kernel
theorem dX9_lastByWet_3 : decode cX9_lastByWet 3 = .ok (.invokevirtual 478, 3) := by decide +kernel
theorem dX9_lastByWet_6 : decode cX9_lastByWet 6 = .ok (.iconst 0, 1) := by decide +kernel
theorem dX9_lastByWet_7 : decode cX9_lastByWet 7 = .ok (.istore 5, 2) := by decide +kernel
theorem dX9_lastByWet_9 : decode cX9_lastByWet 9 = .ok (.iload 5, 2) := by decide +kernel
theorem dX9_lastByWet_11 : decode cX9_lastByWet 11 = .ok (.iload 4, 2) := by decide +kernel
theorem dX9_lastByWet_13 : decode cX9_lastByWet 13 = .ok (.if_icmp .ge 29, 3) := by decide +kernel
theorem dX9_lastByWet_16 : decode cX9_lastByWet 16 = .ok (.iload 5, 2) := by decide +kernel
theorem dX9_lastByWet_18 : decode cX9_lastByWet 18 = .ok (.iload_n 2, 1) := by decide +kernel
theorem dX9_lastByWet_19 : decode cX9_lastByWet 19 = .ok (.if_icmp .ne 9, 3) := by decide +kernel
theorem dX9_lastByWet_22 : decode cX9_lastByWet 22 = .ok (.aload_n 0, 1) := by decide +kernel
theorem dX9_lastByWet_23 : decode cX9_lastByWet 23 = .ok (.iconst 3, 1) := by decide +kernel
theorem dX9_lastByWet_24 : decode cX9_lastByWet 24 = .ok (.iload_n 1, 1) := by decide +kernel
theorem dX9_lastByWet_25 : decode cX9_lastByWet 25 = .ok (.invokevirtual 485, 3) := by decide +kernel
theorem dX9_lastByWet_28 : decode cX9_lastByWet 28 = .ok (.aload_n 0, 1) := by decide +kernel
theorem dX9_lastByWet_29 : decode cX9_lastByWet 29 = .ok (.aload_n 0, 1) := by decide +kernel
theorem dX9_lastByWet_30 : decode cX9_lastByWet 30 = .ok (.getfield 272, 3) := by decide +kernel
theorem dX9_lastByWet_33 : decode cX9_lastByWet 33 = .ok (.invokevirtual 414, 3) := by decide +kernel
theorem dX9_lastByWet_36 : decode cX9_lastByWet 36 = .ok (.iinc 5 1, 3) := by decide +kernel
theorem dX9_lastByWet_39 : decode cX9_lastByWet 39 = .ok (.goto (-30), 3) := by decide +kernel
theorem dX9_lastByWet_42 : decode cX9_lastByWet 42 = .ok (.aload_n 0, 1) := by decide +kernel
theorem dX9_lastByWet_43 : decode cX9_lastByWet 43 = .ok (.iload_n 1, 1) := by decide +kernel
theorem dX9_lastByWet_44 : decode cX9_lastByWet 44 = .ok (.iload 4, 2) := by decide +kernel
theorem dX9_lastByWet_46 : decode cX9_lastByWet 46 = .ok (.invokevirtual 482, 3) := by decide +kernel
theorem dX9_lastByWet_49 : decode cX9_lastByWet 49 = .ok (.ireturn, 1) := by decide +kernel
theorem dX9_again_0 : decode cX9_again 0 = .ok (.aload_n 0, 1) := by decide +kernel
theorem dX9_again_1 : decode cX9_again 1 = .ok (.iload_n 1, 1) := by decide +kernel
theorem dX9_again_2 : decode cX9_again 2 = .ok (.iload_n 2, 1) := by decide +kernel
theorem dX9_again_3 : decode cX9_again 3 = .ok (.iload_n 3, 1) := by decide +kernel
theorem dX9_again_4 : decode cX9_again 4 = .ok (.invokevirtual 492, 3) := by decide +kernel
theorem dX9_again_7 : decode cX9_again 7 = .ok (.ifCond .ne 6, 3) := by decide +kernel
theorem dX9_again_10 : decode cX9_again 10 = .ok (.bipush (-2), 2) := by decide +kernel
theorem dX9_again_12 : decode cX9_again 12 = .ok (.ireturn, 1) := by decide +kernel
theorem dX9_again_13 : decode cX9_again 13 = .ok (.aload_n 0, 1) := by decide +kernel
theorem dX9_again_14 : decode cX9_again 14 = .ok (.iload_n 1, 1) := by decide +kernel
theorem dX9_again_15 : decode cX9_again 15 = .ok (.iconst (-1), 1) := by decide +kernel
theorem dX9_again_16 : decode cX9_again 16 = .ok (.iload_n 2, 1) := by decide +kernel
theorem dX9_again_17 : decode cX9_again 17 = .ok (.iload_n 3, 1) := by decide +kernel
theorem dX9_again_18 : decode cX9_again 18 = .ok (.invokevirtual 499, 3) := by decide +kernel
theorem dX9_again_21 : decode cX9_again 21 = .ok (.istore 4, 2) := by decide +kernel
theorem dX9_again_23 : decode cX9_again 23 = .ok (.iconst (-1), 1) := by decide +kernel
theorem dX9_again_24 : decode cX9_again 24 = .ok (.istore 5, 2) := by decide +kernel
theorem dX9_again_26 : decode cX9_again 26 = .ok (.iconst 0, 1) := by decide +kernel
theorem dX9_again_27 : decode cX9_again 27 = .ok (.istore 6, 2) := by decide +kernel
theorem dX9_again_29 : decode cX9_again 29 = .ok (.iload 6, 2) := by decide +kernel
theorem dX9_again_31 : decode cX9_again 31 = .ok (.iload_n 3, 1) := by decide +kernel
theorem dX9_again_32 : decode cX9_again 32 = .ok (.if_icmp .ge 38, 3) := by decide +kernel
theorem dX9_again_35 : decode cX9_again 35 = .ok (.aload_n 0, 1) := by decide +kernel
theorem dX9_again_36 : decode cX9_again 36 = .ok (.iload_n 1, 1) := by decide +kernel
theorem dX9_again_37 : decode cX9_again 37 = .ok (.iload 6, 2) := by decide +kernel
theorem dX9_again_39 : decode cX9_again 39 = .ok (.iload_n 2, 1) := by decide +kernel
theorem dX9_again_40 : decode cX9_again 40 = .ok (.iload_n 3, 1) := by decide +kernel
theorem dX9_again_41 : decode cX9_again 41 = .ok (.invokevirtual 499, 3) := by decide +kernel
theorem dX9_again_44 : decode cX9_again 44 = .ok (.istore 7, 2) := by decide +kernel
theorem dX9_again_46 : decode cX9_again 46 = .ok (.iload 7, 2) := by decide +kernel
theorem dX9_again_48 : decode cX9_again 48 = .ok (.iload 4, 2) := by decide +kernel
theorem dX9_again_50 : decode cX9_again 50 = .ok (.if_icmp .gt 6, 3) := by decide +kernel
theorem dX9_again_53 : decode cX9_again 53 = .ok (.goto 11, 3) := by decide +kernel
theorem dX9_again_56 : decode cX9_again 56 = .ok (.iload 7, 2) := by decide +kernel
theorem dX9_again_58 : decode cX9_again 58 = .ok (.istore 4, 2) := by decide +kernel
theorem dX9_again_60 : decode cX9_again 60 = .ok (.iload 6, 2) := by decide +kernel
theorem dX9_again_62 : decode cX9_again 62 = .ok (.istore 5, 2) := by decide +kernel
theorem dX9_again_64 : decode cX9_again 64 = .ok (.iinc 6 1, 3) := by decide +kernel
theorem dX9_again_67 : decode cX9_again 67 = .ok (.goto (-38), 3) := by decide +kernel
theorem dX9_again_70 : decode cX9_again 70 = .ok (.iload 5, 2) := by decide +kernel
theorem dX9_again_72 : decode cX9_again 72 = .ok (.ireturn, 1) := by decide +kernel
theorem dX9_areSeeds_0 : decode cX9_areSeeds 0 = .ok (.iload_n 0, 1) := by decide +kernel
theorem dX9_areSeeds_1 : decode cX9_areSeeds 1 = .ok (.i2l, 1) := by decide +kernel
theorem dX9_areSeeds_2 : decode cX9_areSeeds 2 = .ok (.lconst 1, 1) := by decide +kernel
theorem dX9_areSeeds_3 : decode cX9_areSeeds 3 = .ok (.ldc2_w 502, 3) := by decide +kernel
theorem dX9_areSeeds_6 : decode cX9_areSeeds 6 = .ok (.invokestatic 52, 3) := by decide +kernel
theorem dX9_areSeeds_9 : decode cX9_areSeeds 9 = .ok (.ireturn, 1) := by decide +kernel
theorem dX9_stand_0 : decode cX9_stand 0 = .ok (.iload_n 1, 1) := by decide +kernel
theorem dX9_stand_1 : decode cX9_stand 1 = .ok (.i2l, 1) := by decide +kernel
theorem dX9_stand_2 : decode cX9_stand 2 = .ok (.lconst 1, 1) := by decide +kernel
theorem dX9_stand_3 : decode cX9_stand 3 = .ok (.ldc2_w 454, 3) := by decide +kernel
theorem dX9_stand_6 : decode cX9_stand 6 = .ok (.invokestatic 52, 3) := by decide +kernel
theorem dX9_stand_9 : decode cX9_stand 9 = .ok (.ifCond .eq 17, 3) := by decide +kernel
theorem dX9_stand_12 : decode cX9_stand 12 = .ok (.iload_n 2, 1) := by decide +kernel
theorem dX9_stand_13 : decode cX9_stand 13 = .ok (.invokestatic 504, 3) := by decide +kernel
theorem dX9_stand_16 : decode cX9_stand 16 = .ok (.ifCond .eq 10, 3) := by decide +kernel
theorem dX9_stand_19 : decode cX9_stand 19 = .ok (.iload_n 3, 1) := by decide +kernel
theorem dX9_stand_20 : decode cX9_stand 20 = .ok (.invokestatic 475, 3) := by decide +kernel
theorem dX9_stand_23 : decode cX9_stand 23 = .ok (.ifCond .ne 6, 3) := by decide +kernel
theorem dX9_stand_26 : decode cX9_stand 26 = .ok (.bipush (-2), 2) := by decide +kernel
theorem dX9_stand_28 : decode cX9_stand 28 = .ok (.ireturn, 1) := by decide +kernel
theorem dX9_stand_29 : decode cX9_stand 29 = .ok (.iconst (-1), 1) := by decide +kernel
theorem dX9_stand_30 : decode cX9_stand 30 = .ok (.istore 4, 2) := by decide +kernel
theorem dX9_stand_32 : decode cX9_stand 32 = .ok (.iconst (-1), 1) := by decide +kernel
theorem dX9_stand_33 : decode cX9_stand 33 = .ok (.istore 5, 2) := by decide +kernel
theorem dX9_stand_35 : decode cX9_stand 35 = .ok (.iconst 0, 1) := by decide +kernel
theorem dX9_stand_36 : decode cX9_stand 36 = .ok (.istore 6, 2) := by decide +kernel
theorem dX9_stand_38 : decode cX9_stand 38 = .ok (.iload 6, 2) := by decide +kernel
theorem dX9_stand_40 : decode cX9_stand 40 = .ok (.aload_n 0, 1) := by decide +kernel
theorem dX9_stand_41 : decode cX9_stand 41 = .ok (.getfield 201, 3) := by decide +kernel
theorem dX9_stand_44 : decode cX9_stand 44 = .ok (.aload_n 0, 1) := by decide +kernel
theorem dX9_stand_45 : decode cX9_stand 45 = .ok (.getfield 204, 3) := by decide +kernel
theorem dX9_stand_48 : decode cX9_stand 48 = .ok (.imul, 1) := by decide +kernel
theorem dX9_stand_49 : decode cX9_stand 49 = .ok (.if_icmp .ge 129, 3) := by decide +kernel
theorem dX9_stand_52 : decode cX9_stand 52 = .ok (.aload_n 0, 1) := by decide +kernel
theorem dX9_stand_53 : decode cX9_stand 53 = .ok (.getfield 269, 3) := by decide +kernel
theorem dX9_stand_56 : decode cX9_stand 56 = .ok (.sipush 192, 3) := by decide +kernel
theorem dX9_stand_59 : decode cX9_stand 59 = .ok (.iload 6, 2) := by decide +kernel
theorem dX9_stand_61 : decode cX9_stand 61 = .ok (.iadd, 1) := by decide +kernel
theorem dX9_stand_62 : decode cX9_stand 62 = .ok (.iaload, 1) := by decide +kernel
theorem dX9_stand_63 : decode cX9_stand 63 = .ok (.iconst 1, 1) := by decide +kernel
theorem dX9_stand_64 : decode cX9_stand 64 = .ok (.if_icmp .ne 6, 3) := by decide +kernel
theorem dX9_stand_67 : decode cX9_stand 67 = .ok (.goto 105, 3) := by decide +kernel
theorem dX9_stand_70 : decode cX9_stand 70 = .ok (.iconst 0, 1) := by decide +kernel
theorem dX9_stand_71 : decode cX9_stand 71 = .ok (.istore 7, 2) := by decide +kernel
theorem dX9_stand_73 : decode cX9_stand 73 = .ok (.iconst 1, 1) := by decide +kernel
theorem dX9_stand_74 : decode cX9_stand 74 = .ok (.istore 8, 2) := by decide +kernel
theorem dX9_stand_76 : decode cX9_stand 76 = .ok (.iload 8, 2) := by decide +kernel
theorem dX9_stand_78 : decode cX9_stand 78 = .ok (.iload_n 2, 1) := by decide +kernel
theorem dX9_stand_79 : decode cX9_stand 79 = .ok (.if_icmp .gt 75, 3) := by decide +kernel
theorem dX9_stand_82 : decode cX9_stand 82 = .ok (.aload_n 0, 1) := by decide +kernel
theorem dX9_stand_83 : decode cX9_stand 83 = .ok (.iconst (-1), 1) := by decide +kernel
theorem dX9_stand_84 : decode cX9_stand 84 = .ok (.iload 8, 2) := by decide +kernel
theorem dX9_stand_86 : decode cX9_stand 86 = .ok (.invokevirtual 478, 3) := by decide +kernel
theorem dX9_stand_89 : decode cX9_stand 89 = .ok (.aload_n 0, 1) := by decide +kernel
theorem dX9_stand_90 : decode cX9_stand 90 = .ok (.getfield 272, 3) := by decide +kernel
theorem dX9_stand_93 : decode cX9_stand 93 = .ok (.iconst 0, 1) := by decide +kernel
theorem dX9_stand_94 : decode cX9_stand 94 = .ok (.iload 6, 2) := by decide +kernel
theorem dX9_stand_96 : decode cX9_stand 96 = .ok (.iadd, 1) := by decide +kernel
theorem dX9_stand_97 : decode cX9_stand 97 = .ok (.dup2, 1) := by decide +kernel
theorem dX9_stand_98 : decode cX9_stand 98 = .ok (.iaload, 1) := by decide +kernel
theorem dX9_stand_99 : decode cX9_stand 99 = .ok (.iload_n 1, 1) := by decide +kernel
theorem dX9_stand_100 : decode cX9_stand 100 = .ok (.iadd, 1) := by decide +kernel
theorem dX9_stand_101 : decode cX9_stand 101 = .ok (.iastore, 1) := by decide +kernel
theorem dX9_stand_102 : decode cX9_stand 102 = .ok (.aload_n 0, 1) := by decide +kernel
theorem dX9_stand_103 : decode cX9_stand 103 = .ok (.getfield 272, 3) := by decide +kernel
theorem dX9_stand_106 : decode cX9_stand 106 = .ok (.iload 6, 2) := by decide +kernel
theorem dX9_stand_108 : decode cX9_stand 108 = .ok (.invokestatic 314, 3) := by decide +kernel
theorem dX9_stand_111 : decode cX9_stand 111 = .ok (.iconst 0, 1) := by decide +kernel
theorem dX9_stand_112 : decode cX9_stand 112 = .ok (.istore 9, 2) := by decide +kernel
theorem dX9_stand_114 : decode cX9_stand 114 = .ok (.iload 9, 2) := by decide +kernel
theorem dX9_stand_116 : decode cX9_stand 116 = .ok (.iload_n 3, 1) := by decide +kernel
theorem dX9_stand_117 : decode cX9_stand 117 = .ok (.if_icmp .ge 17, 3) := by decide +kernel
theorem dX9_stand_120 : decode cX9_stand 120 = .ok (.aload_n 0, 1) := by decide +kernel
theorem dX9_stand_121 : decode cX9_stand 121 = .ok (.aload_n 0, 1) := by decide +kernel
theorem dX9_stand_122 : decode cX9_stand 122 = .ok (.getfield 272, 3) := by decide +kernel
theorem dX9_stand_125 : decode cX9_stand 125 = .ok (.invokevirtual 422, 3) := by decide +kernel
theorem dX9_stand_128 : decode cX9_stand 128 = .ok (.iinc 9 1, 3) := by decide +kernel
theorem dX9_stand_131 : decode cX9_stand 131 = .ok (.goto (-17), 3) := by decide +kernel
theorem dX9_stand_134 : decode cX9_stand 134 = .ok (.iload 7, 2) := by decide +kernel
theorem dX9_stand_136 : decode cX9_stand 136 = .ok (.aload_n 0, 1) := by decide +kernel
theorem dX9_stand_137 : decode cX9_stand 137 = .ok (.aload_n 0, 1) := by decide +kernel
theorem dX9_stand_138 : decode cX9_stand 138 = .ok (.getfield 311, 3) := by decide +kernel
theorem dX9_stand_141 : decode cX9_stand 141 = .ok (.iload_n 3, 1) := by decide +kernel
theorem dX9_stand_142 : decode cX9_stand 142 = .ok (.invokevirtual 482, 3) := by decide +kernel
theorem dX9_stand_145 : decode cX9_stand 145 = .ok (.iadd, 1) := by decide +kernel
theorem dX9_stand_146 : decode cX9_stand 146 = .ok (.istore 7, 2) := by decide +kernel
theorem dX9_stand_148 : decode cX9_stand 148 = .ok (.iinc 8 1, 3) := by decide +kernel
theorem dX9_stand_151 : decode cX9_stand 151 = .ok (.goto (-75), 3) := by decide +kernel
theorem dX9_stand_154 : decode cX9_stand 154 = .ok (.iload 7, 2) := by decide +kernel
theorem dX9_stand_156 : decode cX9_stand 156 = .ok (.iload 5, 2) := by decide +kernel
theorem dX9_stand_158 : decode cX9_stand 158 = .ok (.if_icmp .gt 6, 3) := by decide +kernel
theorem dX9_stand_161 : decode cX9_stand 161 = .ok (.goto 11, 3) := by decide +kernel
theorem dX9_stand_164 : decode cX9_stand 164 = .ok (.iload 7, 2) := by decide +kernel
theorem dX9_stand_166 : decode cX9_stand 166 = .ok (.istore 5, 2) := by decide +kernel
theorem dX9_stand_168 : decode cX9_stand 168 = .ok (.iload 6, 2) := by decide +kernel
theorem dX9_stand_170 : decode cX9_stand 170 = .ok (.istore 4, 2) := by decide +kernel
theorem dX9_stand_172 : decode cX9_stand 172 = .ok (.iinc 6 1, 3) := by decide +kernel
theorem dX9_stand_175 : decode cX9_stand 175 = .ok (.goto (-137), 3) := by decide +kernel
theorem dX9_stand_178 : decode cX9_stand 178 = .ok (.iload 4, 2) := by decide +kernel
theorem dX9_stand_180 : decode cX9_stand 180 = .ok (.ireturn, 1) := by decide +kernel
theorem dX9_common_0 : decode cX9_common 0 = .ok (.iload_n 0, 1) := by decide +kernel
theorem dX9_common_1 : decode cX9_common 1 = .ok (.istore_n 2, 1) := by decide +kernel
theorem dX9_common_2 : decode cX9_common 2 = .ok (.iload_n 1, 1) := by decide +kernel
theorem dX9_common_3 : decode cX9_common 3 = .ok (.istore_n 3, 1) := by decide +kernel
theorem dX9_common_4 : decode cX9_common 4 = .ok (.iload_n 3, 1) := by decide +kernel
theorem dX9_common_5 : decode cX9_common 5 = .ok (.ifCond .eq 16, 3) := by decide +kernel
theorem dX9_common_8 : decode cX9_common 8 = .ok (.iload_n 2, 1) := by decide +kernel
theorem dX9_common_9 : decode cX9_common 9 = .ok (.iload_n 3, 1) := by decide +kernel
theorem dX9_common_10 : decode cX9_common 10 = .ok (.irem, 1) := by decide +kernel
theorem dX9_common_11 : decode cX9_common 11 = .ok (.istore 4, 2) := by decide +kernel
theorem dX9_common_13 : decode cX9_common 13 = .ok (.iload_n 3, 1) := by decide +kernel
theorem dX9_common_14 : decode cX9_common 14 = .ok (.istore_n 2, 1) := by decide +kernel
theorem dX9_common_15 : decode cX9_common 15 = .ok (.iload 4, 2) := by decide +kernel
theorem dX9_common_17 : decode cX9_common 17 = .ok (.istore_n 3, 1) := by decide +kernel
theorem dX9_common_18 : decode cX9_common 18 = .ok (.goto (-14), 3) := by decide +kernel
theorem dX9_common_21 : decode cX9_common 21 = .ok (.iload_n 2, 1) := by decide +kernel
theorem dX9_common_22 : decode cX9_common 22 = .ok (.ireturn, 1) := by decide +kernel
theorem dX9_outlasts_0 : decode cX9_outlasts 0 = .ok (.aload_n 0, 1) := by decide +kernel
theorem dX9_outlasts_1 : decode cX9_outlasts 1 = .ok (.iload_n 1, 1) := by decide +kernel
theorem dX9_outlasts_2 : decode cX9_outlasts 2 = .ok (.invokevirtual 427, 3) := by decide +kernel
theorem dX9_outlasts_5 : decode cX9_outlasts 5 = .ok (.ifCond .eq 31, 3) := by decide +kernel
theorem dX9_outlasts_8 : decode cX9_outlasts 8 = .ok (.aload_n 0, 1) := by decide +kernel
theorem dX9_outlasts_9 : decode cX9_outlasts 9 = .ok (.iload_n 2, 1) := by decide +kernel
theorem dX9_outlasts_10 : decode cX9_outlasts 10 = .ok (.invokevirtual 427, 3) := by decide +kernel
theorem dX9_outlasts_13 : decode cX9_outlasts 13 = .ok (.ifCond .eq 23, 3) := by decide +kernel
theorem dX9_outlasts_16 : decode cX9_outlasts 16 = .ok (.iload_n 1, 1) := by decide +kernel
theorem dX9_outlasts_17 : decode cX9_outlasts 17 = .ok (.iload_n 2, 1) := by decide +kernel
theorem dX9_outlasts_18 : decode cX9_outlasts 18 = .ok (.if_icmp .eq 18, 3) := by decide +kernel
theorem dX9_outlasts_21 : decode cX9_outlasts 21 = .ok (.iload_n 3, 1) := by decide +kernel
theorem dX9_outlasts_22 : decode cX9_outlasts 22 = .ok (.invokestatic 504, 3) := by decide +kernel
theorem dX9_outlasts_25 : decode cX9_outlasts 25 = .ok (.ifCond .eq 11, 3) := by decide +kernel
theorem dX9_outlasts_28 : decode cX9_outlasts 28 = .ok (.iload 4, 2) := by decide +kernel
theorem dX9_outlasts_30 : decode cX9_outlasts 30 = .ok (.invokestatic 475, 3) := by decide +kernel
theorem dX9_outlasts_33 : decode cX9_outlasts 33 = .ok (.ifCond .ne 6, 3) := by decide +kernel
theorem dX9_outlasts_36 : decode cX9_outlasts 36 = .ok (.bipush (-2), 2) := by decide +kernel
theorem dX9_outlasts_38 : decode cX9_outlasts 38 = .ok (.ireturn, 1) := by decide +kernel
theorem dX9_outlasts_39 : decode cX9_outlasts 39 = .ok (.iconst 0, 1) := by decide +kernel
theorem dX9_outlasts_40 : decode cX9_outlasts 40 = .ok (.istore 6, 2) := by decide +kernel
theorem dX9_outlasts_42 : decode cX9_outlasts 42 = .ok (.iconst 1, 1) := by decide +kernel
theorem dX9_outlasts_43 : decode cX9_outlasts 43 = .ok (.istore 7, 2) := by decide +kernel
theorem dX9_outlasts_45 : decode cX9_outlasts 45 = .ok (.iload 7, 2) := by decide +kernel
theorem dX9_outlasts_47 : decode cX9_outlasts 47 = .ok (.iload_n 3, 1) := by decide +kernel
theorem dX9_outlasts_48 : decode cX9_outlasts 48 = .ok (.if_icmp .gt 67, 3) := by decide +kernel
theorem dX9_outlasts_51 : decode cX9_outlasts 51 = .ok (.aload_n 0, 1) := by decide +kernel
theorem dX9_outlasts_52 : decode cX9_outlasts 52 = .ok (.iconst (-1), 1) := by decide +kernel
theorem dX9_outlasts_53 : decode cX9_outlasts 53 = .ok (.iload 7, 2) := by decide +kernel
theorem dX9_outlasts_55 : decode cX9_outlasts 55 = .ok (.invokevirtual 478, 3) := by decide +kernel
theorem dX9_outlasts_58 : decode cX9_outlasts 58 = .ok (.iconst 0, 1) := by decide +kernel
theorem dX9_outlasts_59 : decode cX9_outlasts 59 = .ok (.istore 8, 2) := by decide +kernel
theorem dX9_outlasts_61 : decode cX9_outlasts 61 = .ok (.iload 8, 2) := by decide +kernel
theorem dX9_outlasts_63 : decode cX9_outlasts 63 = .ok (.iload 4, 2) := by decide +kernel
theorem dX9_outlasts_65 : decode cX9_outlasts 65 = .ok (.if_icmp .ge 17, 3) := by decide +kernel
theorem dX9_outlasts_68 : decode cX9_outlasts 68 = .ok (.aload_n 0, 1) := by decide +kernel
theorem dX9_outlasts_69 : decode cX9_outlasts 69 = .ok (.aload_n 0, 1) := by decide +kernel
theorem dX9_outlasts_70 : decode cX9_outlasts 70 = .ok (.getfield 272, 3) := by decide +kernel
theorem dX9_outlasts_73 : decode cX9_outlasts 73 = .ok (.invokevirtual 422, 3) := by decide +kernel
theorem dX9_outlasts_76 : decode cX9_outlasts 76 = .ok (.iinc 8 1, 3) := by decide +kernel
theorem dX9_outlasts_79 : decode cX9_outlasts 79 = .ok (.goto (-18), 3) := by decide +kernel
theorem dX9_outlasts_82 : decode cX9_outlasts 82 = .ok (.iload 6, 2) := by decide +kernel
theorem dX9_outlasts_84 : decode cX9_outlasts 84 = .ok (.aload_n 0, 1) := by decide +kernel
theorem dX9_outlasts_85 : decode cX9_outlasts 85 = .ok (.iload_n 1, 1) := by decide +kernel
theorem dX9_outlasts_86 : decode cX9_outlasts 86 = .ok (.iload 4, 2) := by decide +kernel
theorem dX9_outlasts_88 : decode cX9_outlasts 88 = .ok (.invokevirtual 482, 3) := by decide +kernel
theorem dX9_outlasts_91 : decode cX9_outlasts 91 = .ok (.aload_n 0, 1) := by decide +kernel
theorem dX9_outlasts_92 : decode cX9_outlasts 92 = .ok (.iload_n 2, 1) := by decide +kernel
theorem dX9_outlasts_93 : decode cX9_outlasts 93 = .ok (.iload 4, 2) := by decide +kernel
theorem dX9_outlasts_95 : decode cX9_outlasts 95 = .ok (.invokevirtual 482, 3) := by decide +kernel
theorem dX9_outlasts_98 : decode cX9_outlasts 98 = .ok (.if_icmp .le 7, 3) := by decide +kernel
theorem dX9_outlasts_101 : decode cX9_outlasts 101 = .ok (.iconst 1, 1) := by decide +kernel
theorem dX9_outlasts_102 : decode cX9_outlasts 102 = .ok (.goto 4, 3) := by decide +kernel
theorem dX9_outlasts_105 : decode cX9_outlasts 105 = .ok (.iconst 0, 1) := by decide +kernel
theorem dX9_outlasts_106 : decode cX9_outlasts 106 = .ok (.iadd, 1) := by decide +kernel
theorem dX9_outlasts_107 : decode cX9_outlasts 107 = .ok (.istore 6, 2) := by decide +kernel
theorem dX9_outlasts_109 : decode cX9_outlasts 109 = .ok (.iinc 7 1, 3) := by decide +kernel
theorem dX9_outlasts_112 : decode cX9_outlasts 112 = .ok (.goto (-67), 3) := by decide +kernel
theorem dX9_outlasts_115 : decode cX9_outlasts 115 = .ok (.iload 5, 2) := by decide +kernel
theorem dX9_outlasts_117 : decode cX9_outlasts 117 = .ok (.ifCond .eq 7, 3) := by decide +kernel
theorem dX9_outlasts_120 : decode cX9_outlasts 120 = .ok (.iload_n 3, 1) := by decide +kernel
theorem dX9_outlasts_121 : decode cX9_outlasts 121 = .ok (.goto 5, 3) := by decide +kernel
theorem dX9_outlasts_124 : decode cX9_outlasts 124 = .ok (.iload 6, 2) := by decide +kernel
theorem dX9_outlasts_126 : decode cX9_outlasts 126 = .ok (.iload 6, 2) := by decide +kernel
theorem dX9_outlasts_128 : decode cX9_outlasts 128 = .ok (.iload_n 3, 1) := by decide +kernel
theorem dX9_outlasts_129 : decode cX9_outlasts 129 = .ok (.invokestatic 507, 3) := by decide +kernel
theorem dX9_outlasts_132 : decode cX9_outlasts 132 = .ok (.idiv, 1) := by decide +kernel
theorem dX9_outlasts_133 : decode cX9_outlasts 133 = .ok (.ireturn, 1) := by decide +kernel
theorem dX9_contest_0 : decode cX9_contest 0 = .ok (.iload_n 1, 1) := by decide +kernel
theorem dX9_contest_1 : decode cX9_contest 1 = .ok (.i2l, 1) := by decide +kernel
theorem dX9_contest_2 : decode cX9_contest 2 = .ok (.lconst 0, 1) := by decide +kernel
theorem dX9_contest_3 : decode cX9_contest 3 = .ok (.lconst 1, 1) := by decide +kernel
theorem dX9_contest_4 : decode cX9_contest 4 = .ok (.invokestatic 52, 3) := by decide +kernel
theorem dX9_contest_7 : decode cX9_contest 7 = .ok (.ifCond .eq 17, 3) := by decide +kernel
theorem dX9_contest_10 : decode cX9_contest 10 = .ok (.iload_n 2, 1) := by decide +kernel
theorem dX9_contest_11 : decode cX9_contest 11 = .ok (.invokestatic 504, 3) := by decide +kernel
theorem dX9_contest_14 : decode cX9_contest 14 = .ok (.ifCond .eq 10, 3) := by decide +kernel
theorem dX9_contest_17 : decode cX9_contest 17 = .ok (.iload_n 3, 1) := by decide +kernel
theorem dX9_contest_18 : decode cX9_contest 18 = .ok (.invokestatic 475, 3) := by decide +kernel
theorem dX9_contest_21 : decode cX9_contest 21 = .ok (.ifCond .ne 6, 3) := by decide +kernel
theorem dX9_contest_24 : decode cX9_contest 24 = .ok (.bipush (-2), 2) := by decide +kernel
theorem dX9_contest_26 : decode cX9_contest 26 = .ok (.ireturn, 1) := by decide +kernel
theorem dX9_contest_27 : decode cX9_contest 27 = .ok (.aload_n 0, 1) := by decide +kernel
theorem dX9_contest_28 : decode cX9_contest 28 = .ok (.getfield 311, 3) := by decide +kernel
theorem dX9_contest_31 : decode cX9_contest 31 = .ok (.ifCond .ne 6, 3) := by decide +kernel
theorem dX9_contest_34 : decode cX9_contest 34 = .ok (.bipush (-4), 2) := by decide +kernel
theorem dX9_contest_36 : decode cX9_contest 36 = .ok (.ireturn, 1) := by decide +kernel
theorem dX9_contest_37 : decode cX9_contest 37 = .ok (.iconst (-1), 1) := by decide +kernel
theorem dX9_contest_38 : decode cX9_contest 38 = .ok (.istore 4, 2) := by decide +kernel
theorem dX9_contest_40 : decode cX9_contest 40 = .ok (.iconst (-1), 1) := by decide +kernel
theorem dX9_contest_41 : decode cX9_contest 41 = .ok (.istore 5, 2) := by decide +kernel
theorem dX9_contest_43 : decode cX9_contest 43 = .ok (.iconst 0, 1) := by decide +kernel
theorem dX9_contest_44 : decode cX9_contest 44 = .ok (.istore 6, 2) := by decide +kernel
theorem dX9_contest_46 : decode cX9_contest 46 = .ok (.iload 6, 2) := by decide +kernel
theorem dX9_contest_48 : decode cX9_contest 48 = .ok (.aload_n 0, 1) := by decide +kernel
theorem dX9_contest_49 : decode cX9_contest 49 = .ok (.getfield 225, 3) := by decide +kernel
theorem dX9_contest_52 : decode cX9_contest 52 = .ok (.if_icmp .ge 109, 3) := by decide +kernel
theorem dX9_contest_55 : decode cX9_contest 55 = .ok (.iconst 0, 1) := by decide +kernel
theorem dX9_contest_56 : decode cX9_contest 56 = .ok (.istore 7, 2) := by decide +kernel
theorem dX9_contest_58 : decode cX9_contest 58 = .ok (.iconst 1, 1) := by decide +kernel
theorem dX9_contest_59 : decode cX9_contest 59 = .ok (.istore 8, 2) := by decide +kernel
theorem dX9_contest_61 : decode cX9_contest 61 = .ok (.iload 8, 2) := by decide +kernel
theorem dX9_contest_63 : decode cX9_contest 63 = .ok (.iload_n 2, 1) := by decide +kernel
theorem dX9_contest_64 : decode cX9_contest 64 = .ok (.if_icmp .gt 73, 3) := by decide +kernel
theorem dX9_contest_67 : decode cX9_contest 67 = .ok (.aload_n 0, 1) := by decide +kernel
theorem dX9_contest_68 : decode cX9_contest 68 = .ok (.iload 6, 2) := by decide +kernel
theorem dX9_contest_70 : decode cX9_contest 70 = .ok (.iload 8, 2) := by decide +kernel
theorem dX9_contest_72 : decode cX9_contest 72 = .ok (.invokevirtual 478, 3) := by decide +kernel
theorem dX9_contest_75 : decode cX9_contest 75 = .ok (.iconst 0, 1) := by decide +kernel
theorem dX9_contest_76 : decode cX9_contest 76 = .ok (.istore 9, 2) := by decide +kernel
theorem dX9_contest_78 : decode cX9_contest 78 = .ok (.iload 9, 2) := by decide +kernel
theorem dX9_contest_80 : decode cX9_contest 80 = .ok (.iload_n 3, 1) := by decide +kernel
theorem dX9_contest_81 : decode cX9_contest 81 = .ok (.if_icmp .ge 17, 3) := by decide +kernel
theorem dX9_contest_84 : decode cX9_contest 84 = .ok (.aload_n 0, 1) := by decide +kernel
theorem dX9_contest_85 : decode cX9_contest 85 = .ok (.aload_n 0, 1) := by decide +kernel
theorem dX9_contest_86 : decode cX9_contest 86 = .ok (.getfield 272, 3) := by decide +kernel
theorem dX9_contest_89 : decode cX9_contest 89 = .ok (.invokevirtual 422, 3) := by decide +kernel
theorem dX9_contest_92 : decode cX9_contest 92 = .ok (.iinc 9 1, 3) := by decide +kernel
theorem dX9_contest_95 : decode cX9_contest 95 = .ok (.goto (-17), 3) := by decide +kernel
theorem dX9_contest_98 : decode cX9_contest 98 = .ok (.iload 7, 2) := by decide +kernel
theorem dX9_contest_100 : decode cX9_contest 100 = .ok (.iload_n 1, 1) := by decide +kernel
theorem dX9_contest_101 : decode cX9_contest 101 = .ok (.ifCond .ne 12, 3) := by decide +kernel
theorem dX9_contest_104 : decode cX9_contest 104 = .ok (.aload_n 0, 1) := by decide +kernel
theorem dX9_contest_105 : decode cX9_contest 105 = .ok (.iconst 0, 1) := by decide +kernel
theorem dX9_contest_106 : decode cX9_contest 106 = .ok (.iload_n 3, 1) := by decide +kernel
theorem dX9_contest_107 : decode cX9_contest 107 = .ok (.invokevirtual 482, 3) := by decide +kernel
theorem dX9_contest_110 : decode cX9_contest 110 = .ok (.goto 18, 3) := by decide +kernel
theorem dX9_contest_113 : decode cX9_contest 113 = .ok (.aload_n 0, 1) := by decide +kernel
theorem dX9_contest_114 : decode cX9_contest 114 = .ok (.getfield 272, 3) := by decide +kernel
theorem dX9_contest_117 : decode cX9_contest 117 = .ok (.iconst 0, 1) := by decide +kernel
theorem dX9_contest_118 : decode cX9_contest 118 = .ok (.aload_n 0, 1) := by decide +kernel
theorem dX9_contest_119 : decode cX9_contest 119 = .ok (.getfield 272, 3) := by decide +kernel
theorem dX9_contest_122 : decode cX9_contest 122 = .ok (.sipush 256, 3) := by decide +kernel
theorem dX9_contest_125 : decode cX9_contest 125 = .ok (.iaload, 1) := by decide +kernel
theorem dX9_contest_126 : decode cX9_contest 126 = .ok (.iadd, 1) := by decide +kernel
theorem dX9_contest_127 : decode cX9_contest 127 = .ok (.iaload, 1) := by decide +kernel
theorem dX9_contest_128 : decode cX9_contest 128 = .ok (.iadd, 1) := by decide +kernel
theorem dX9_contest_129 : decode cX9_contest 129 = .ok (.istore 7, 2) := by decide +kernel
theorem dX9_contest_131 : decode cX9_contest 131 = .ok (.iinc 8 1, 3) := by decide +kernel
theorem dX9_contest_134 : decode cX9_contest 134 = .ok (.goto (-73), 3) := by decide +kernel
theorem dX9_contest_137 : decode cX9_contest 137 = .ok (.iload 7, 2) := by decide +kernel
theorem dX9_contest_139 : decode cX9_contest 139 = .ok (.iload 5, 2) := by decide +kernel
theorem dX9_contest_141 : decode cX9_contest 141 = .ok (.if_icmp .gt 6, 3) := by decide +kernel
theorem dX9_contest_144 : decode cX9_contest 144 = .ok (.goto 11, 3) := by decide +kernel
theorem dX9_contest_147 : decode cX9_contest 147 = .ok (.iload 7, 2) := by decide +kernel
theorem dX9_contest_149 : decode cX9_contest 149 = .ok (.istore 5, 2) := by decide +kernel
theorem dX9_contest_151 : decode cX9_contest 151 = .ok (.iload 6, 2) := by decide +kernel
theorem dX9_contest_153 : decode cX9_contest 153 = .ok (.istore 4, 2) := by decide +kernel
theorem dX9_contest_155 : decode cX9_contest 155 = .ok (.iinc 6 1, 3) := by decide +kernel
theorem dX9_contest_158 : decode cX9_contest 158 = .ok (.goto (-112), 3) := by decide +kernel
theorem dX9_contest_161 : decode cX9_contest 161 = .ok (.iload 4, 2) := by decide +kernel
theorem dX9_contest_163 : decode cX9_contest 163 = .ok (.ireturn, 1) := by decide +kernel
theorem dX9_which_0 : decode cX9_which 0 = .ok (.aload_n 0, 1) := by decide +kernel
theorem dX9_which_1 : decode cX9_which 1 = .ok (.getfield 67, 3) := by decide +kernel
theorem dX9_which_4 : decode cX9_which 4 = .ok (.istore_n 1, 1) := by decide +kernel
theorem dX9_which_5 : decode cX9_which 5 = .ok (.aload_n 0, 1) := by decide +kernel
theorem dX9_which_6 : decode cX9_which 6 = .ok (.iconst 0, 1) := by decide +kernel
theorem dX9_which_7 : decode cX9_which 7 = .ok (.putfield 67, 3) := by decide +kernel
theorem dX9_which_10 : decode cX9_which 10 = .ok (.iload_n 1, 1) := by decide +kernel
theorem dX9_which_11 : decode cX9_which 11 = .ok (.aload_n 0, 1) := by decide +kernel
theorem dX9_which_12 : decode cX9_which 12 = .ok (.getfield 201, 3) := by decide +kernel
theorem dX9_which_15 : decode cX9_which 15 = .ok (.aload_n 0, 1) := by decide +kernel
theorem dX9_which_16 : decode cX9_which 16 = .ok (.getfield 204, 3) := by decide +kernel
theorem dX9_which_19 : decode cX9_which 19 = .ok (.imul, 1) := by decide +kernel
theorem dX9_which_20 : decode cX9_which 20 = .ok (.if_icmp .eq 5, 3) := by decide +kernel
theorem dX9_which_23 : decode cX9_which 23 = .ok (.iconst (-1), 1) := by decide +kernel
theorem dX9_which_24 : decode cX9_which 24 = .ok (.ireturn, 1) := by decide +kernel
theorem dX9_which_25 : decode cX9_which 25 = .ok (.iconst 0, 1) := by decide +kernel
theorem dX9_which_26 : decode cX9_which 26 = .ok (.istore_n 2, 1) := by decide +kernel
theorem dX9_which_27 : decode cX9_which 27 = .ok (.iload_n 2, 1) := by decide +kernel
theorem dX9_which_28 : decode cX9_which 28 = .ok (.iload_n 1, 1) := by decide +kernel
theorem dX9_which_29 : decode cX9_which 29 = .ok (.if_icmp .ge 30, 3) := by decide +kernel
theorem dX9_which_32 : decode cX9_which 32 = .ok (.aload_n 0, 1) := by decide +kernel
theorem dX9_which_33 : decode cX9_which 33 = .ok (.getfield 16, 3) := by decide +kernel
theorem dX9_which_36 : decode cX9_which 36 = .ok (.iload_n 2, 1) := by decide +kernel
theorem dX9_which_37 : decode cX9_which 37 = .ok (.baload, 1) := by decide +kernel
theorem dX9_which_38 : decode cX9_which 38 = .ok (.i2l, 1) := by decide +kernel
theorem dX9_which_39 : decode cX9_which 39 = .ok (.ldc2_w 510, 3) := by decide +kernel
theorem dX9_which_42 : decode cX9_which 42 = .ok (.ldc2_w 512, 3) := by decide +kernel
theorem dX9_which_45 : decode cX9_which 45 = .ok (.invokestatic 52, 3) := by decide +kernel
theorem dX9_which_48 : decode cX9_which 48 = .ok (.ifCond .ne 5, 3) := by decide +kernel
theorem dX9_which_51 : decode cX9_which 51 = .ok (.iconst (-1), 1) := by decide +kernel
theorem dX9_which_52 : decode cX9_which 52 = .ok (.ireturn, 1) := by decide +kernel
theorem dX9_which_53 : decode cX9_which 53 = .ok (.iinc 2 1, 3) := by decide +kernel
theorem dX9_which_56 : decode cX9_which 56 = .ok (.goto (-29), 3) := by decide +kernel
theorem dX9_which_59 : decode cX9_which 59 = .ok (.iconst 0, 1) := by decide +kernel
theorem dX9_which_60 : decode cX9_which 60 = .ok (.istore_n 2, 1) := by decide +kernel
theorem dX9_which_61 : decode cX9_which 61 = .ok (.iconst 0, 1) := by decide +kernel
theorem dX9_which_62 : decode cX9_which 62 = .ok (.istore_n 3, 1) := by decide +kernel
theorem dX9_which_63 : decode cX9_which 63 = .ok (.iload_n 3, 1) := by decide +kernel
theorem dX9_which_64 : decode cX9_which 64 = .ok (.aload_n 0, 1) := by decide +kernel
theorem dX9_which_65 : decode cX9_which 65 = .ok (.getfield 334, 3) := by decide +kernel
theorem dX9_which_68 : decode cX9_which 68 = .ok (.if_icmp .ge 118, 3) := by decide +kernel
theorem dX9_which_71 : decode cX9_which 71 = .ok (.aload_n 0, 1) := by decide +kernel
theorem dX9_which_72 : decode cX9_which 72 = .ok (.iconst (-1), 1) := by decide +kernel
theorem dX9_which_73 : decode cX9_which 73 = .ok (.iconst 1, 1) := by decide +kernel
theorem dX9_which_74 : decode cX9_which 74 = .ok (.invokevirtual 478, 3) := by decide +kernel
theorem dX9_which_77 : decode cX9_which 77 = .ok (.aload_n 0, 1) := by decide +kernel
theorem dX9_which_78 : decode cX9_which 78 = .ok (.aload_n 0, 1) := by decide +kernel
theorem dX9_which_79 : decode cX9_which 79 = .ok (.getfield 272, 3) := by decide +kernel
theorem dX9_which_82 : decode cX9_which 82 = .ok (.aload_n 0, 1) := by decide +kernel
theorem dX9_which_83 : decode cX9_which 83 = .ok (.getfield 256, 3) := by decide +kernel
theorem dX9_which_86 : decode cX9_which 86 = .ok (.iconst 3, 1) := by decide +kernel
theorem dX9_which_87 : decode cX9_which 87 = .ok (.iload_n 3, 1) := by decide +kernel
theorem dX9_which_88 : decode cX9_which 88 = .ok (.imul, 1) := by decide +kernel
theorem dX9_which_89 : decode cX9_which 89 = .ok (.iconst 1, 1) := by decide +kernel
theorem dX9_which_90 : decode cX9_which 90 = .ok (.iadd, 1) := by decide +kernel
theorem dX9_which_91 : decode cX9_which 91 = .ok (.iaload, 1) := by decide +kernel
theorem dX9_which_92 : decode cX9_which 92 = .ok (.aload_n 0, 1) := by decide +kernel
theorem dX9_which_93 : decode cX9_which 93 = .ok (.getfield 256, 3) := by decide +kernel
theorem dX9_which_96 : decode cX9_which 96 = .ok (.iconst 3, 1) := by decide +kernel
theorem dX9_which_97 : decode cX9_which 97 = .ok (.iload_n 3, 1) := by decide +kernel
theorem dX9_which_98 : decode cX9_which 98 = .ok (.imul, 1) := by decide +kernel
theorem dX9_which_99 : decode cX9_which 99 = .ok (.iconst 2, 1) := by decide +kernel
theorem dX9_which_100 : decode cX9_which 100 = .ok (.iadd, 1) := by decide +kernel
theorem dX9_which_101 : decode cX9_which 101 = .ok (.iaload, 1) := by decide +kernel
theorem dX9_which_102 : decode cX9_which 102 = .ok (.invokevirtual 385, 3) := by decide +kernel
theorem dX9_which_105 : decode cX9_which 105 = .ok (.aload_n 0, 1) := by decide +kernel
theorem dX9_which_106 : decode cX9_which 106 = .ok (.aload_n 0, 1) := by decide +kernel
theorem dX9_which_107 : decode cX9_which 107 = .ok (.getfield 272, 3) := by decide +kernel
theorem dX9_which_110 : decode cX9_which 110 = .ok (.invokevirtual 405, 3) := by decide +kernel
theorem dX9_which_113 : decode cX9_which 113 = .ok (.iconst 1, 1) := by decide +kernel
theorem dX9_which_114 : decode cX9_which 114 = .ok (.istore 4, 2) := by decide +kernel
theorem dX9_which_116 : decode cX9_which 116 = .ok (.iconst 0, 1) := by decide +kernel
theorem dX9_which_117 : decode cX9_which 117 = .ok (.istore 5, 2) := by decide +kernel
theorem dX9_which_119 : decode cX9_which 119 = .ok (.iload 5, 2) := by decide +kernel
theorem dX9_which_121 : decode cX9_which 121 = .ok (.iload_n 1, 1) := by decide +kernel
theorem dX9_which_122 : decode cX9_which 122 = .ok (.if_icmp .ge 43, 3) := by decide +kernel
theorem dX9_which_125 : decode cX9_which 125 = .ok (.iload 4, 2) := by decide +kernel
theorem dX9_which_127 : decode cX9_which 127 = .ok (.ifCond .eq 29, 3) := by decide +kernel
theorem dX9_which_130 : decode cX9_which 130 = .ok (.aload_n 0, 1) := by decide +kernel
theorem dX9_which_131 : decode cX9_which 131 = .ok (.getfield 272, 3) := by decide +kernel
theorem dX9_which_134 : decode cX9_which 134 = .ok (.iconst 0, 1) := by decide +kernel
theorem dX9_which_135 : decode cX9_which 135 = .ok (.iload 5, 2) := by decide +kernel
theorem dX9_which_137 : decode cX9_which 137 = .ok (.iadd, 1) := by decide +kernel
theorem dX9_which_138 : decode cX9_which 138 = .ok (.iaload, 1) := by decide +kernel
theorem dX9_which_139 : decode cX9_which 139 = .ok (.aload_n 0, 1) := by decide +kernel
theorem dX9_which_140 : decode cX9_which 140 = .ok (.getfield 16, 3) := by decide +kernel
theorem dX9_which_143 : decode cX9_which 143 = .ok (.iload 5, 2) := by decide +kernel
theorem dX9_which_145 : decode cX9_which 145 = .ok (.baload, 1) := by decide +kernel
theorem dX9_which_146 : decode cX9_which 146 = .ok (.bipush 32, 2) := by decide +kernel
theorem dX9_which_148 : decode cX9_which 148 = .ok (.isub, 1) := by decide +kernel
theorem dX9_which_149 : decode cX9_which 149 = .ok (.if_icmp .ne 7, 3) := by decide +kernel
theorem dX9_which_152 : decode cX9_which 152 = .ok (.iconst 1, 1) := by decide +kernel
theorem dX9_which_153 : decode cX9_which 153 = .ok (.goto 4, 3) := by decide +kernel
theorem dX9_which_156 : decode cX9_which 156 = .ok (.iconst 0, 1) := by decide +kernel
theorem dX9_which_157 : decode cX9_which 157 = .ok (.istore 4, 2) := by decide +kernel
theorem dX9_which_159 : decode cX9_which 159 = .ok (.iinc 5 1, 3) := by decide +kernel
theorem dX9_which_162 : decode cX9_which 162 = .ok (.goto (-43), 3) := by decide +kernel
theorem dX9_which_165 : decode cX9_which 165 = .ok (.iload_n 2, 1) := by decide +kernel
theorem dX9_which_166 : decode cX9_which 166 = .ok (.iload 4, 2) := by decide +kernel
theorem dX9_which_168 : decode cX9_which 168 = .ok (.ifCond .eq 9, 3) := by decide +kernel
theorem dX9_which_171 : decode cX9_which 171 = .ok (.iconst 1, 1) := by decide +kernel
theorem dX9_which_172 : decode cX9_which 172 = .ok (.iload_n 3, 1) := by decide +kernel
theorem dX9_which_173 : decode cX9_which 173 = .ok (.ishl, 1) := by decide +kernel
theorem dX9_which_174 : decode cX9_which 174 = .ok (.goto 4, 3) := by decide +kernel
theorem dX9_which_177 : decode cX9_which 177 = .ok (.iconst 0, 1) := by decide +kernel
theorem dX9_which_178 : decode cX9_which 178 = .ok (.ior, 1) := by decide +kernel
theorem dX9_which_179 : decode cX9_which 179 = .ok (.istore_n 2, 1) := by decide +kernel
theorem dX9_which_180 : decode cX9_which 180 = .ok (.iinc 3 1, 3) := by decide +kernel
theorem dX9_which_183 : decode cX9_which 183 = .ok (.goto (-120), 3) := by decide +kernel
theorem dX9_which_186 : decode cX9_which 186 = .ok (.iload_n 2, 1) := by decide +kernel
theorem dX9_which_187 : decode cX9_which 187 = .ok (.ireturn, 1) := by decide +kernel
theorem dX9_join_0 : decode cX9_join 0 = .ok (.iload_n 1, 1) := by decide +kernel
theorem dX9_join_1 : decode cX9_join 1 = .ok (.i2l, 1) := by decide +kernel
theorem dX9_join_2 : decode cX9_join 2 = .ok (.lconst 1, 1) := by decide +kernel
theorem dX9_join_3 : decode cX9_join 3 = .ok (.ldc2_w 473, 3) := by decide +kernel
theorem dX9_join_6 : decode cX9_join 6 = .ok (.invokestatic 52, 3) := by decide +kernel
theorem dX9_join_9 : decode cX9_join 9 = .ok (.ifCond .eq 64, 3) := by decide +kernel
theorem dX9_join_12 : decode cX9_join 12 = .ok (.iload_n 2, 1) := by decide +kernel
theorem dX9_join_13 : decode cX9_join 13 = .ok (.i2l, 1) := by decide +kernel
theorem dX9_join_14 : decode cX9_join 14 = .ok (.lconst 1, 1) := by decide +kernel
theorem dX9_join_15 : decode cX9_join 15 = .ok (.ldc2_w 473, 3) := by decide +kernel
theorem dX9_join_18 : decode cX9_join 18 = .ok (.invokestatic 52, 3) := by decide +kernel
theorem dX9_join_21 : decode cX9_join 21 = .ok (.ifCond .eq 52, 3) := by decide +kernel
theorem dX9_join_24 : decode cX9_join 24 = .ok (.iload_n 3, 1) := by decide +kernel
theorem dX9_join_25 : decode cX9_join 25 = .ok (.i2l, 1) := by decide +kernel
theorem dX9_join_26 : decode cX9_join 26 = .ok (.lconst 1, 1) := by decide +kernel
theorem dX9_join_27 : decode cX9_join 27 = .ok (.ldc2_w 514, 3) := by decide +kernel
theorem dX9_join_30 : decode cX9_join 30 = .ok (.invokestatic 52, 3) := by decide +kernel
theorem dX9_join_33 : decode cX9_join 33 = .ok (.ifCond .eq 40, 3) := by decide +kernel
theorem dX9_join_36 : decode cX9_join 36 = .ok (.iload 4, 2) := by decide +kernel
theorem dX9_join_38 : decode cX9_join 38 = .ok (.i2l, 1) := by decide +kernel
theorem dX9_join_39 : decode cX9_join 39 = .ok (.lconst 1, 1) := by decide +kernel
theorem dX9_join_40 : decode cX9_join 40 = .ok (.ldc2_w 514, 3) := by decide +kernel
theorem dX9_join_43 : decode cX9_join 43 = .ok (.invokestatic 52, 3) := by decide +kernel
theorem dX9_join_46 : decode cX9_join 46 = .ok (.ifCond .eq 27, 3) := by decide +kernel
theorem dX9_join_49 : decode cX9_join 49 = .ok (.iload 5, 2) := by decide +kernel
theorem dX9_join_51 : decode cX9_join 51 = .ok (.i2l, 1) := by decide +kernel
theorem dX9_join_52 : decode cX9_join 52 = .ok (.lconst 1, 1) := by decide +kernel
theorem dX9_join_53 : decode cX9_join 53 = .ok (.ldc2_w 516, 3) := by decide +kernel
theorem dX9_join_56 : decode cX9_join 56 = .ok (.invokestatic 52, 3) := by decide +kernel
theorem dX9_join_59 : decode cX9_join 59 = .ok (.ifCond .eq 14, 3) := by decide +kernel
theorem dX9_join_62 : decode cX9_join 62 = .ok (.iload 6, 2) := by decide +kernel
theorem dX9_join_64 : decode cX9_join 64 = .ok (.i2l, 1) := by decide +kernel
theorem dX9_join_65 : decode cX9_join 65 = .ok (.lconst 0, 1) := by decide +kernel
theorem dX9_join_66 : decode cX9_join 66 = .ok (.lconst 1, 1) := by decide +kernel
theorem dX9_join_67 : decode cX9_join 67 = .ok (.invokestatic 52, 3) := by decide +kernel
theorem dX9_join_70 : decode cX9_join 70 = .ok (.ifCond .ne 6, 3) := by decide +kernel
theorem dX9_join_73 : decode cX9_join 73 = .ok (.bipush (-2), 2) := by decide +kernel
theorem dX9_join_75 : decode cX9_join 75 = .ok (.ireturn, 1) := by decide +kernel
theorem dX9_join_76 : decode cX9_join 76 = .ok (.iload_n 1, 1) := by decide +kernel
theorem dX9_join_77 : decode cX9_join 77 = .ok (.istore 7, 2) := by decide +kernel
theorem dX9_join_79 : decode cX9_join 79 = .ok (.iload_n 1, 1) := by decide +kernel
theorem dX9_join_80 : decode cX9_join 80 = .ok (.iload_n 2, 1) := by decide +kernel
theorem dX9_join_81 : decode cX9_join 81 = .ok (.isub, 1) := by decide +kernel
theorem dX9_join_82 : decode cX9_join 82 = .ok (.istore 8, 2) := by decide +kernel
theorem dX9_join_84 : decode cX9_join 84 = .ok (.iload 8, 2) := by decide +kernel
theorem dX9_join_86 : decode cX9_join 86 = .ok (.ifCond .le 21, 3) := by decide +kernel
theorem dX9_join_89 : decode cX9_join 89 = .ok (.iload 7, 2) := by decide +kernel
theorem dX9_join_91 : decode cX9_join 91 = .ok (.iconst 2, 1) := by decide +kernel
theorem dX9_join_92 : decode cX9_join 92 = .ok (.iload 8, 2) := by decide +kernel
theorem dX9_join_94 : decode cX9_join 94 = .ok (.imul, 1) := by decide +kernel
theorem dX9_join_95 : decode cX9_join 95 = .ok (.iadd, 1) := by decide +kernel
theorem dX9_join_96 : decode cX9_join 96 = .ok (.istore 7, 2) := by decide +kernel
theorem dX9_join_98 : decode cX9_join 98 = .ok (.iload 8, 2) := by decide +kernel
theorem dX9_join_100 : decode cX9_join 100 = .ok (.iload_n 2, 1) := by decide +kernel
theorem dX9_join_101 : decode cX9_join 101 = .ok (.isub, 1) := by decide +kernel
theorem dX9_join_102 : decode cX9_join 102 = .ok (.istore 8, 2) := by decide +kernel
theorem dX9_join_104 : decode cX9_join 104 = .ok (.goto (-20), 3) := by decide +kernel
theorem dX9_join_107 : decode cX9_join 107 = .ok (.iconst 0, 1) := by decide +kernel
theorem dX9_join_108 : decode cX9_join 108 = .ok (.istore 8, 2) := by decide +kernel
theorem dX9_join_110 : decode cX9_join 110 = .ok (.iconst (-1), 1) := by decide +kernel
theorem dX9_join_111 : decode cX9_join 111 = .ok (.istore 9, 2) := by decide +kernel
theorem dX9_join_113 : decode cX9_join 113 = .ok (.iconst 0, 1) := by decide +kernel
theorem dX9_join_114 : decode cX9_join 114 = .ok (.istore 10, 2) := by decide +kernel
theorem dX9_join_116 : decode cX9_join 116 = .ok (.iload 10, 2) := by decide +kernel
theorem dX9_join_118 : decode cX9_join 118 = .ok (.bipush 99, 2) := by decide +kernel
theorem dX9_join_120 : decode cX9_join 120 = .ok (.if_icmp .gt 82, 3) := by decide +kernel
theorem dX9_join_123 : decode cX9_join 123 = .ok (.iload 7, 2) := by decide +kernel
theorem dX9_join_125 : decode cX9_join 125 = .ok (.iload_n 3, 1) := by decide +kernel
theorem dX9_join_126 : decode cX9_join 126 = .ok (.iload 10, 2) := by decide +kernel
theorem dX9_join_128 : decode cX9_join 128 = .ok (.imul, 1) := by decide +kernel
theorem dX9_join_129 : decode cX9_join 129 = .ok (.invokestatic 518, 3) := by decide +kernel
theorem dX9_join_132 : decode cX9_join 132 = .ok (.iload 7, 2) := by decide +kernel
theorem dX9_join_134 : decode cX9_join 134 = .ok (.iload 4, 2) := by decide +kernel
theorem dX9_join_136 : decode cX9_join 136 = .ok (.iload 10, 2) := by decide +kernel
theorem dX9_join_138 : decode cX9_join 138 = .ok (.imul, 1) := by decide +kernel
theorem dX9_join_139 : decode cX9_join 139 = .ok (.invokestatic 518, 3) := by decide +kernel
theorem dX9_join_142 : decode cX9_join 142 = .ok (.iadd, 1) := by decide +kernel
theorem dX9_join_143 : decode cX9_join 143 = .ok (.istore 11, 2) := by decide +kernel
theorem dX9_join_145 : decode cX9_join 145 = .ok (.iload_n 3, 1) := by decide +kernel
theorem dX9_join_146 : decode cX9_join 146 = .ok (.iload 4, 2) := by decide +kernel
theorem dX9_join_148 : decode cX9_join 148 = .ok (.iadd, 1) := by decide +kernel
theorem dX9_join_149 : decode cX9_join 149 = .ok (.iload 5, 2) := by decide +kernel
theorem dX9_join_151 : decode cX9_join 151 = .ok (.imul, 1) := by decide +kernel
theorem dX9_join_152 : decode cX9_join 152 = .ok (.istore 12, 2) := by decide +kernel
theorem dX9_join_154 : decode cX9_join 154 = .ok (.iload 10, 2) := by decide +kernel
theorem dX9_join_156 : decode cX9_join 156 = .ok (.bipush 100, 2) := by decide +kernel
theorem dX9_join_158 : decode cX9_join 158 = .ok (.iload 11, 2) := by decide +kernel
theorem dX9_join_160 : decode cX9_join 160 = .ok (.imul, 1) := by decide +kernel
theorem dX9_join_161 : decode cX9_join 161 = .ok (.iload 12, 2) := by decide +kernel
theorem dX9_join_163 : decode cX9_join 163 = .ok (.iadd, 1) := by decide +kernel
theorem dX9_join_164 : decode cX9_join 164 = .ok (.iconst 1, 1) := by decide +kernel
theorem dX9_join_165 : decode cX9_join 165 = .ok (.isub, 1) := by decide +kernel
theorem dX9_join_166 : decode cX9_join 166 = .ok (.iload 12, 2) := by decide +kernel
theorem dX9_join_168 : decode cX9_join 168 = .ok (.idiv, 1) := by decide +kernel
theorem dX9_join_169 : decode cX9_join 169 = .ok (.iadd, 1) := by decide +kernel
theorem dX9_join_170 : decode cX9_join 170 = .ok (.istore 13, 2) := by decide +kernel
theorem dX9_join_172 : decode cX9_join 172 = .ok (.iload 9, 2) := by decide +kernel
theorem dX9_join_174 : decode cX9_join 174 = .ok (.iconst (-1), 1) := by decide +kernel
theorem dX9_join_175 : decode cX9_join 175 = .ok (.if_icmp .eq 13, 3) := by decide +kernel
theorem dX9_join_178 : decode cX9_join 178 = .ok (.iload 13, 2) := by decide +kernel
theorem dX9_join_180 : decode cX9_join 180 = .ok (.iload 9, 2) := by decide +kernel
theorem dX9_join_182 : decode cX9_join 182 = .ok (.if_icmp .lt 6, 3) := by decide +kernel
theorem dX9_join_185 : decode cX9_join 185 = .ok (.goto 11, 3) := by decide +kernel
theorem dX9_join_188 : decode cX9_join 188 = .ok (.iload 13, 2) := by decide +kernel
theorem dX9_join_190 : decode cX9_join 190 = .ok (.istore 9, 2) := by decide +kernel
theorem dX9_join_192 : decode cX9_join 192 = .ok (.iload 10, 2) := by decide +kernel
theorem dX9_join_194 : decode cX9_join 194 = .ok (.istore 8, 2) := by decide +kernel
theorem dX9_join_196 : decode cX9_join 196 = .ok (.iinc 10 1, 3) := by decide +kernel
theorem dX9_join_199 : decode cX9_join 199 = .ok (.goto (-83), 3) := by decide +kernel
theorem dX9_join_202 : decode cX9_join 202 = .ok (.iload 6, 2) := by decide +kernel
theorem dX9_join_204 : decode cX9_join 204 = .ok (.ifCond .ne 8, 3) := by decide +kernel
theorem dX9_join_207 : decode cX9_join 207 = .ok (.iload 8, 2) := by decide +kernel
theorem dX9_join_209 : decode cX9_join 209 = .ok (.goto 5, 3) := by decide +kernel
theorem dX9_join_212 : decode cX9_join 212 = .ok (.iload 9, 2) := by decide +kernel
theorem dX9_join_214 : decode cX9_join 214 = .ok (.ireturn, 1) := by decide +kernel
theorem dX9_joinLeft_0 : decode cX9_joinLeft 0 = .ok (.iconst 0, 1) := by decide +kernel
theorem dX9_joinLeft_1 : decode cX9_joinLeft 1 = .ok (.iload_n 0, 1) := by decide +kernel
theorem dX9_joinLeft_2 : decode cX9_joinLeft 2 = .ok (.iload_n 1, 1) := by decide +kernel
theorem dX9_joinLeft_3 : decode cX9_joinLeft 3 = .ok (.isub, 1) := by decide +kernel
theorem dX9_joinLeft_4 : decode cX9_joinLeft 4 = .ok (.invokestatic 359, 3) := by decide +kernel
theorem dX9_joinLeft_7 : decode cX9_joinLeft 7 = .ok (.ireturn, 1) := by decide +kernel
theorem dX9_count_0 : decode cX9_count 0 = .ok (.iload_n 1, 1) := by decide +kernel
theorem dX9_count_1 : decode cX9_count 1 = .ok (.tableswitch 60 0 4 #[35, 40, 45, 50, 55], 35) := by decide +kernel
theorem dX9_count_36 : decode cX9_count 36 = .ok (.aload_n 0, 1) := by decide +kernel
theorem dX9_count_37 : decode cX9_count 37 = .ok (.getfield 328, 3) := by decide +kernel
theorem dX9_count_40 : decode cX9_count 40 = .ok (.ireturn, 1) := by decide +kernel
theorem dX9_count_41 : decode cX9_count 41 = .ok (.aload_n 0, 1) := by decide +kernel
theorem dX9_count_42 : decode cX9_count 42 = .ok (.getfield 337, 3) := by decide +kernel
theorem dX9_count_45 : decode cX9_count 45 = .ok (.ireturn, 1) := by decide +kernel
theorem dX9_count_46 : decode cX9_count 46 = .ok (.aload_n 0, 1) := by decide +kernel
theorem dX9_count_47 : decode cX9_count 47 = .ok (.getfield 456, 3) := by decide +kernel
theorem dX9_count_50 : decode cX9_count 50 = .ok (.ireturn, 1) := by decide +kernel
theorem dX9_count_51 : decode cX9_count 51 = .ok (.aload_n 0, 1) := by decide +kernel
theorem dX9_count_52 : decode cX9_count 52 = .ok (.getfield 459, 3) := by decide +kernel
theorem dX9_count_55 : decode cX9_count 55 = .ok (.ireturn, 1) := by decide +kernel
theorem dX9_count_56 : decode cX9_count 56 = .ok (.aload_n 0, 1) := by decide +kernel
theorem dX9_count_57 : decode cX9_count 57 = .ok (.getfield 67, 3) := by decide +kernel
theorem dX9_count_60 : decode cX9_count 60 = .ok (.ireturn, 1) := by decide +kernel
theorem dX9_count_61 : decode cX9_count 61 = .ok (.iconst (-1), 1) := by decide +kernel
theorem dX9_count_62 : decode cX9_count 62 = .ok (.ireturn, 1) := by decide +kernel
