theorem dX12_bad_58 : decode cX12_bad 58 = .ok (.bipush 64, 2) := by decide +kernel
theorem dX12_bad_60 : decode cX12_bad 60 = .ok (.if_icmp .ge 60, 3) := by decide +kernel
theorem dX12_bad_63 : decode cX12_bad 63 = .ok (.iload_n 3, 1) := by decide +kernel
theorem dX12_bad_64 : decode cX12_bad 64 = .ok (.iconst 2, 1) := by decide +kernel
theorem dX12_bad_65 : decode cX12_bad 65 = .ok (.idiv, 1) := by decide +kernel
theorem dX12_bad_66 : decode cX12_bad 66 = .ok (.iconst 2, 1) := by decide +kernel
theorem dX12_bad_67 : decode cX12_bad 67 = .ok (.irem, 1) := by decide +kernel
theorem dX12_bad_68 : decode cX12_bad 68 = .ok (.iconst 1, 1) := by decide +kernel
theorem dX12_bad_69 : decode cX12_bad 69 = .ok (.if_icmp .ne 51, 3) := by decide +kernel
theorem dX12_bad_72 : decode cX12_bad 72 = .ok (.iload_n 1, 1) := by decide +kernel
theorem dX12_bad_73 : decode cX12_bad 73 = .ok (.ifCond .ne 35, 3) := by decide +kernel
theorem dX12_bad_76 : decode cX12_bad 76 = .ok (.aload_n 0, 1) := by decide +kernel
theorem dX12_bad_77 : decode cX12_bad 77 = .ok (.getfield 41, 3) := by decide +kernel
theorem dX12_bad_80 : decode cX12_bad 80 = .ok (.iload 4, 2) := by decide +kernel
theorem dX12_bad_82 : decode cX12_bad 82 = .ok (.baload, 1) := by decide +kernel
theorem dX12_bad_83 : decode cX12_bad 83 = .ok (.ifCond .eq 29, 3) := by decide +kernel
theorem dX12_bad_86 : decode cX12_bad 86 = .ok (.aload_n 0, 1) := by decide +kernel
theorem dX12_bad_87 : decode cX12_bad 87 = .ok (.aload_n 0, 1) := by decide +kernel
theorem dX12_bad_88 : decode cX12_bad 88 = .ok (.iload_n 2, 1) := by decide +kernel
theorem dX12_bad_89 : decode cX12_bad 89 = .ok (.iconst 4, 1) := by decide +kernel
theorem dX12_bad_90 : decode cX12_bad 90 = .ok (.invokevirtual 100, 3) := by decide +kernel
theorem dX12_bad_93 : decode cX12_bad 93 = .ok (.bipush 17, 2) := by decide +kernel
theorem dX12_bad_95 : decode cX12_bad 95 = .ok (.invokevirtual 255, 3) := by decide +kernel
theorem dX12_bad_98 : decode cX12_bad 98 = .ok (.iload 4, 2) := by decide +kernel
theorem dX12_bad_100 : decode cX12_bad 100 = .ok (.lshr, 1) := by decide +kernel
theorem dX12_bad_101 : decode cX12_bad 101 = .ok (.lconst 1, 1) := by decide +kernel
theorem dX12_bad_102 : decode cX12_bad 102 = .ok (.land, 1) := by decide +kernel
theorem dX12_bad_103 : decode cX12_bad 103 = .ok (.lconst 1, 1) := by decide +kernel
theorem dX12_bad_104 : decode cX12_bad 104 = .ok (.lcmp, 1) := by decide +kernel
theorem dX12_bad_105 : decode cX12_bad 105 = .ok (.ifCond .ne 7, 3) := by decide +kernel
theorem dX12_bad_108 : decode cX12_bad 108 = .ok (.iconst 1, 1) := by decide +kernel
theorem dX12_bad_109 : decode cX12_bad 109 = .ok (.goto 4, 3) := by decide +kernel
theorem dX12_bad_112 : decode cX12_bad 112 = .ok (.iconst 0, 1) := by decide +kernel
theorem dX12_bad_113 : decode cX12_bad 113 = .ok (.istore_n 1, 1) := by decide +kernel
theorem dX12_bad_114 : decode cX12_bad 114 = .ok (.iinc 4 1, 3) := by decide +kernel
theorem dX12_bad_117 : decode cX12_bad 117 = .ok (.goto (-61), 3) := by decide +kernel
theorem dX12_bad_120 : decode cX12_bad 120 = .ok (.aload_n 0, 1) := by decide +kernel
theorem dX12_bad_121 : decode cX12_bad 121 = .ok (.getfield 41, 3) := by decide +kernel
theorem dX12_bad_124 : decode cX12_bad 124 = .ok (.aload_n 0, 1) := by decide +kernel
theorem dX12_bad_125 : decode cX12_bad 125 = .ok (.iload_n 2, 1) := by decide +kernel
theorem dX12_bad_126 : decode cX12_bad 126 = .ok (.iconst 1, 1) := by decide +kernel
theorem dX12_bad_127 : decode cX12_bad 127 = .ok (.invokevirtual 100, 3) := by decide +kernel
theorem dX12_bad_130 : decode cX12_bad 130 = .ok (.iload_n 1, 1) := by decide +kernel
theorem dX12_bad_131 : decode cX12_bad 131 = .ok (.ifCond .ne 18, 3) := by decide +kernel
theorem dX12_bad_134 : decode cX12_bad 134 = .ok (.iload_n 3, 1) := by decide +kernel
theorem dX12_bad_135 : decode cX12_bad 135 = .ok (.iconst 2, 1) := by decide +kernel
theorem dX12_bad_136 : decode cX12_bad 136 = .ok (.irem, 1) := by decide +kernel
theorem dX12_bad_137 : decode cX12_bad 137 = .ok (.iconst 1, 1) := by decide +kernel
theorem dX12_bad_138 : decode cX12_bad 138 = .ok (.if_icmp .ne 15, 3) := by decide +kernel
theorem dX12_bad_141 : decode cX12_bad 141 = .ok (.iload_n 3, 1) := by decide +kernel
theorem dX12_bad_142 : decode cX12_bad 142 = .ok (.bipush 8, 2) := by decide +kernel
theorem dX12_bad_144 : decode cX12_bad 144 = .ok (.idiv, 1) := by decide +kernel
theorem dX12_bad_145 : decode cX12_bad 145 = .ok (.iconst 1, 1) := by decide +kernel
theorem dX12_bad_146 : decode cX12_bad 146 = .ok (.if_icmp .ne 7, 3) := by decide +kernel
theorem dX12_bad_149 : decode cX12_bad 149 = .ok (.iconst 1, 1) := by decide +kernel
theorem dX12_bad_150 : decode cX12_bad 150 = .ok (.goto 4, 3) := by decide +kernel
theorem dX12_bad_153 : decode cX12_bad 153 = .ok (.iconst 0, 1) := by decide +kernel
theorem dX12_bad_154 : decode cX12_bad 154 = .ok (.bastore, 1) := by decide +kernel
theorem dX12_bad_155 : decode cX12_bad 155 = .ok (.iinc 2 1, 3) := by decide +kernel
theorem dX12_bad_158 : decode cX12_bad 158 = .ok (.goto (-133), 3) := by decide +kernel
theorem dX12_bad_161 : decode cX12_bad 161 = .ok (.lconst 0, 1) := by decide +kernel
theorem dX12_bad_162 : decode cX12_bad 162 = .ok (.lstore_n 2, 1) := by decide +kernel
theorem dX12_bad_163 : decode cX12_bad 163 = .ok (.iconst 0, 1) := by decide +kernel
theorem dX12_bad_164 : decode cX12_bad 164 = .ok (.istore 4, 2) := by decide +kernel
theorem dX12_bad_166 : decode cX12_bad 166 = .ok (.iload 4, 2) := by decide +kernel
theorem dX12_bad_168 : decode cX12_bad 168 = .ok (.bipush 64, 2) := by decide +kernel
theorem dX12_bad_170 : decode cX12_bad 170 = .ok (.if_icmp .ge 30, 3) := by decide +kernel
theorem dX12_bad_173 : decode cX12_bad 173 = .ok (.lload_n 2, 1) := by decide +kernel
theorem dX12_bad_174 : decode cX12_bad 174 = .ok (.aload_n 0, 1) := by decide +kernel
theorem dX12_bad_175 : decode cX12_bad 175 = .ok (.getfield 41, 3) := by decide +kernel
theorem dX12_bad_178 : decode cX12_bad 178 = .ok (.iload 4, 2) := by decide +kernel
theorem dX12_bad_180 : decode cX12_bad 180 = .ok (.baload, 1) := by decide +kernel
theorem dX12_bad_181 : decode cX12_bad 181 = .ok (.ifCond .eq 10, 3) := by decide +kernel
theorem dX12_bad_184 : decode cX12_bad 184 = .ok (.lconst 1, 1) := by decide +kernel
theorem dX12_bad_185 : decode cX12_bad 185 = .ok (.iload 4, 2) := by decide +kernel
theorem dX12_bad_187 : decode cX12_bad 187 = .ok (.lshl, 1) := by decide +kernel
theorem dX12_bad_188 : decode cX12_bad 188 = .ok (.goto 4, 3) := by decide +kernel
theorem dX12_bad_191 : decode cX12_bad 191 = .ok (.lconst 0, 1) := by decide +kernel
theorem dX12_bad_192 : decode cX12_bad 192 = .ok (.lor, 1) := by decide +kernel
theorem dX12_bad_193 : decode cX12_bad 193 = .ok (.lstore_n 2, 1) := by decide +kernel
theorem dX12_bad_194 : decode cX12_bad 194 = .ok (.iinc 4 1, 3) := by decide +kernel
theorem dX12_bad_197 : decode cX12_bad 197 = .ok (.goto (-31), 3) := by decide +kernel
theorem dX12_bad_200 : decode cX12_bad 200 = .ok (.lload_n 2, 1) := by decide +kernel
theorem dX12_bad_201 : decode cX12_bad 201 = .ok (.lreturn, 1) := by decide +kernel
theorem dX12_doubted_0 : decode cX12_doubted 0 = .ok (.aload_n 0, 1) := by decide +kernel
theorem dX12_doubted_1 : decode cX12_doubted 1 = .ok (.iconst 0, 1) := by decide +kernel
theorem dX12_doubted_2 : decode cX12_doubted 2 = .ok (.putfield 3, 3) := by decide +kernel
theorem dX12_doubted_5 : decode cX12_doubted 5 = .ok (.aload_n 0, 1) := by decide +kernel
theorem dX12_doubted_6 : decode cX12_doubted 6 = .ok (.invokevirtual 320, 3) := by decide +kernel
theorem dX12_doubted_9 : decode cX12_doubted 9 = .ok (.lreturn, 1) := by decide +kernel
theorem dX12_isSure_0 : decode cX12_isSure 0 = .ok (.iconst 1, 1) := by decide +kernel
theorem dX12_isSure_1 : decode cX12_isSure 1 = .ok (.iload_n 1, 1) := by decide +kernel
theorem dX12_isSure_2 : decode cX12_isSure 2 = .ok (.ishl, 1) := by decide +kernel
theorem dX12_isSure_3 : decode cX12_isSure 3 = .ok (.istore_n 2, 1) := by decide +kernel
theorem dX12_isSure_4 : decode cX12_isSure 4 = .ok (.iconst 0, 1) := by decide +kernel
theorem dX12_isSure_5 : decode cX12_isSure 5 = .ok (.istore_n 3, 1) := by decide +kernel
theorem dX12_isSure_6 : decode cX12_isSure 6 = .ok (.iload_n 3, 1) := by decide +kernel
theorem dX12_isSure_7 : decode cX12_isSure 7 = .ok (.bipush 12, 2) := by decide +kernel
theorem dX12_isSure_9 : decode cX12_isSure 9 = .ok (.if_icmp .ge 53, 3) := by decide +kernel
theorem dX12_isSure_12 : decode cX12_isSure 12 = .ok (.iconst 0, 1) := by decide +kernel
theorem dX12_isSure_13 : decode cX12_isSure 13 = .ok (.istore 4, 2) := by decide +kernel
theorem dX12_isSure_15 : decode cX12_isSure 15 = .ok (.iload 4, 2) := by decide +kernel
theorem dX12_isSure_17 : decode cX12_isSure 17 = .ok (.aload_n 0, 1) := by decide +kernel
theorem dX12_isSure_18 : decode cX12_isSure 18 = .ok (.getfield 14, 3) := by decide +kernel
theorem dX12_isSure_21 : decode cX12_isSure 21 = .ok (.bipush 8, 2) := by decide +kernel
theorem dX12_isSure_23 : decode cX12_isSure 23 = .ok (.iaload, 1) := by decide +kernel
theorem dX12_isSure_24 : decode cX12_isSure 24 = .ok (.if_icmp .ge 32, 3) := by decide +kernel
theorem dX12_isSure_27 : decode cX12_isSure 27 = .ok (.iload_n 2, 1) := by decide +kernel
theorem dX12_isSure_28 : decode cX12_isSure 28 = .ok (.iload_n 2, 1) := by decide +kernel
theorem dX12_isSure_29 : decode cX12_isSure 29 = .ok (.iload 4, 2) := by decide +kernel
theorem dX12_isSure_31 : decode cX12_isSure 31 = .ok (.ishr, 1) := by decide +kernel
theorem dX12_isSure_32 : decode cX12_isSure 32 = .ok (.iconst 1, 1) := by decide +kernel
theorem dX12_isSure_33 : decode cX12_isSure 33 = .ok (.iand, 1) := by decide +kernel
theorem dX12_isSure_34 : decode cX12_isSure 34 = .ok (.iconst 1, 1) := by decide +kernel
theorem dX12_isSure_35 : decode cX12_isSure 35 = .ok (.if_icmp .ne 12, 3) := by decide +kernel
theorem dX12_isSure_38 : decode cX12_isSure 38 = .ok (.aload_n 0, 1) := by decide +kernel
theorem dX12_isSure_39 : decode cX12_isSure 39 = .ok (.iload 4, 2) := by decide +kernel
theorem dX12_isSure_41 : decode cX12_isSure 41 = .ok (.invokevirtual 259, 3) := by decide +kernel
theorem dX12_isSure_44 : decode cX12_isSure 44 = .ok (.goto 4, 3) := by decide +kernel
theorem dX12_isSure_47 : decode cX12_isSure 47 = .ok (.iconst 0, 1) := by decide +kernel
theorem dX12_isSure_48 : decode cX12_isSure 48 = .ok (.ior, 1) := by decide +kernel
theorem dX12_isSure_49 : decode cX12_isSure 49 = .ok (.istore_n 2, 1) := by decide +kernel
theorem dX12_isSure_50 : decode cX12_isSure 50 = .ok (.iinc 4 1, 3) := by decide +kernel
theorem dX12_isSure_53 : decode cX12_isSure 53 = .ok (.goto (-38), 3) := by decide +kernel
theorem dX12_isSure_56 : decode cX12_isSure 56 = .ok (.iinc 3 1, 3) := by decide +kernel
theorem dX12_isSure_59 : decode cX12_isSure 59 = .ok (.goto (-53), 3) := by decide +kernel
theorem dX12_isSure_62 : decode cX12_isSure 62 = .ok (.aload_n 0, 1) := by decide +kernel
theorem dX12_isSure_63 : decode cX12_isSure 63 = .ok (.invokevirtual 320, 3) := by decide +kernel
theorem dX12_isSure_66 : decode cX12_isSure 66 = .ok (.lstore_n 3, 1) := by decide +kernel
theorem dX12_isSure_67 : decode cX12_isSure 67 = .ok (.iconst 1, 1) := by decide +kernel
theorem dX12_isSure_68 : decode cX12_isSure 68 = .ok (.istore 5, 2) := by decide +kernel
theorem dX12_isSure_70 : decode cX12_isSure 70 = .ok (.iconst 0, 1) := by decide +kernel
theorem dX12_isSure_71 : decode cX12_isSure 71 = .ok (.istore 6, 2) := by decide +kernel
theorem dX12_isSure_73 : decode cX12_isSure 73 = .ok (.iload 6, 2) := by decide +kernel
theorem dX12_isSure_75 : decode cX12_isSure 75 = .ok (.aload_n 0, 1) := by decide +kernel
theorem dX12_isSure_76 : decode cX12_isSure 76 = .ok (.getfield 14, 3) := by decide +kernel
theorem dX12_isSure_79 : decode cX12_isSure 79 = .ok (.bipush 8, 2) := by decide +kernel
theorem dX12_isSure_81 : decode cX12_isSure 81 = .ok (.iaload, 1) := by decide +kernel
theorem dX12_isSure_82 : decode cX12_isSure 82 = .ok (.if_icmp .ge 69, 3) := by decide +kernel
theorem dX12_isSure_85 : decode cX12_isSure 85 = .ok (.iload 5, 2) := by decide +kernel
theorem dX12_isSure_87 : decode cX12_isSure 87 = .ok (.ifCond .eq 55, 3) := by decide +kernel
theorem dX12_isSure_90 : decode cX12_isSure 90 = .ok (.iload_n 2, 1) := by decide +kernel
theorem dX12_isSure_91 : decode cX12_isSure 91 = .ok (.iload 6, 2) := by decide +kernel
theorem dX12_isSure_93 : decode cX12_isSure 93 = .ok (.ishr, 1) := by decide +kernel
theorem dX12_isSure_94 : decode cX12_isSure 94 = .ok (.iconst 1, 1) := by decide +kernel
theorem dX12_isSure_95 : decode cX12_isSure 95 = .ok (.iand, 1) := by decide +kernel
theorem dX12_isSure_96 : decode cX12_isSure 96 = .ok (.ifCond .eq 42, 3) := by decide +kernel
theorem dX12_isSure_99 : decode cX12_isSure 99 = .ok (.aload_n 0, 1) := by decide +kernel
theorem dX12_isSure_100 : decode cX12_isSure 100 = .ok (.iload 6, 2) := by decide +kernel
theorem dX12_isSure_102 : decode cX12_isSure 102 = .ok (.bipush 8, 2) := by decide +kernel
theorem dX12_isSure_104 : decode cX12_isSure 104 = .ok (.invokevirtual 250, 3) := by decide +kernel
theorem dX12_isSure_107 : decode cX12_isSure 107 = .ok (.iconst 2, 1) := by decide +kernel
theorem dX12_isSure_108 : decode cX12_isSure 108 = .ok (.if_icmp .eq 15, 3) := by decide +kernel
theorem dX12_isSure_111 : decode cX12_isSure 111 = .ok (.aload_n 0, 1) := by decide +kernel
theorem dX12_isSure_112 : decode cX12_isSure 112 = .ok (.iload 6, 2) := by decide +kernel
theorem dX12_isSure_114 : decode cX12_isSure 114 = .ok (.bipush 8, 2) := by decide +kernel
theorem dX12_isSure_116 : decode cX12_isSure 116 = .ok (.invokevirtual 250, 3) := by decide +kernel
theorem dX12_isSure_119 : decode cX12_isSure 119 = .ok (.iconst 4, 1) := by decide +kernel
theorem dX12_isSure_120 : decode cX12_isSure 120 = .ok (.if_icmp .ne 22, 3) := by decide +kernel
theorem dX12_isSure_123 : decode cX12_isSure 123 = .ok (.aload_n 0, 1) := by decide +kernel
theorem dX12_isSure_124 : decode cX12_isSure 124 = .ok (.iload 6, 2) := by decide +kernel
theorem dX12_isSure_126 : decode cX12_isSure 126 = .ok (.bipush 19, 2) := by decide +kernel
theorem dX12_isSure_128 : decode cX12_isSure 128 = .ok (.invokevirtual 255, 3) := by decide +kernel
theorem dX12_isSure_131 : decode cX12_isSure 131 = .ok (.lload_n 3, 1) := by decide +kernel
theorem dX12_isSure_132 : decode cX12_isSure 132 = .ok (.land, 1) := by decide +kernel
theorem dX12_isSure_133 : decode cX12_isSure 133 = .ok (.lconst 0, 1) := by decide +kernel
theorem dX12_isSure_134 : decode cX12_isSure 134 = .ok (.lcmp, 1) := by decide +kernel
theorem dX12_isSure_135 : decode cX12_isSure 135 = .ok (.ifCond .ne 7, 3) := by decide +kernel
theorem dX12_isSure_138 : decode cX12_isSure 138 = .ok (.iconst 1, 1) := by decide +kernel
theorem dX12_isSure_139 : decode cX12_isSure 139 = .ok (.goto 4, 3) := by decide +kernel
theorem dX12_isSure_142 : decode cX12_isSure 142 = .ok (.iconst 0, 1) := by decide +kernel
theorem dX12_isSure_143 : decode cX12_isSure 143 = .ok (.istore 5, 2) := by decide +kernel
theorem dX12_isSure_145 : decode cX12_isSure 145 = .ok (.iinc 6 1, 3) := by decide +kernel
theorem dX12_isSure_148 : decode cX12_isSure 148 = .ok (.goto (-75), 3) := by decide +kernel
theorem dX12_isSure_151 : decode cX12_isSure 151 = .ok (.iload 5, 2) := by decide +kernel
theorem dX12_isSure_153 : decode cX12_isSure 153 = .ok (.ireturn, 1) := by decide +kernel
theorem dX12_doubt_0 : decode cX12_doubt 0 = .ok (.aload_n 0, 1) := by decide +kernel
theorem dX12_doubt_1 : decode cX12_doubt 1 = .ok (.iconst 0, 1) := by decide +kernel
theorem dX12_doubt_2 : decode cX12_doubt 2 = .ok (.putfield 3, 3) := by decide +kernel
theorem dX12_doubt_5 : decode cX12_doubt 5 = .ok (.aload_n 0, 1) := by decide +kernel
theorem dX12_doubt_6 : decode cX12_doubt 6 = .ok (.aload_n 0, 1) := by decide +kernel
theorem dX12_doubt_7 : decode cX12_doubt 7 = .ok (.iload_n 1, 1) := by decide +kernel
theorem dX12_doubt_8 : decode cX12_doubt 8 = .ok (.invokevirtual 247, 3) := by decide +kernel
theorem dX12_doubt_11 : decode cX12_doubt 11 = .ok (.iconst 1, 1) := by decide +kernel
theorem dX12_doubt_12 : decode cX12_doubt 12 = .ok (.invokevirtual 65, 3) := by decide +kernel
theorem dX12_doubt_15 : decode cX12_doubt 15 = .ok (.ifCond .ne 25, 3) := by decide +kernel
theorem dX12_doubt_18 : decode cX12_doubt 18 = .ok (.aload_n 0, 1) := by decide +kernel
theorem dX12_doubt_19 : decode cX12_doubt 19 = .ok (.iload_n 2, 1) := by decide +kernel
theorem dX12_doubt_20 : decode cX12_doubt 20 = .ok (.iconst 0, 1) := by decide +kernel
theorem dX12_doubt_21 : decode cX12_doubt 21 = .ok (.iconst 1, 1) := by decide +kernel
theorem dX12_doubt_22 : decode cX12_doubt 22 = .ok (.invokestatic 61, 3) := by decide +kernel
theorem dX12_doubt_25 : decode cX12_doubt 25 = .ok (.ifCond .ne 7, 3) := by decide +kernel
theorem dX12_doubt_28 : decode cX12_doubt 28 = .ok (.iconst 1, 1) := by decide +kernel
theorem dX12_doubt_29 : decode cX12_doubt 29 = .ok (.goto 4, 3) := by decide +kernel
theorem dX12_doubt_32 : decode cX12_doubt 32 = .ok (.iconst 0, 1) := by decide +kernel
theorem dX12_doubt_33 : decode cX12_doubt 33 = .ok (.iconst 2, 1) := by decide +kernel
theorem dX12_doubt_34 : decode cX12_doubt 34 = .ok (.invokevirtual 65, 3) := by decide +kernel
theorem dX12_doubt_37 : decode cX12_doubt 37 = .ok (.ifCond .eq 5, 3) := by decide +kernel
theorem dX12_doubt_40 : decode cX12_doubt 40 = .ok (.iconst 0, 1) := by decide +kernel
theorem dX12_doubt_41 : decode cX12_doubt 41 = .ok (.ireturn, 1) := by decide +kernel
theorem dX12_doubt_42 : decode cX12_doubt 42 = .ok (.iload_n 2, 1) := by decide +kernel
theorem dX12_doubt_43 : decode cX12_doubt 43 = .ok (.ifCond .ne 28, 3) := by decide +kernel
theorem dX12_doubt_46 : decode cX12_doubt 46 = .ok (.aload_n 0, 1) := by decide +kernel
theorem dX12_doubt_47 : decode cX12_doubt 47 = .ok (.iload_n 1, 1) := by decide +kernel
theorem dX12_doubt_48 : decode cX12_doubt 48 = .ok (.bipush 19, 2) := by decide +kernel
theorem dX12_doubt_50 : decode cX12_doubt 50 = .ok (.invokevirtual 255, 3) := by decide +kernel
theorem dX12_doubt_53 : decode cX12_doubt 53 = .ok (.aload_n 0, 1) := by decide +kernel
theorem dX12_doubt_54 : decode cX12_doubt 54 = .ok (.invokevirtual 320, 3) := by decide +kernel
theorem dX12_doubt_57 : decode cX12_doubt 57 = .ok (.land, 1) := by decide +kernel
theorem dX12_doubt_58 : decode cX12_doubt 58 = .ok (.lconst 0, 1) := by decide +kernel
theorem dX12_doubt_59 : decode cX12_doubt 59 = .ok (.lcmp, 1) := by decide +kernel
theorem dX12_doubt_60 : decode cX12_doubt 60 = .ok (.ifCond .eq 7, 3) := by decide +kernel
theorem dX12_doubt_63 : decode cX12_doubt 63 = .ok (.iconst 1, 1) := by decide +kernel
theorem dX12_doubt_64 : decode cX12_doubt 64 = .ok (.goto 12, 3) := by decide +kernel
theorem dX12_doubt_67 : decode cX12_doubt 67 = .ok (.iconst 0, 1) := by decide +kernel
theorem dX12_doubt_68 : decode cX12_doubt 68 = .ok (.goto 8, 3) := by decide +kernel
theorem dX12_doubt_71 : decode cX12_doubt 71 = .ok (.aload_n 0, 1) := by decide +kernel
theorem dX12_doubt_72 : decode cX12_doubt 72 = .ok (.iload_n 1, 1) := by decide +kernel
theorem dX12_doubt_73 : decode cX12_doubt 73 = .ok (.invokevirtual 324, 3) := by decide +kernel
theorem dX12_doubt_76 : decode cX12_doubt 76 = .ok (.ireturn, 1) := by decide +kernel
theorem dX12_wanted_0 : decode cX12_wanted 0 = .ok (.aload_n 0, 1) := by decide +kernel
theorem dX12_wanted_1 : decode cX12_wanted 1 = .ok (.iconst 0, 1) := by decide +kernel
theorem dX12_wanted_2 : decode cX12_wanted 2 = .ok (.putfield 3, 3) := by decide +kernel
theorem dX12_wanted_5 : decode cX12_wanted 5 = .ok (.aload_n 0, 1) := by decide +kernel
theorem dX12_wanted_6 : decode cX12_wanted 6 = .ok (.iload_n 1, 1) := by decide +kernel
theorem dX12_wanted_7 : decode cX12_wanted 7 = .ok (.invokestatic 90, 3) := by decide +kernel
theorem dX12_wanted_10 : decode cX12_wanted 10 = .ok (.ifCond .ne 10, 3) := by decide +kernel
theorem dX12_wanted_13 : decode cX12_wanted 13 = .ok (.iload_n 2, 1) := by decide +kernel
theorem dX12_wanted_14 : decode cX12_wanted 14 = .ok (.invokestatic 93, 3) := by decide +kernel
theorem dX12_wanted_17 : decode cX12_wanted 17 = .ok (.ifCond .eq 7, 3) := by decide +kernel
theorem dX12_wanted_20 : decode cX12_wanted 20 = .ok (.iconst 1, 1) := by decide +kernel
theorem dX12_wanted_21 : decode cX12_wanted 21 = .ok (.goto 4, 3) := by decide +kernel
theorem dX12_wanted_24 : decode cX12_wanted 24 = .ok (.iconst 0, 1) := by decide +kernel
theorem dX12_wanted_25 : decode cX12_wanted 25 = .ok (.iconst 1, 1) := by decide +kernel
theorem dX12_wanted_26 : decode cX12_wanted 26 = .ok (.invokevirtual 65, 3) := by decide +kernel
theorem dX12_wanted_29 : decode cX12_wanted 29 = .ok (.ifCond .ne 48, 3) := by decide +kernel
theorem dX12_wanted_32 : decode cX12_wanted 32 = .ok (.aload_n 0, 1) := by decide +kernel
theorem dX12_wanted_33 : decode cX12_wanted 33 = .ok (.iload_n 3, 1) := by decide +kernel
theorem dX12_wanted_34 : decode cX12_wanted 34 = .ok (.iconst 0, 1) := by decide +kernel
theorem dX12_wanted_35 : decode cX12_wanted 35 = .ok (.bipush 6, 2) := by decide +kernel
theorem dX12_wanted_37 : decode cX12_wanted 37 = .ok (.invokestatic 61, 3) := by decide +kernel
theorem dX12_wanted_40 : decode cX12_wanted 40 = .ok (.ifCond .eq 25, 3) := by decide +kernel
theorem dX12_wanted_43 : decode cX12_wanted 43 = .ok (.iload 4, 2) := by decide +kernel
theorem dX12_wanted_45 : decode cX12_wanted 45 = .ok (.iconst 0, 1) := by decide +kernel
theorem dX12_wanted_46 : decode cX12_wanted 46 = .ok (.bipush 9, 2) := by decide +kernel
theorem dX12_wanted_48 : decode cX12_wanted 48 = .ok (.invokestatic 61, 3) := by decide +kernel
theorem dX12_wanted_51 : decode cX12_wanted 51 = .ok (.ifCond .eq 14, 3) := by decide +kernel
theorem dX12_wanted_54 : decode cX12_wanted 54 = .ok (.iload 5, 2) := by decide +kernel
theorem dX12_wanted_56 : decode cX12_wanted 56 = .ok (.iconst 0, 1) := by decide +kernel
theorem dX12_wanted_57 : decode cX12_wanted 57 = .ok (.ldc 96, 2) := by decide +kernel
theorem dX12_wanted_59 : decode cX12_wanted 59 = .ok (.invokestatic 61, 3) := by decide +kernel
theorem dX12_wanted_62 : decode cX12_wanted 62 = .ok (.ifCond .ne 7, 3) := by decide +kernel
theorem dX12_wanted_65 : decode cX12_wanted 65 = .ok (.iconst 1, 1) := by decide +kernel
theorem dX12_wanted_66 : decode cX12_wanted 66 = .ok (.goto 4, 3) := by decide +kernel
theorem dX12_wanted_69 : decode cX12_wanted 69 = .ok (.iconst 0, 1) := by decide +kernel
theorem dX12_wanted_70 : decode cX12_wanted 70 = .ok (.iconst 2, 1) := by decide +kernel
theorem dX12_wanted_71 : decode cX12_wanted 71 = .ok (.invokevirtual 65, 3) := by decide +kernel
theorem dX12_wanted_74 : decode cX12_wanted 74 = .ok (.ifCond .eq 5, 3) := by decide +kernel
theorem dX12_wanted_77 : decode cX12_wanted 77 = .ok (.iconst 0, 1) := by decide +kernel
theorem dX12_wanted_78 : decode cX12_wanted 78 = .ok (.ireturn, 1) := by decide +kernel
theorem dX12_wanted_79 : decode cX12_wanted 79 = .ok (.aload_n 0, 1) := by decide +kernel
theorem dX12_wanted_80 : decode cX12_wanted 80 = .ok (.getfield 14, 3) := by decide +kernel
theorem dX12_wanted_83 : decode cX12_wanted 83 = .ok (.sipush 10753, 3) := by decide +kernel
theorem dX12_wanted_86 : decode cX12_wanted 86 = .ok (.iaload, 1) := by decide +kernel
theorem dX12_wanted_87 : decode cX12_wanted 87 = .ok (.istore 6, 2) := by decide +kernel
theorem dX12_wanted_89 : decode cX12_wanted 89 = .ok (.iload 6, 2) := by decide +kernel
theorem dX12_wanted_91 : decode cX12_wanted 91 = .ok (.bipush 100, 2) := by decide +kernel
theorem dX12_wanted_93 : decode cX12_wanted 93 = .ok (.if_icmp .ne 5, 3) := by decide +kernel
theorem dX12_wanted_96 : decode cX12_wanted 96 = .ok (.iconst (-1), 1) := by decide +kernel
theorem dX12_wanted_97 : decode cX12_wanted 97 = .ok (.ireturn, 1) := by decide +kernel
theorem dX12_wanted_98 : decode cX12_wanted 98 = .ok (.aload_n 0, 1) := by decide +kernel
theorem dX12_wanted_99 : decode cX12_wanted 99 = .ok (.getfield 14, 3) := by decide +kernel
theorem dX12_wanted_102 : decode cX12_wanted 102 = .ok (.sipush 10754, 3) := by decide +kernel
theorem dX12_wanted_105 : decode cX12_wanted 105 = .ok (.iconst 5, 1) := by decide +kernel
theorem dX12_wanted_106 : decode cX12_wanted 106 = .ok (.iload 6, 2) := by decide +kernel
theorem dX12_wanted_108 : decode cX12_wanted 108 = .ok (.imul, 1) := by decide +kernel
theorem dX12_wanted_109 : decode cX12_wanted 109 = .ok (.iadd, 1) := by decide +kernel
theorem dX12_wanted_110 : decode cX12_wanted 110 = .ok (.iload_n 1, 1) := by decide +kernel
theorem dX12_wanted_111 : decode cX12_wanted 111 = .ok (.iastore, 1) := by decide +kernel
theorem dX12_wanted_112 : decode cX12_wanted 112 = .ok (.aload_n 0, 1) := by decide +kernel
theorem dX12_wanted_113 : decode cX12_wanted 113 = .ok (.getfield 14, 3) := by decide +kernel
theorem dX12_wanted_116 : decode cX12_wanted 116 = .ok (.sipush 10754, 3) := by decide +kernel
theorem dX12_wanted_119 : decode cX12_wanted 119 = .ok (.iconst 5, 1) := by decide +kernel
theorem dX12_wanted_120 : decode cX12_wanted 120 = .ok (.iload 6, 2) := by decide +kernel
theorem dX12_wanted_122 : decode cX12_wanted 122 = .ok (.imul, 1) := by decide +kernel
theorem dX12_wanted_123 : decode cX12_wanted 123 = .ok (.iadd, 1) := by decide +kernel
theorem dX12_wanted_124 : decode cX12_wanted 124 = .ok (.iconst 1, 1) := by decide +kernel
theorem dX12_wanted_125 : decode cX12_wanted 125 = .ok (.iadd, 1) := by decide +kernel
theorem dX12_wanted_126 : decode cX12_wanted 126 = .ok (.iload_n 2, 1) := by decide +kernel
theorem dX12_wanted_127 : decode cX12_wanted 127 = .ok (.iastore, 1) := by decide +kernel
theorem dX12_wanted_128 : decode cX12_wanted 128 = .ok (.aload_n 0, 1) := by decide +kernel
theorem dX12_wanted_129 : decode cX12_wanted 129 = .ok (.getfield 14, 3) := by decide +kernel
theorem dX12_wanted_132 : decode cX12_wanted 132 = .ok (.sipush 10754, 3) := by decide +kernel
theorem dX12_wanted_135 : decode cX12_wanted 135 = .ok (.iconst 5, 1) := by decide +kernel
theorem dX12_wanted_136 : decode cX12_wanted 136 = .ok (.iload 6, 2) := by decide +kernel
theorem dX12_wanted_138 : decode cX12_wanted 138 = .ok (.imul, 1) := by decide +kernel
theorem dX12_wanted_139 : decode cX12_wanted 139 = .ok (.iadd, 1) := by decide +kernel
theorem dX12_wanted_140 : decode cX12_wanted 140 = .ok (.iconst 2, 1) := by decide +kernel
theorem dX12_wanted_141 : decode cX12_wanted 141 = .ok (.iadd, 1) := by decide +kernel
theorem dX12_wanted_142 : decode cX12_wanted 142 = .ok (.iload_n 3, 1) := by decide +kernel
theorem dX12_wanted_143 : decode cX12_wanted 143 = .ok (.iastore, 1) := by decide +kernel
theorem dX12_wanted_144 : decode cX12_wanted 144 = .ok (.aload_n 0, 1) := by decide +kernel
theorem dX12_wanted_145 : decode cX12_wanted 145 = .ok (.getfield 14, 3) := by decide +kernel
theorem dX12_wanted_148 : decode cX12_wanted 148 = .ok (.sipush 10754, 3) := by decide +kernel
theorem dX12_wanted_151 : decode cX12_wanted 151 = .ok (.iconst 5, 1) := by decide +kernel
theorem dX12_wanted_152 : decode cX12_wanted 152 = .ok (.iload 6, 2) := by decide +kernel
theorem dX12_wanted_154 : decode cX12_wanted 154 = .ok (.imul, 1) := by decide +kernel
theorem dX12_wanted_155 : decode cX12_wanted 155 = .ok (.iadd, 1) := by decide +kernel
theorem dX12_wanted_156 : decode cX12_wanted 156 = .ok (.iconst 3, 1) := by decide +kernel
theorem dX12_wanted_157 : decode cX12_wanted 157 = .ok (.iadd, 1) := by decide +kernel
theorem dX12_wanted_158 : decode cX12_wanted 158 = .ok (.iload 4, 2) := by decide +kernel
theorem dX12_wanted_160 : decode cX12_wanted 160 = .ok (.iastore, 1) := by decide +kernel
theorem dX12_wanted_161 : decode cX12_wanted 161 = .ok (.aload_n 0, 1) := by decide +kernel
theorem dX12_wanted_162 : decode cX12_wanted 162 = .ok (.getfield 14, 3) := by decide +kernel
theorem dX12_wanted_165 : decode cX12_wanted 165 = .ok (.sipush 10754, 3) := by decide +kernel
theorem dX12_wanted_168 : decode cX12_wanted 168 = .ok (.iconst 5, 1) := by decide +kernel
theorem dX12_wanted_169 : decode cX12_wanted 169 = .ok (.iload 6, 2) := by decide +kernel
theorem dX12_wanted_171 : decode cX12_wanted 171 = .ok (.imul, 1) := by decide +kernel
theorem dX12_wanted_172 : decode cX12_wanted 172 = .ok (.iadd, 1) := by decide +kernel
theorem dX12_wanted_173 : decode cX12_wanted 173 = .ok (.iconst 4, 1) := by decide +kernel
theorem dX12_wanted_174 : decode cX12_wanted 174 = .ok (.iadd, 1) := by decide +kernel
theorem dX12_wanted_175 : decode cX12_wanted 175 = .ok (.iload 5, 2) := by decide +kernel
theorem dX12_wanted_177 : decode cX12_wanted 177 = .ok (.iastore, 1) := by decide +kernel
theorem dX12_wanted_178 : decode cX12_wanted 178 = .ok (.aload_n 0, 1) := by decide +kernel
theorem dX12_wanted_179 : decode cX12_wanted 179 = .ok (.getfield 14, 3) := by decide +kernel
theorem dX12_wanted_182 : decode cX12_wanted 182 = .ok (.sipush 10753, 3) := by decide +kernel
theorem dX12_wanted_185 : decode cX12_wanted 185 = .ok (.dup2, 1) := by decide +kernel
theorem dX12_wanted_186 : decode cX12_wanted 186 = .ok (.iaload, 1) := by decide +kernel
theorem dX12_wanted_187 : decode cX12_wanted 187 = .ok (.iconst 1, 1) := by decide +kernel
theorem dX12_wanted_188 : decode cX12_wanted 188 = .ok (.iadd, 1) := by decide +kernel
theorem dX12_wanted_189 : decode cX12_wanted 189 = .ok (.iastore, 1) := by decide +kernel
theorem dX12_wanted_190 : decode cX12_wanted 190 = .ok (.iload 6, 2) := by decide +kernel
theorem dX12_wanted_192 : decode cX12_wanted 192 = .ok (.iconst 1, 1) := by decide +kernel
theorem dX12_wanted_193 : decode cX12_wanted 193 = .ok (.iadd, 1) := by decide +kernel
theorem dX12_wanted_194 : decode cX12_wanted 194 = .ok (.ireturn, 1) := by decide +kernel
theorem dX12_foresees_0 : decode cX12_foresees 0 = .ok (.aload_n 0, 1) := by decide +kernel
theorem dX12_foresees_1 : decode cX12_foresees 1 = .ok (.iconst 0, 1) := by decide +kernel
theorem dX12_foresees_2 : decode cX12_foresees 2 = .ok (.putfield 327, 3) := by decide +kernel
theorem dX12_foresees_5 : decode cX12_foresees 5 = .ok (.aload_n 0, 1) := by decide +kernel
theorem dX12_foresees_6 : decode cX12_foresees 6 = .ok (.iconst 0, 1) := by decide +kernel
theorem dX12_foresees_7 : decode cX12_foresees 7 = .ok (.putfield 330, 3) := by decide +kernel
theorem dX12_foresees_10 : decode cX12_foresees 10 = .ok (.aload_n 0, 1) := by decide +kernel
theorem dX12_foresees_11 : decode cX12_foresees 11 = .ok (.iconst 0, 1) := by decide +kernel
theorem dX12_foresees_12 : decode cX12_foresees 12 = .ok (.putfield 333, 3) := by decide +kernel
theorem dX12_foresees_15 : decode cX12_foresees 15 = .ok (.aload_n 0, 1) := by decide +kernel
theorem dX12_foresees_16 : decode cX12_foresees 16 = .ok (.iconst (-1), 1) := by decide +kernel
theorem dX12_foresees_17 : decode cX12_foresees 17 = .ok (.putfield 336, 3) := by decide +kernel
theorem dX12_foresees_20 : decode cX12_foresees 20 = .ok (.aload_n 0, 1) := by decide +kernel
theorem dX12_foresees_21 : decode cX12_foresees 21 = .ok (.iconst (-1), 1) := by decide +kernel
theorem dX12_foresees_22 : decode cX12_foresees 22 = .ok (.putfield 339, 3) := by decide +kernel
theorem dX12_foresees_25 : decode cX12_foresees 25 = .ok (.aload_n 0, 1) := by decide +kernel
theorem dX12_foresees_26 : decode cX12_foresees 26 = .ok (.getfield 14, 3) := by decide +kernel
theorem dX12_foresees_29 : decode cX12_foresees 29 = .ok (.sipush 10753, 3) := by decide +kernel
theorem dX12_foresees_32 : decode cX12_foresees 32 = .ok (.iaload, 1) := by decide +kernel
theorem dX12_foresees_33 : decode cX12_foresees 33 = .ok (.iconst 1, 1) := by decide +kernel
theorem dX12_foresees_34 : decode cX12_foresees 34 = .ok (.isub, 1) := by decide +kernel
theorem dX12_foresees_35 : decode cX12_foresees 35 = .ok (.istore_n 3, 1) := by decide +kernel
theorem dX12_foresees_36 : decode cX12_foresees 36 = .ok (.iload_n 3, 1) := by decide +kernel
theorem dX12_foresees_37 : decode cX12_foresees 37 = .ok (.ifCond .lt 176, 3) := by decide +kernel
theorem dX12_foresees_40 : decode cX12_foresees 40 = .ok (.aload_n 0, 1) := by decide +kernel
theorem dX12_foresees_41 : decode cX12_foresees 41 = .ok (.getfield 327, 3) := by decide +kernel
theorem dX12_foresees_44 : decode cX12_foresees 44 = .ok (.iconst 4, 1) := by decide +kernel
theorem dX12_foresees_45 : decode cX12_foresees 45 = .ok (.if_icmp .ge 168, 3) := by decide +kernel
theorem dX12_foresees_48 : decode cX12_foresees 48 = .ok (.sipush 10754, 3) := by decide +kernel
theorem dX12_foresees_51 : decode cX12_foresees 51 = .ok (.iconst 5, 1) := by decide +kernel
theorem dX12_foresees_52 : decode cX12_foresees 52 = .ok (.iload_n 3, 1) := by decide +kernel
theorem dX12_foresees_53 : decode cX12_foresees 53 = .ok (.imul, 1) := by decide +kernel
theorem dX12_foresees_54 : decode cX12_foresees 54 = .ok (.iadd, 1) := by decide +kernel
theorem dX12_foresees_55 : decode cX12_foresees 55 = .ok (.istore 4, 2) := by decide +kernel
theorem dX12_foresees_57 : decode cX12_foresees 57 = .ok (.aload_n 0, 1) := by decide +kernel
theorem dX12_foresees_58 : decode cX12_foresees 58 = .ok (.getfield 14, 3) := by decide +kernel
theorem dX12_foresees_61 : decode cX12_foresees 61 = .ok (.iload 4, 2) := by decide +kernel
theorem dX12_foresees_63 : decode cX12_foresees 63 = .ok (.iaload, 1) := by decide +kernel
theorem dX12_foresees_64 : decode cX12_foresees 64 = .ok (.iload_n 1, 1) := by decide +kernel
theorem dX12_foresees_65 : decode cX12_foresees 65 = .ok (.if_icmp .ne 142, 3) := by decide +kernel
theorem dX12_foresees_68 : decode cX12_foresees 68 = .ok (.aload_n 0, 1) := by decide +kernel
theorem dX12_foresees_69 : decode cX12_foresees 69 = .ok (.getfield 14, 3) := by decide +kernel
theorem dX12_foresees_72 : decode cX12_foresees 72 = .ok (.iload 4, 2) := by decide +kernel
theorem dX12_foresees_74 : decode cX12_foresees 74 = .ok (.iconst 1, 1) := by decide +kernel
theorem dX12_foresees_75 : decode cX12_foresees 75 = .ok (.iadd, 1) := by decide +kernel
theorem dX12_foresees_76 : decode cX12_foresees 76 = .ok (.iaload, 1) := by decide +kernel
theorem dX12_foresees_77 : decode cX12_foresees 77 = .ok (.iload_n 2, 1) := by decide +kernel
theorem dX12_foresees_78 : decode cX12_foresees 78 = .ok (.if_icmp .ne 129, 3) := by decide +kernel
theorem dX12_foresees_81 : decode cX12_foresees 81 = .ok (.aload_n 0, 1) := by decide +kernel
theorem dX12_foresees_82 : decode cX12_foresees 82 = .ok (.getfield 14, 3) := by decide +kernel
theorem dX12_foresees_85 : decode cX12_foresees 85 = .ok (.iload 4, 2) := by decide +kernel
theorem dX12_foresees_87 : decode cX12_foresees 87 = .ok (.iconst 2, 1) := by decide +kernel
theorem dX12_foresees_88 : decode cX12_foresees 88 = .ok (.iadd, 1) := by decide +kernel
theorem dX12_foresees_89 : decode cX12_foresees 89 = .ok (.iaload, 1) := by decide +kernel
theorem dX12_foresees_90 : decode cX12_foresees 90 = .ok (.aload_n 0, 1) := by decide +kernel
theorem dX12_foresees_91 : decode cX12_foresees 91 = .ok (.getfield 14, 3) := by decide +kernel
theorem dX12_foresees_94 : decode cX12_foresees 94 = .ok (.iconst 1, 1) := by decide +kernel
theorem dX12_foresees_95 : decode cX12_foresees 95 = .ok (.iaload, 1) := by decide +kernel
theorem dX12_foresees_96 : decode cX12_foresees 96 = .ok (.if_icmp .eq 6, 3) := by decide +kernel
theorem dX12_foresees_99 : decode cX12_foresees 99 = .ok (.goto 108, 3) := by decide +kernel
theorem dX12_foresees_102 : decode cX12_foresees 102 = .ok (.aload_n 0, 1) := by decide +kernel
theorem dX12_foresees_103 : decode cX12_foresees 103 = .ok (.dup, 1) := by decide +kernel
theorem dX12_foresees_104 : decode cX12_foresees 104 = .ok (.getfield 327, 3) := by decide +kernel
theorem dX12_foresees_107 : decode cX12_foresees 107 = .ok (.iconst 1, 1) := by decide +kernel
theorem dX12_foresees_108 : decode cX12_foresees 108 = .ok (.iadd, 1) := by decide +kernel
theorem dX12_foresees_109 : decode cX12_foresees 109 = .ok (.putfield 327, 3) := by decide +kernel
theorem dX12_foresees_112 : decode cX12_foresees 112 = .ok (.aload_n 0, 1) := by decide +kernel
theorem dX12_foresees_113 : decode cX12_foresees 113 = .ok (.dup, 1) := by decide +kernel
theorem dX12_foresees_114 : decode cX12_foresees 114 = .ok (.getfield 330, 3) := by decide +kernel
theorem dX12_foresees_117 : decode cX12_foresees 117 = .ok (.aload_n 0, 1) := by decide +kernel
theorem dX12_foresees_118 : decode cX12_foresees 118 = .ok (.getfield 14, 3) := by decide +kernel
theorem dX12_foresees_121 : decode cX12_foresees 121 = .ok (.iload 4, 2) := by decide +kernel
theorem dX12_foresees_123 : decode cX12_foresees 123 = .ok (.iconst 4, 1) := by decide +kernel
theorem dX12_foresees_124 : decode cX12_foresees 124 = .ok (.iadd, 1) := by decide +kernel
theorem dX12_foresees_125 : decode cX12_foresees 125 = .ok (.iaload, 1) := by decide +kernel
theorem dX12_foresees_126 : decode cX12_foresees 126 = .ok (.iadd, 1) := by decide +kernel
theorem dX12_foresees_127 : decode cX12_foresees 127 = .ok (.putfield 330, 3) := by decide +kernel
theorem dX12_foresees_130 : decode cX12_foresees 130 = .ok (.aload_n 0, 1) := by decide +kernel
theorem dX12_foresees_131 : decode cX12_foresees 131 = .ok (.dup, 1) := by decide +kernel
theorem dX12_foresees_132 : decode cX12_foresees 132 = .ok (.getfield 333, 3) := by decide +kernel
theorem dX12_foresees_135 : decode cX12_foresees 135 = .ok (.aload_n 0, 1) := by decide +kernel
theorem dX12_foresees_136 : decode cX12_foresees 136 = .ok (.getfield 14, 3) := by decide +kernel
theorem dX12_foresees_139 : decode cX12_foresees 139 = .ok (.iload 4, 2) := by decide +kernel
theorem dX12_foresees_141 : decode cX12_foresees 141 = .ok (.iconst 3, 1) := by decide +kernel
theorem dX12_foresees_142 : decode cX12_foresees 142 = .ok (.iadd, 1) := by decide +kernel
theorem dX12_foresees_143 : decode cX12_foresees 143 = .ok (.iaload, 1) := by decide +kernel
theorem dX12_foresees_144 : decode cX12_foresees 144 = .ok (.iadd, 1) := by decide +kernel
theorem dX12_foresees_145 : decode cX12_foresees 145 = .ok (.putfield 333, 3) := by decide +kernel
theorem dX12_foresees_148 : decode cX12_foresees 148 = .ok (.aload_n 0, 1) := by decide +kernel
theorem dX12_foresees_149 : decode cX12_foresees 149 = .ok (.aload_n 0, 1) := by decide +kernel
theorem dX12_foresees_150 : decode cX12_foresees 150 = .ok (.getfield 336, 3) := by decide +kernel
theorem dX12_foresees_153 : decode cX12_foresees 153 = .ok (.ifCond .ge 15, 3) := by decide +kernel
theorem dX12_foresees_156 : decode cX12_foresees 156 = .ok (.aload_n 0, 1) := by decide +kernel
theorem dX12_foresees_157 : decode cX12_foresees 157 = .ok (.getfield 14, 3) := by decide +kernel
theorem dX12_foresees_160 : decode cX12_foresees 160 = .ok (.iload 4, 2) := by decide +kernel
theorem dX12_foresees_162 : decode cX12_foresees 162 = .ok (.iconst 4, 1) := by decide +kernel
theorem dX12_foresees_163 : decode cX12_foresees 163 = .ok (.iadd, 1) := by decide +kernel
theorem dX12_foresees_164 : decode cX12_foresees 164 = .ok (.iaload, 1) := by decide +kernel
theorem dX12_foresees_165 : decode cX12_foresees 165 = .ok (.goto 19, 3) := by decide +kernel
theorem dX12_foresees_168 : decode cX12_foresees 168 = .ok (.aload_n 0, 1) := by decide +kernel
theorem dX12_foresees_169 : decode cX12_foresees 169 = .ok (.getfield 336, 3) := by decide +kernel
theorem dX12_foresees_172 : decode cX12_foresees 172 = .ok (.aload_n 0, 1) := by decide +kernel
theorem dX12_foresees_173 : decode cX12_foresees 173 = .ok (.getfield 14, 3) := by decide +kernel
theorem dX12_foresees_176 : decode cX12_foresees 176 = .ok (.iload 4, 2) := by decide +kernel
theorem dX12_foresees_178 : decode cX12_foresees 178 = .ok (.iconst 4, 1) := by decide +kernel
theorem dX12_foresees_179 : decode cX12_foresees 179 = .ok (.iadd, 1) := by decide +kernel
theorem dX12_foresees_180 : decode cX12_foresees 180 = .ok (.iaload, 1) := by decide +kernel
theorem dX12_foresees_181 : decode cX12_foresees 181 = .ok (.invokestatic 342, 3) := by decide +kernel
theorem dX12_foresees_184 : decode cX12_foresees 184 = .ok (.putfield 336, 3) := by decide +kernel
theorem dX12_foresees_187 : decode cX12_foresees 187 = .ok (.aload_n 0, 1) := by decide +kernel
theorem dX12_foresees_188 : decode cX12_foresees 188 = .ok (.aload_n 0, 1) := by decide +kernel
theorem dX12_foresees_189 : decode cX12_foresees 189 = .ok (.getfield 339, 3) := by decide +kernel
theorem dX12_foresees_192 : decode cX12_foresees 192 = .ok (.aload_n 0, 1) := by decide +kernel
theorem dX12_foresees_193 : decode cX12_foresees 193 = .ok (.getfield 14, 3) := by decide +kernel
theorem dX12_foresees_196 : decode cX12_foresees 196 = .ok (.iload 4, 2) := by decide +kernel
theorem dX12_foresees_198 : decode cX12_foresees 198 = .ok (.iconst 4, 1) := by decide +kernel
theorem dX12_foresees_199 : decode cX12_foresees 199 = .ok (.iadd, 1) := by decide +kernel
theorem dX12_foresees_200 : decode cX12_foresees 200 = .ok (.iaload, 1) := by decide +kernel
theorem dX12_foresees_201 : decode cX12_foresees 201 = .ok (.invokestatic 345, 3) := by decide +kernel
theorem dX12_foresees_204 : decode cX12_foresees 204 = .ok (.putfield 339, 3) := by decide +kernel
theorem dX12_foresees_207 : decode cX12_foresees 207 = .ok (.iinc 3 (-1), 3) := by decide +kernel
theorem dX12_foresees_210 : decode cX12_foresees 210 = .ok (.goto (-174), 3) := by decide +kernel
theorem dX12_foresees_213 : decode cX12_foresees 213 = .ok (.return_, 1) := by decide +kernel
theorem dX12_foretell_0 : decode cX12_foretell 0 = .ok (.aload_n 0, 1) := by decide +kernel
theorem dX12_foretell_1 : decode cX12_foretell 1 = .ok (.iconst 0, 1) := by decide +kernel
theorem dX12_foretell_2 : decode cX12_foretell 2 = .ok (.putfield 3, 3) := by decide +kernel
theorem dX12_foretell_5 : decode cX12_foretell 5 = .ok (.aload_n 0, 1) := by decide +kernel
theorem dX12_foretell_6 : decode cX12_foretell 6 = .ok (.iload_n 1, 1) := by decide +kernel
theorem dX12_foretell_7 : decode cX12_foretell 7 = .ok (.invokestatic 90, 3) := by decide +kernel
theorem dX12_foretell_10 : decode cX12_foretell 10 = .ok (.ifCond .ne 10, 3) := by decide +kernel
theorem dX12_foretell_13 : decode cX12_foretell 13 = .ok (.iload_n 2, 1) := by decide +kernel
theorem dX12_foretell_14 : decode cX12_foretell 14 = .ok (.invokestatic 93, 3) := by decide +kernel
theorem dX12_foretell_17 : decode cX12_foretell 17 = .ok (.ifCond .eq 7, 3) := by decide +kernel
theorem dX12_foretell_20 : decode cX12_foretell 20 = .ok (.iconst 1, 1) := by decide +kernel
theorem dX12_foretell_21 : decode cX12_foretell 21 = .ok (.goto 4, 3) := by decide +kernel
theorem dX12_foretell_24 : decode cX12_foretell 24 = .ok (.iconst 0, 1) := by decide +kernel
theorem dX12_foretell_25 : decode cX12_foretell 25 = .ok (.iconst 1, 1) := by decide +kernel
theorem dX12_foretell_26 : decode cX12_foretell 26 = .ok (.invokevirtual 65, 3) := by decide +kernel
theorem dX12_foretell_29 : decode cX12_foretell 29 = .ok (.ifCond .ne 25, 3) := by decide +kernel
theorem dX12_foretell_32 : decode cX12_foretell 32 = .ok (.aload_n 0, 1) := by decide +kernel
theorem dX12_foretell_33 : decode cX12_foretell 33 = .ok (.iload_n 3, 1) := by decide +kernel
theorem dX12_foretell_34 : decode cX12_foretell 34 = .ok (.iconst 0, 1) := by decide +kernel
theorem dX12_foretell_35 : decode cX12_foretell 35 = .ok (.iconst 3, 1) := by decide +kernel
theorem dX12_foretell_36 : decode cX12_foretell 36 = .ok (.invokestatic 61, 3) := by decide +kernel
theorem dX12_foretell_39 : decode cX12_foretell 39 = .ok (.ifCond .ne 7, 3) := by decide +kernel
theorem dX12_foretell_42 : decode cX12_foretell 42 = .ok (.iconst 1, 1) := by decide +kernel
theorem dX12_foretell_43 : decode cX12_foretell 43 = .ok (.goto 4, 3) := by decide +kernel
theorem dX12_foretell_46 : decode cX12_foretell 46 = .ok (.iconst 0, 1) := by decide +kernel
theorem dX12_foretell_47 : decode cX12_foretell 47 = .ok (.iconst 2, 1) := by decide +kernel
theorem dX12_foretell_48 : decode cX12_foretell 48 = .ok (.invokevirtual 65, 3) := by decide +kernel
theorem dX12_foretell_51 : decode cX12_foretell 51 = .ok (.ifCond .eq 5, 3) := by decide +kernel
theorem dX12_foretell_54 : decode cX12_foretell 54 = .ok (.iconst 0, 1) := by decide +kernel
theorem dX12_foretell_55 : decode cX12_foretell 55 = .ok (.ireturn, 1) := by decide +kernel
theorem dX12_foretell_56 : decode cX12_foretell 56 = .ok (.aload_n 0, 1) := by decide +kernel
theorem dX12_foretell_57 : decode cX12_foretell 57 = .ok (.iload_n 1, 1) := by decide +kernel
theorem dX12_foretell_58 : decode cX12_foretell 58 = .ok (.iload_n 2, 1) := by decide +kernel
theorem dX12_foretell_59 : decode cX12_foretell 59 = .ok (.invokevirtual 347, 3) := by decide +kernel
theorem dX12_foretell_62 : decode cX12_foretell 62 = .ok (.iload_n 3, 1) := by decide +kernel
theorem dX12_foretell_63 : decode cX12_foretell 63 = .ok (.iconst 3, 1) := by decide +kernel
theorem dX12_foretell_64 : decode cX12_foretell 64 = .ok (.if_icmp .ne 8, 3) := by decide +kernel
theorem dX12_foretell_67 : decode cX12_foretell 67 = .ok (.aload_n 0, 1) := by decide +kernel
theorem dX12_foretell_68 : decode cX12_foretell 68 = .ok (.getfield 327, 3) := by decide +kernel
theorem dX12_foretell_71 : decode cX12_foretell 71 = .ok (.ireturn, 1) := by decide +kernel
theorem dX12_foretell_72 : decode cX12_foretell 72 = .ok (.aload_n 0, 1) := by decide +kernel
theorem dX12_foretell_73 : decode cX12_foretell 73 = .ok (.getfield 327, 3) := by decide +kernel
theorem dX12_foretell_76 : decode cX12_foretell 76 = .ok (.ifCond .ne 5, 3) := by decide +kernel
theorem dX12_foretell_79 : decode cX12_foretell 79 = .ok (.iconst (-1), 1) := by decide +kernel
theorem dX12_foretell_80 : decode cX12_foretell 80 = .ok (.ireturn, 1) := by decide +kernel
theorem dX12_foretell_81 : decode cX12_foretell 81 = .ok (.iload_n 3, 1) := by decide +kernel
theorem dX12_foretell_82 : decode cX12_foretell 82 = .ok (.ifCond .ne 38, 3) := by decide +kernel
theorem dX12_foretell_85 : decode cX12_foretell 85 = .ok (.iconst 0, 1) := by decide +kernel
theorem dX12_foretell_86 : decode cX12_foretell 86 = .ok (.aload_n 0, 1) := by decide +kernel
theorem dX12_foretell_87 : decode cX12_foretell 87 = .ok (.getfield 330, 3) := by decide +kernel
theorem dX12_foretell_90 : decode cX12_foretell 90 = .ok (.aload_n 0, 1) := by decide +kernel
theorem dX12_foretell_91 : decode cX12_foretell 91 = .ok (.getfield 327, 3) := by decide +kernel
theorem dX12_foretell_94 : decode cX12_foretell 94 = .ok (.idiv, 1) := by decide +kernel
theorem dX12_foretell_95 : decode cX12_foretell 95 = .ok (.iconst 2, 1) := by decide +kernel
theorem dX12_foretell_96 : decode cX12_foretell 96 = .ok (.aload_n 0, 1) := by decide +kernel
theorem dX12_foretell_97 : decode cX12_foretell 97 = .ok (.getfield 14, 3) := by decide +kernel
theorem dX12_foretell_100 : decode cX12_foretell 100 = .ok (.iconst 2, 1) := by decide +kernel
theorem dX12_foretell_101 : decode cX12_foretell 101 = .ok (.iaload, 1) := by decide +kernel
theorem dX12_foretell_102 : decode cX12_foretell 102 = .ok (.aload_n 0, 1) := by decide +kernel
theorem dX12_foretell_103 : decode cX12_foretell 103 = .ok (.getfield 333, 3) := by decide +kernel
theorem dX12_foretell_106 : decode cX12_foretell 106 = .ok (.aload_n 0, 1) := by decide +kernel
theorem dX12_foretell_107 : decode cX12_foretell 107 = .ok (.getfield 327, 3) := by decide +kernel
theorem dX12_foretell_110 : decode cX12_foretell 110 = .ok (.idiv, 1) := by decide +kernel
theorem dX12_foretell_111 : decode cX12_foretell 111 = .ok (.isub, 1) := by decide +kernel
theorem dX12_foretell_112 : decode cX12_foretell 112 = .ok (.imul, 1) := by decide +kernel
theorem dX12_foretell_113 : decode cX12_foretell 113 = .ok (.iadd, 1) := by decide +kernel
theorem dX12_foretell_114 : decode cX12_foretell 114 = .ok (.invokestatic 345, 3) := by decide +kernel
theorem dX12_foretell_117 : decode cX12_foretell 117 = .ok (.goto 19, 3) := by decide +kernel
theorem dX12_foretell_120 : decode cX12_foretell 120 = .ok (.iload_n 3, 1) := by decide +kernel
theorem dX12_foretell_121 : decode cX12_foretell 121 = .ok (.iconst 1, 1) := by decide +kernel
theorem dX12_foretell_122 : decode cX12_foretell 122 = .ok (.if_icmp .ne 10, 3) := by decide +kernel
theorem dX12_foretell_125 : decode cX12_foretell 125 = .ok (.aload_n 0, 1) := by decide +kernel
theorem dX12_foretell_126 : decode cX12_foretell 126 = .ok (.getfield 336, 3) := by decide +kernel
theorem dX12_foretell_129 : decode cX12_foretell 129 = .ok (.goto 7, 3) := by decide +kernel
theorem dX12_foretell_132 : decode cX12_foretell 132 = .ok (.aload_n 0, 1) := by decide +kernel
theorem dX12_foretell_133 : decode cX12_foretell 133 = .ok (.getfield 339, 3) := by decide +kernel
theorem dX12_foretell_136 : decode cX12_foretell 136 = .ok (.ireturn, 1) := by decide +kernel
theorem dX12_far_0 : decode cX12_far 0 = .ok (.aload_n 0, 1) := by decide +kernel
theorem dX12_far_1 : decode cX12_far 1 = .ok (.iconst 0, 1) := by decide +kernel
theorem dX12_far_2 : decode cX12_far 2 = .ok (.putfield 3, 3) := by decide +kernel
theorem dX12_far_5 : decode cX12_far 5 = .ok (.aload_n 0, 1) := by decide +kernel
theorem dX12_far_6 : decode cX12_far 6 = .ok (.iload_n 1, 1) := by decide +kernel
theorem dX12_far_7 : decode cX12_far 7 = .ok (.invokestatic 90, 3) := by decide +kernel
theorem dX12_far_10 : decode cX12_far 10 = .ok (.ifCond .ne 10, 3) := by decide +kernel
theorem dX12_far_13 : decode cX12_far 13 = .ok (.iload_n 2, 1) := by decide +kernel
theorem dX12_far_14 : decode cX12_far 14 = .ok (.invokestatic 93, 3) := by decide +kernel
theorem dX12_far_17 : decode cX12_far 17 = .ok (.ifCond .eq 7, 3) := by decide +kernel
theorem dX12_far_20 : decode cX12_far 20 = .ok (.iconst 1, 1) := by decide +kernel
theorem dX12_far_21 : decode cX12_far 21 = .ok (.goto 4, 3) := by decide +kernel
theorem dX12_far_24 : decode cX12_far 24 = .ok (.iconst 0, 1) := by decide +kernel
theorem dX12_far_25 : decode cX12_far 25 = .ok (.iconst 1, 1) := by decide +kernel
theorem dX12_far_26 : decode cX12_far 26 = .ok (.invokevirtual 65, 3) := by decide +kernel
theorem dX12_far_29 : decode cX12_far 29 = .ok (.ifCond .eq 5, 3) := by decide +kernel
theorem dX12_far_32 : decode cX12_far 32 = .ok (.iconst 0, 1) := by decide +kernel
theorem dX12_far_33 : decode cX12_far 33 = .ok (.ireturn, 1) := by decide +kernel
theorem dX12_far_34 : decode cX12_far 34 = .ok (.aload_n 0, 1) := by decide +kernel
theorem dX12_far_35 : decode cX12_far 35 = .ok (.iload_n 1, 1) := by decide +kernel
theorem dX12_far_36 : decode cX12_far 36 = .ok (.iload_n 2, 1) := by decide +kernel
theorem dX12_far_37 : decode cX12_far 37 = .ok (.invokevirtual 347, 3) := by decide +kernel
theorem dX12_far_40 : decode cX12_far 40 = .ok (.aload_n 0, 1) := by decide +kernel
theorem dX12_far_41 : decode cX12_far 41 = .ok (.getfield 14, 3) := by decide +kernel
theorem dX12_far_44 : decode cX12_far 44 = .ok (.bipush 9, 2) := by decide +kernel
theorem dX12_far_46 : decode cX12_far 46 = .ok (.iconst 4, 1) := by decide +kernel
theorem dX12_far_47 : decode cX12_far 47 = .ok (.iload_n 1, 1) := by decide +kernel
theorem dX12_far_48 : decode cX12_far 48 = .ok (.imul, 1) := by decide +kernel
theorem dX12_far_49 : decode cX12_far 49 = .ok (.iadd, 1) := by decide +kernel
theorem dX12_far_50 : decode cX12_far 50 = .ok (.iload_n 2, 1) := by decide +kernel
theorem dX12_far_51 : decode cX12_far 51 = .ok (.iadd, 1) := by decide +kernel
theorem dX12_far_52 : decode cX12_far 52 = .ok (.iaload, 1) := by decide +kernel
theorem dX12_far_53 : decode cX12_far 53 = .ok (.istore_n 3, 1) := by decide +kernel
theorem dX12_far_54 : decode cX12_far 54 = .ok (.aload_n 0, 1) := by decide +kernel
theorem dX12_far_55 : decode cX12_far 55 = .ok (.getfield 327, 3) := by decide +kernel
theorem dX12_far_58 : decode cX12_far 58 = .ok (.ifCond .le 27, 3) := by decide +kernel
theorem dX12_far_61 : decode cX12_far 61 = .ok (.iload_n 3, 1) := by decide +kernel
theorem dX12_far_62 : decode cX12_far 62 = .ok (.aload_n 0, 1) := by decide +kernel
theorem dX12_far_63 : decode cX12_far 63 = .ok (.getfield 336, 3) := by decide +kernel
theorem dX12_far_66 : decode cX12_far 66 = .ok (.iconst 2, 1) := by decide +kernel
theorem dX12_far_67 : decode cX12_far 67 = .ok (.idiv, 1) := by decide +kernel
theorem dX12_far_68 : decode cX12_far 68 = .ok (.if_icmp .lt 13, 3) := by decide +kernel
theorem dX12_far_71 : decode cX12_far 71 = .ok (.iload_n 3, 1) := by decide +kernel
theorem dX12_far_72 : decode cX12_far 72 = .ok (.iconst 2, 1) := by decide +kernel
theorem dX12_far_73 : decode cX12_far 73 = .ok (.aload_n 0, 1) := by decide +kernel
theorem dX12_far_74 : decode cX12_far 74 = .ok (.getfield 339, 3) := by decide +kernel
theorem dX12_far_77 : decode cX12_far 77 = .ok (.imul, 1) := by decide +kernel
theorem dX12_far_78 : decode cX12_far 78 = .ok (.if_icmp .le 7, 3) := by decide +kernel
theorem dX12_far_81 : decode cX12_far 81 = .ok (.iconst 1, 1) := by decide +kernel
theorem dX12_far_82 : decode cX12_far 82 = .ok (.goto 4, 3) := by decide +kernel
theorem dX12_far_85 : decode cX12_far 85 = .ok (.iconst 0, 1) := by decide +kernel
theorem dX12_far_86 : decode cX12_far 86 = .ok (.ireturn, 1) := by decide +kernel
theorem dX12_good_0 : decode cX12_good 0 = .ok (.aload_n 0, 1) := by decide +kernel
theorem dX12_good_1 : decode cX12_good 1 = .ok (.iconst 0, 1) := by decide +kernel
theorem dX12_good_2 : decode cX12_good 2 = .ok (.putfield 3, 3) := by decide +kernel
theorem dX12_good_5 : decode cX12_good 5 = .ok (.aload_n 0, 1) := by decide +kernel
theorem dX12_good_6 : decode cX12_good 6 = .ok (.iload_n 1, 1) := by decide +kernel
theorem dX12_good_7 : decode cX12_good 7 = .ok (.invokestatic 93, 3) := by decide +kernel
theorem dX12_good_10 : decode cX12_good 10 = .ok (.iconst 1, 1) := by decide +kernel
theorem dX12_good_11 : decode cX12_good 11 = .ok (.invokevirtual 65, 3) := by decide +kernel
theorem dX12_good_14 : decode cX12_good 14 = .ok (.ifCond .ne 60, 3) := by decide +kernel
theorem dX12_good_17 : decode cX12_good 17 = .ok (.aload_n 0, 1) := by decide +kernel
theorem dX12_good_18 : decode cX12_good 18 = .ok (.iload_n 2, 1) := by decide +kernel
theorem dX12_good_19 : decode cX12_good 19 = .ok (.iconst 1, 1) := by decide +kernel
theorem dX12_good_20 : decode cX12_good 20 = .ok (.sipush 9999, 3) := by decide +kernel
theorem dX12_good_23 : decode cX12_good 23 = .ok (.invokestatic 61, 3) := by decide +kernel
theorem dX12_good_26 : decode cX12_good 26 = .ok (.ifCond .eq 36, 3) := by decide +kernel
theorem dX12_good_29 : decode cX12_good 29 = .ok (.iload_n 3, 1) := by decide +kernel
theorem dX12_good_30 : decode cX12_good 30 = .ok (.iconst 1, 1) := by decide +kernel
theorem dX12_good_31 : decode cX12_good 31 = .ok (.bipush 100, 2) := by decide +kernel
theorem dX12_good_33 : decode cX12_good 33 = .ok (.invokestatic 61, 3) := by decide +kernel
theorem dX12_good_36 : decode cX12_good 36 = .ok (.ifCond .eq 26, 3) := by decide +kernel
theorem dX12_good_39 : decode cX12_good 39 = .ok (.iload 4, 2) := by decide +kernel
theorem dX12_good_41 : decode cX12_good 41 = .ok (.iconst 1, 1) := by decide +kernel
theorem dX12_good_42 : decode cX12_good 42 = .ok (.bipush 100, 2) := by decide +kernel
theorem dX12_good_44 : decode cX12_good 44 = .ok (.invokestatic 61, 3) := by decide +kernel
theorem dX12_good_47 : decode cX12_good 47 = .ok (.ifCond .eq 15, 3) := by decide +kernel
theorem dX12_good_50 : decode cX12_good 50 = .ok (.iload 5, 2) := by decide +kernel
theorem dX12_good_52 : decode cX12_good 52 = .ok (.iconst 0, 1) := by decide +kernel
theorem dX12_good_53 : decode cX12_good 53 = .ok (.sipush 9999, 3) := by decide +kernel
theorem dX12_good_56 : decode cX12_good 56 = .ok (.invokestatic 61, 3) := by decide +kernel
theorem dX12_good_59 : decode cX12_good 59 = .ok (.ifCond .ne 7, 3) := by decide +kernel
theorem dX12_good_62 : decode cX12_good 62 = .ok (.iconst 1, 1) := by decide +kernel
theorem dX12_good_63 : decode cX12_good 63 = .ok (.goto 4, 3) := by decide +kernel
theorem dX12_good_66 : decode cX12_good 66 = .ok (.iconst 0, 1) := by decide +kernel
theorem dX12_good_67 : decode cX12_good 67 = .ok (.iconst 2, 1) := by decide +kernel
theorem dX12_good_68 : decode cX12_good 68 = .ok (.invokevirtual 65, 3) := by decide +kernel
theorem dX12_good_71 : decode cX12_good 71 = .ok (.ifCond .eq 4, 3) := by decide +kernel
theorem dX12_good_74 : decode cX12_good 74 = .ok (.return_, 1) := by decide +kernel
theorem dX12_good_75 : decode cX12_good 75 = .ok (.aload_n 0, 1) := by decide +kernel
theorem dX12_good_76 : decode cX12_good 76 = .ok (.getfield 14, 3) := by decide +kernel
theorem dX12_good_79 : decode cX12_good 79 = .ok (.sipush 11254, 3) := by decide +kernel
theorem dX12_good_82 : decode cX12_good 82 = .ok (.iconst 4, 1) := by decide +kernel
theorem dX12_good_83 : decode cX12_good 83 = .ok (.iload_n 1, 1) := by decide +kernel
theorem dX12_good_84 : decode cX12_good 84 = .ok (.imul, 1) := by decide +kernel
theorem dX12_good_85 : decode cX12_good 85 = .ok (.iadd, 1) := by decide +kernel
theorem dX12_good_86 : decode cX12_good 86 = .ok (.iload_n 2, 1) := by decide +kernel
theorem dX12_good_87 : decode cX12_good 87 = .ok (.iastore, 1) := by decide +kernel
theorem dX12_good_88 : decode cX12_good 88 = .ok (.aload_n 0, 1) := by decide +kernel
theorem dX12_good_89 : decode cX12_good 89 = .ok (.getfield 14, 3) := by decide +kernel
theorem dX12_good_92 : decode cX12_good 92 = .ok (.sipush 11254, 3) := by decide +kernel
theorem dX12_good_95 : decode cX12_good 95 = .ok (.iconst 4, 1) := by decide +kernel
theorem dX12_good_96 : decode cX12_good 96 = .ok (.iload_n 1, 1) := by decide +kernel
theorem dX12_good_97 : decode cX12_good 97 = .ok (.imul, 1) := by decide +kernel
theorem dX12_good_98 : decode cX12_good 98 = .ok (.iadd, 1) := by decide +kernel
theorem dX12_good_99 : decode cX12_good 99 = .ok (.iconst 1, 1) := by decide +kernel
theorem dX12_good_100 : decode cX12_good 100 = .ok (.iadd, 1) := by decide +kernel
theorem dX12_good_101 : decode cX12_good 101 = .ok (.iload_n 3, 1) := by decide +kernel
theorem dX12_good_102 : decode cX12_good 102 = .ok (.iastore, 1) := by decide +kernel
theorem dX12_good_103 : decode cX12_good 103 = .ok (.aload_n 0, 1) := by decide +kernel
theorem dX12_good_104 : decode cX12_good 104 = .ok (.getfield 14, 3) := by decide +kernel
theorem dX12_good_107 : decode cX12_good 107 = .ok (.sipush 11254, 3) := by decide +kernel
theorem dX12_good_110 : decode cX12_good 110 = .ok (.iconst 4, 1) := by decide +kernel
theorem dX12_good_111 : decode cX12_good 111 = .ok (.iload_n 1, 1) := by decide +kernel
theorem dX12_good_112 : decode cX12_good 112 = .ok (.imul, 1) := by decide +kernel
theorem dX12_good_113 : decode cX12_good 113 = .ok (.iadd, 1) := by decide +kernel
theorem dX12_good_114 : decode cX12_good 114 = .ok (.iconst 2, 1) := by decide +kernel
theorem dX12_good_115 : decode cX12_good 115 = .ok (.iadd, 1) := by decide +kernel
theorem dX12_good_116 : decode cX12_good 116 = .ok (.iload 4, 2) := by decide +kernel
theorem dX12_good_118 : decode cX12_good 118 = .ok (.iastore, 1) := by decide +kernel
theorem dX12_good_119 : decode cX12_good 119 = .ok (.aload_n 0, 1) := by decide +kernel
theorem dX12_good_120 : decode cX12_good 120 = .ok (.getfield 14, 3) := by decide +kernel
theorem dX12_good_123 : decode cX12_good 123 = .ok (.sipush 11254, 3) := by decide +kernel
theorem dX12_good_126 : decode cX12_good 126 = .ok (.iconst 4, 1) := by decide +kernel
theorem dX12_good_127 : decode cX12_good 127 = .ok (.iload_n 1, 1) := by decide +kernel
theorem dX12_good_128 : decode cX12_good 128 = .ok (.imul, 1) := by decide +kernel
theorem dX12_good_129 : decode cX12_good 129 = .ok (.iadd, 1) := by decide +kernel
theorem dX12_good_130 : decode cX12_good 130 = .ok (.iconst 3, 1) := by decide +kernel
theorem dX12_good_131 : decode cX12_good 131 = .ok (.iadd, 1) := by decide +kernel
theorem dX12_good_132 : decode cX12_good 132 = .ok (.iload 5, 2) := by decide +kernel
theorem dX12_good_134 : decode cX12_good 134 = .ok (.iastore, 1) := by decide +kernel
theorem dX12_good_135 : decode cX12_good 135 = .ok (.return_, 1) := by decide +kernel
theorem dX12_fleet_0 : decode cX12_fleet 0 = .ok (.aload_n 0, 1) := by decide +kernel
theorem dX12_fleet_1 : decode cX12_fleet 1 = .ok (.iconst 0, 1) := by decide +kernel
theorem dX12_fleet_2 : decode cX12_fleet 2 = .ok (.putfield 3, 3) := by decide +kernel
theorem dX12_fleet_5 : decode cX12_fleet 5 = .ok (.aload_n 0, 1) := by decide +kernel
theorem dX12_fleet_6 : decode cX12_fleet 6 = .ok (.iload_n 1, 1) := by decide +kernel
theorem dX12_fleet_7 : decode cX12_fleet 7 = .ok (.iconst 0, 1) := by decide +kernel
theorem dX12_fleet_8 : decode cX12_fleet 8 = .ok (.ldc_w 350, 3) := by decide +kernel
theorem dX12_fleet_11 : decode cX12_fleet 11 = .ok (.invokestatic 61, 3) := by decide +kernel
theorem dX12_fleet_14 : decode cX12_fleet 14 = .ok (.ifCond .eq 49, 3) := by decide +kernel
theorem dX12_fleet_17 : decode cX12_fleet 17 = .ok (.iload_n 2, 1) := by decide +kernel
theorem dX12_fleet_18 : decode cX12_fleet 18 = .ok (.iconst 0, 1) := by decide +kernel
theorem dX12_fleet_19 : decode cX12_fleet 19 = .ok (.ldc_w 350, 3) := by decide +kernel
theorem dX12_fleet_22 : decode cX12_fleet 22 = .ok (.invokestatic 61, 3) := by decide +kernel
theorem dX12_fleet_25 : decode cX12_fleet 25 = .ok (.ifCond .eq 38, 3) := by decide +kernel
theorem dX12_fleet_28 : decode cX12_fleet 28 = .ok (.iload_n 3, 1) := by decide +kernel
theorem dX12_fleet_29 : decode cX12_fleet 29 = .ok (.iconst 0, 1) := by decide +kernel
theorem dX12_fleet_30 : decode cX12_fleet 30 = .ok (.ldc_w 350, 3) := by decide +kernel
theorem dX12_fleet_33 : decode cX12_fleet 33 = .ok (.invokestatic 61, 3) := by decide +kernel
theorem dX12_fleet_36 : decode cX12_fleet 36 = .ok (.ifCond .eq 27, 3) := by decide +kernel
theorem dX12_fleet_39 : decode cX12_fleet 39 = .ok (.iload 4, 2) := by decide +kernel
theorem dX12_fleet_41 : decode cX12_fleet 41 = .ok (.iconst 0, 1) := by decide +kernel
theorem dX12_fleet_42 : decode cX12_fleet 42 = .ok (.ldc_w 351, 3) := by decide +kernel
theorem dX12_fleet_45 : decode cX12_fleet 45 = .ok (.invokestatic 61, 3) := by decide +kernel
theorem dX12_fleet_48 : decode cX12_fleet 48 = .ok (.ifCond .eq 15, 3) := by decide +kernel
theorem dX12_fleet_51 : decode cX12_fleet 51 = .ok (.iload 5, 2) := by decide +kernel
theorem dX12_fleet_53 : decode cX12_fleet 53 = .ok (.iconst 0, 1) := by decide +kernel
theorem dX12_fleet_54 : decode cX12_fleet 54 = .ok (.ldc_w 351, 3) := by decide +kernel
theorem dX12_fleet_57 : decode cX12_fleet 57 = .ok (.invokestatic 61, 3) := by decide +kernel
theorem dX12_fleet_60 : decode cX12_fleet 60 = .ok (.ifCond .ne 7, 3) := by decide +kernel
theorem dX12_fleet_63 : decode cX12_fleet 63 = .ok (.iconst 1, 1) := by decide +kernel
theorem dX12_fleet_64 : decode cX12_fleet 64 = .ok (.goto 4, 3) := by decide +kernel
theorem dX12_fleet_67 : decode cX12_fleet 67 = .ok (.iconst 0, 1) := by decide +kernel
theorem dX12_fleet_68 : decode cX12_fleet 68 = .ok (.iconst 1, 1) := by decide +kernel
theorem dX12_fleet_69 : decode cX12_fleet 69 = .ok (.invokevirtual 65, 3) := by decide +kernel
theorem dX12_fleet_72 : decode cX12_fleet 72 = .ok (.ifCond .eq 4, 3) := by decide +kernel
theorem dX12_fleet_75 : decode cX12_fleet 75 = .ok (.return_, 1) := by decide +kernel
theorem dX12_fleet_76 : decode cX12_fleet 76 = .ok (.aload_n 0, 1) := by decide +kernel
theorem dX12_fleet_77 : decode cX12_fleet 77 = .ok (.getfield 14, 3) := by decide +kernel
theorem dX12_fleet_80 : decode cX12_fleet 80 = .ok (.sipush 11270, 3) := by decide +kernel
theorem dX12_fleet_83 : decode cX12_fleet 83 = .ok (.iload_n 1, 1) := by decide +kernel
theorem dX12_fleet_84 : decode cX12_fleet 84 = .ok (.iastore, 1) := by decide +kernel
theorem dX12_fleet_85 : decode cX12_fleet 85 = .ok (.aload_n 0, 1) := by decide +kernel
theorem dX12_fleet_86 : decode cX12_fleet 86 = .ok (.getfield 14, 3) := by decide +kernel
theorem dX12_fleet_89 : decode cX12_fleet 89 = .ok (.sipush 11271, 3) := by decide +kernel
theorem dX12_fleet_92 : decode cX12_fleet 92 = .ok (.iload_n 2, 1) := by decide +kernel
theorem dX12_fleet_93 : decode cX12_fleet 93 = .ok (.iastore, 1) := by decide +kernel
theorem dX12_fleet_94 : decode cX12_fleet 94 = .ok (.aload_n 0, 1) := by decide +kernel
theorem dX12_fleet_95 : decode cX12_fleet 95 = .ok (.getfield 14, 3) := by decide +kernel
theorem dX12_fleet_98 : decode cX12_fleet 98 = .ok (.sipush 11272, 3) := by decide +kernel
theorem dX12_fleet_101 : decode cX12_fleet 101 = .ok (.iload_n 3, 1) := by decide +kernel
theorem dX12_fleet_102 : decode cX12_fleet 102 = .ok (.iastore, 1) := by decide +kernel
theorem dX12_fleet_103 : decode cX12_fleet 103 = .ok (.aload_n 0, 1) := by decide +kernel
theorem dX12_fleet_104 : decode cX12_fleet 104 = .ok (.getfield 14, 3) := by decide +kernel
theorem dX12_fleet_107 : decode cX12_fleet 107 = .ok (.sipush 11273, 3) := by decide +kernel
theorem dX12_fleet_110 : decode cX12_fleet 110 = .ok (.iload 4, 2) := by decide +kernel
theorem dX12_fleet_112 : decode cX12_fleet 112 = .ok (.iastore, 1) := by decide +kernel
theorem dX12_fleet_113 : decode cX12_fleet 113 = .ok (.aload_n 0, 1) := by decide +kernel
theorem dX12_fleet_114 : decode cX12_fleet 114 = .ok (.getfield 14, 3) := by decide +kernel
theorem dX12_fleet_117 : decode cX12_fleet 117 = .ok (.sipush 11274, 3) := by decide +kernel
theorem dX12_fleet_120 : decode cX12_fleet 120 = .ok (.iload 5, 2) := by decide +kernel
theorem dX12_fleet_122 : decode cX12_fleet 122 = .ok (.iastore, 1) := by decide +kernel
theorem dX12_fleet_123 : decode cX12_fleet 123 = .ok (.return_, 1) := by decide +kernel
theorem dX12_wants_0 : decode cX12_wants 0 = .ok (.iconst 0, 1) := by decide +kernel
theorem dX12_wants_1 : decode cX12_wants 1 = .ok (.aload_n 0, 1) := by decide +kernel
theorem dX12_wants_2 : decode cX12_wants 2 = .ok (.getfield 14, 3) := by decide +kernel
theorem dX12_wants_5 : decode cX12_wants 5 = .ok (.bipush 9, 2) := by decide +kernel
theorem dX12_wants_7 : decode cX12_wants 7 = .ok (.iconst 4, 1) := by decide +kernel
theorem dX12_wants_8 : decode cX12_wants 8 = .ok (.iload_n 1, 1) := by decide +kernel
theorem dX12_wants_9 : decode cX12_wants 9 = .ok (.imul, 1) := by decide +kernel
theorem dX12_wants_10 : decode cX12_wants 10 = .ok (.iadd, 1) := by decide +kernel
theorem dX12_wants_11 : decode cX12_wants 11 = .ok (.iload_n 2, 1) := by decide +kernel
theorem dX12_wants_12 : decode cX12_wants 12 = .ok (.iadd, 1) := by decide +kernel
theorem dX12_wants_13 : decode cX12_wants 13 = .ok (.iaload, 1) := by decide +kernel
theorem dX12_wants_14 : decode cX12_wants 14 = .ok (.invokestatic 345, 3) := by decide +kernel
theorem dX12_wants_17 : decode cX12_wants 17 = .ok (.i2l, 1) := by decide +kernel
theorem dX12_wants_18 : decode cX12_wants 18 = .ok (.lreturn, 1) := by decide +kernel
theorem dX12_numberOf_0 : decode cX12_numberOf 0 = .ok (.lconst 0, 1) := by decide +kernel
theorem dX12_numberOf_1 : decode cX12_numberOf 1 = .ok (.lstore_n 2, 1) := by decide +kernel
theorem dX12_numberOf_2 : decode cX12_numberOf 2 = .ok (.iconst 0, 1) := by decide +kernel
theorem dX12_numberOf_3 : decode cX12_numberOf 3 = .ok (.istore 4, 2) := by decide +kernel
theorem dX12_numberOf_5 : decode cX12_numberOf 5 = .ok (.iload 4, 2) := by decide +kernel
theorem dX12_numberOf_7 : decode cX12_numberOf 7 = .ok (.iconst 4, 1) := by decide +kernel
theorem dX12_numberOf_8 : decode cX12_numberOf 8 = .ok (.if_icmp .ge 19, 3) := by decide +kernel
theorem dX12_numberOf_11 : decode cX12_numberOf 11 = .ok (.lload_n 2, 1) := by decide +kernel
theorem dX12_numberOf_12 : decode cX12_numberOf 12 = .ok (.aload_n 0, 1) := by decide +kernel
theorem dX12_numberOf_13 : decode cX12_numberOf 13 = .ok (.iload 4, 2) := by decide +kernel
theorem dX12_numberOf_15 : decode cX12_numberOf 15 = .ok (.iload_n 1, 1) := by decide +kernel
theorem dX12_numberOf_16 : decode cX12_numberOf 16 = .ok (.invokevirtual 352, 3) := by decide +kernel
theorem dX12_numberOf_19 : decode cX12_numberOf 19 = .ok (.ladd, 1) := by decide +kernel
theorem dX12_numberOf_20 : decode cX12_numberOf 20 = .ok (.lstore_n 2, 1) := by decide +kernel
theorem dX12_numberOf_21 : decode cX12_numberOf 21 = .ok (.iinc 4 1, 3) := by decide +kernel
theorem dX12_numberOf_24 : decode cX12_numberOf 24 = .ok (.goto (-19), 3) := by decide +kernel
theorem dX12_numberOf_27 : decode cX12_numberOf 27 = .ok (.lload_n 2, 1) := by decide +kernel
theorem dX12_numberOf_28 : decode cX12_numberOf 28 = .ok (.lreturn, 1) := by decide +kernel
theorem dX12_minutesOf_0 : decode cX12_minutesOf 0 = .ok (.aload_n 0, 1) := by decide +kernel
theorem dX12_minutesOf_1 : decode cX12_minutesOf 1 = .ok (.getfield 14, 3) := by decide +kernel
theorem dX12_minutesOf_4 : decode cX12_minutesOf 4 = .ok (.sipush 11254, 3) := by decide +kernel
theorem dX12_minutesOf_7 : decode cX12_minutesOf 7 = .ok (.iconst 4, 1) := by decide +kernel
theorem dX12_minutesOf_8 : decode cX12_minutesOf 8 = .ok (.iload_n 1, 1) := by decide +kernel
theorem dX12_minutesOf_9 : decode cX12_minutesOf 9 = .ok (.imul, 1) := by decide +kernel
theorem dX12_minutesOf_10 : decode cX12_minutesOf 10 = .ok (.iadd, 1) := by decide +kernel
theorem dX12_minutesOf_11 : decode cX12_minutesOf 11 = .ok (.iaload, 1) := by decide +kernel
theorem dX12_minutesOf_12 : decode cX12_minutesOf 12 = .ok (.i2l, 1) := by decide +kernel
theorem dX12_minutesOf_13 : decode cX12_minutesOf 13 = .ok (.lstore_n 2, 1) := by decide +kernel
theorem dX12_minutesOf_14 : decode cX12_minutesOf 14 = .ok (.aload_n 0, 1) := by decide +kernel
theorem dX12_minutesOf_15 : decode cX12_minutesOf 15 = .ok (.iload_n 1, 1) := by decide +kernel
theorem dX12_minutesOf_16 : decode cX12_minutesOf 16 = .ok (.invokevirtual 355, 3) := by decide +kernel
theorem dX12_minutesOf_19 : decode cX12_minutesOf 19 = .ok (.lload_n 2, 1) := by decide +kernel
theorem dX12_minutesOf_20 : decode cX12_minutesOf 20 = .ok (.ladd, 1) := by decide +kernel
theorem dX12_minutesOf_21 : decode cX12_minutesOf 21 = .ok (.lconst 1, 1) := by decide +kernel
theorem dX12_minutesOf_22 : decode cX12_minutesOf 22 = .ok (.lsub, 1) := by decide +kernel
theorem dX12_minutesOf_23 : decode cX12_minutesOf 23 = .ok (.lload_n 2, 1) := by decide +kernel
theorem dX12_minutesOf_24 : decode cX12_minutesOf 24 = .ok (.ldiv, 1) := by decide +kernel
theorem dX12_minutesOf_25 : decode cX12_minutesOf 25 = .ok (.aload_n 0, 1) := by decide +kernel
theorem dX12_minutesOf_26 : decode cX12_minutesOf 26 = .ok (.getfield 14, 3) := by decide +kernel
theorem dX12_minutesOf_29 : decode cX12_minutesOf 29 = .ok (.sipush 11254, 3) := by decide +kernel
theorem dX12_minutesOf_32 : decode cX12_minutesOf 32 = .ok (.iconst 4, 1) := by decide +kernel
theorem dX12_minutesOf_33 : decode cX12_minutesOf 33 = .ok (.iload_n 1, 1) := by decide +kernel
theorem dX12_minutesOf_34 : decode cX12_minutesOf 34 = .ok (.imul, 1) := by decide +kernel
theorem dX12_minutesOf_35 : decode cX12_minutesOf 35 = .ok (.iadd, 1) := by decide +kernel
theorem dX12_minutesOf_36 : decode cX12_minutesOf 36 = .ok (.iconst 1, 1) := by decide +kernel
theorem dX12_minutesOf_37 : decode cX12_minutesOf 37 = .ok (.iadd, 1) := by decide +kernel
theorem dX12_minutesOf_38 : decode cX12_minutesOf 38 = .ok (.iaload, 1) := by decide +kernel
theorem dX12_minutesOf_39 : decode cX12_minutesOf 39 = .ok (.i2l, 1) := by decide +kernel
theorem dX12_minutesOf_40 : decode cX12_minutesOf 40 = .ok (.lmul, 1) := by decide +kernel
theorem dX12_minutesOf_41 : decode cX12_minutesOf 41 = .ok (.lreturn, 1) := by decide +kernel
theorem dX12_weightOf_0 : decode cX12_weightOf 0 = .ok (.aload_n 0, 1) := by decide +kernel
theorem dX12_weightOf_1 : decode cX12_weightOf 1 = .ok (.iload_n 1, 1) := by decide +kernel
theorem dX12_weightOf_2 : decode cX12_weightOf 2 = .ok (.invokevirtual 355, 3) := by decide +kernel
theorem dX12_weightOf_5 : decode cX12_weightOf 5 = .ok (.aload_n 0, 1) := by decide +kernel
theorem dX12_weightOf_6 : decode cX12_weightOf 6 = .ok (.getfield 14, 3) := by decide +kernel
theorem dX12_weightOf_9 : decode cX12_weightOf 9 = .ok (.sipush 11254, 3) := by decide +kernel
theorem dX12_weightOf_12 : decode cX12_weightOf 12 = .ok (.iconst 4, 1) := by decide +kernel
theorem dX12_weightOf_13 : decode cX12_weightOf 13 = .ok (.iload_n 1, 1) := by decide +kernel
theorem dX12_weightOf_14 : decode cX12_weightOf 14 = .ok (.imul, 1) := by decide +kernel
theorem dX12_weightOf_15 : decode cX12_weightOf 15 = .ok (.iadd, 1) := by decide +kernel
theorem dX12_weightOf_16 : decode cX12_weightOf 16 = .ok (.iconst 2, 1) := by decide +kernel
theorem dX12_weightOf_17 : decode cX12_weightOf 17 = .ok (.iadd, 1) := by decide +kernel
theorem dX12_weightOf_18 : decode cX12_weightOf 18 = .ok (.iaload, 1) := by decide +kernel
theorem dX12_weightOf_19 : decode cX12_weightOf 19 = .ok (.i2l, 1) := by decide +kernel
theorem dX12_weightOf_20 : decode cX12_weightOf 20 = .ok (.lmul, 1) := by decide +kernel
theorem dX12_weightOf_21 : decode cX12_weightOf 21 = .ok (.lreturn, 1) := by decide +kernel
theorem dX12_loadOf_0 : decode cX12_loadOf 0 = .ok (.lconst 0, 1) := by decide +kernel
theorem dX12_loadOf_1 : decode cX12_loadOf 1 = .ok (.lstore_n 2, 1) := by decide +kernel
theorem dX12_loadOf_2 : decode cX12_loadOf 2 = .ok (.iconst 0, 1) := by decide +kernel
theorem dX12_loadOf_3 : decode cX12_loadOf 3 = .ok (.istore 4, 2) := by decide +kernel
theorem dX12_loadOf_5 : decode cX12_loadOf 5 = .ok (.iload 4, 2) := by decide +kernel
theorem dX12_loadOf_7 : decode cX12_loadOf 7 = .ok (.iconst 4, 1) := by decide +kernel
theorem dX12_loadOf_8 : decode cX12_loadOf 8 = .ok (.if_icmp .ge 36, 3) := by decide +kernel
theorem dX12_loadOf_11 : decode cX12_loadOf 11 = .ok (.lload_n 2, 1) := by decide +kernel
theorem dX12_loadOf_12 : decode cX12_loadOf 12 = .ok (.aload_n 0, 1) := by decide +kernel
theorem dX12_loadOf_13 : decode cX12_loadOf 13 = .ok (.iload_n 1, 1) := by decide +kernel
theorem dX12_loadOf_14 : decode cX12_loadOf 14 = .ok (.iload 4, 2) := by decide +kernel
theorem dX12_loadOf_16 : decode cX12_loadOf 16 = .ok (.invokevirtual 352, 3) := by decide +kernel
theorem dX12_loadOf_19 : decode cX12_loadOf 19 = .ok (.aload_n 0, 1) := by decide +kernel
theorem dX12_loadOf_20 : decode cX12_loadOf 20 = .ok (.getfield 14, 3) := by decide +kernel
theorem dX12_loadOf_23 : decode cX12_loadOf 23 = .ok (.sipush 11254, 3) := by decide +kernel
theorem dX12_loadOf_26 : decode cX12_loadOf 26 = .ok (.iconst 4, 1) := by decide +kernel
theorem dX12_loadOf_27 : decode cX12_loadOf 27 = .ok (.iload 4, 2) := by decide +kernel
theorem dX12_loadOf_29 : decode cX12_loadOf 29 = .ok (.imul, 1) := by decide +kernel
theorem dX12_loadOf_30 : decode cX12_loadOf 30 = .ok (.iadd, 1) := by decide +kernel
theorem dX12_loadOf_31 : decode cX12_loadOf 31 = .ok (.iconst 2, 1) := by decide +kernel
theorem dX12_loadOf_32 : decode cX12_loadOf 32 = .ok (.iadd, 1) := by decide +kernel
theorem dX12_loadOf_33 : decode cX12_loadOf 33 = .ok (.iaload, 1) := by decide +kernel
theorem dX12_loadOf_34 : decode cX12_loadOf 34 = .ok (.i2l, 1) := by decide +kernel
theorem dX12_loadOf_35 : decode cX12_loadOf 35 = .ok (.lmul, 1) := by decide +kernel
theorem dX12_loadOf_36 : decode cX12_loadOf 36 = .ok (.ladd, 1) := by decide +kernel
theorem dX12_loadOf_37 : decode cX12_loadOf 37 = .ok (.lstore_n 2, 1) := by decide +kernel
theorem dX12_loadOf_38 : decode cX12_loadOf 38 = .ok (.iinc 4 1, 3) := by decide +kernel
theorem dX12_loadOf_41 : decode cX12_loadOf 41 = .ok (.goto (-36), 3) := by decide +kernel
theorem dX12_loadOf_44 : decode cX12_loadOf 44 = .ok (.lload_n 2, 1) := by decide +kernel
theorem dX12_loadOf_45 : decode cX12_loadOf 45 = .ok (.lreturn, 1) := by decide +kernel
theorem dX12_fill_0 : decode cX12_fill 0 = .ok (.aload_n 0, 1) := by decide +kernel
theorem dX12_fill_1 : decode cX12_fill 1 = .ok (.iconst 0, 1) := by decide +kernel
theorem dX12_fill_2 : decode cX12_fill 2 = .ok (.putfield 3, 3) := by decide +kernel
theorem dX12_fill_5 : decode cX12_fill 5 = .ok (.ldc2_w 359, 3) := by decide +kernel
theorem dX12_fill_8 : decode cX12_fill 8 = .ok (.lstore_n 2, 1) := by decide +kernel
theorem dX12_fill_9 : decode cX12_fill 9 = .ok (.iconst 0, 1) := by decide +kernel
theorem dX12_fill_10 : decode cX12_fill 10 = .ok (.istore 4, 2) := by decide +kernel
theorem dX12_fill_12 : decode cX12_fill 12 = .ok (.iload 4, 2) := by decide +kernel
theorem dX12_fill_14 : decode cX12_fill 14 = .ok (.bipush 81, 2) := by decide +kernel
theorem dX12_fill_16 : decode cX12_fill 16 = .ok (.if_icmp .ge 156, 3) := by decide +kernel
theorem dX12_fill_19 : decode cX12_fill 19 = .ok (.iconst 0, 1) := by decide +kernel
theorem dX12_fill_20 : decode cX12_fill 20 = .ok (.istore 5, 2) := by decide +kernel
theorem dX12_fill_22 : decode cX12_fill 22 = .ok (.iload 5, 2) := by decide +kernel
theorem dX12_fill_24 : decode cX12_fill 24 = .ok (.iconst 3, 1) := by decide +kernel
theorem dX12_fill_25 : decode cX12_fill 25 = .ok (.if_icmp .ge 37, 3) := by decide +kernel
theorem dX12_fill_28 : decode cX12_fill 28 = .ok (.aload_n 0, 1) := by decide +kernel
theorem dX12_fill_29 : decode cX12_fill 29 = .ok (.getfield 45, 3) := by decide +kernel
theorem dX12_fill_32 : decode cX12_fill 32 = .ok (.iload 5, 2) := by decide +kernel
theorem dX12_fill_34 : decode cX12_fill 34 = .ok (.iload_n 1, 1) := by decide +kernel
theorem dX12_fill_35 : decode cX12_fill 35 = .ok (.ifCond .eq 19, 3) := by decide +kernel
theorem dX12_fill_38 : decode cX12_fill 38 = .ok (.aload_n 0, 1) := by decide +kernel
theorem dX12_fill_39 : decode cX12_fill 39 = .ok (.getfield 14, 3) := by decide +kernel
theorem dX12_fill_42 : decode cX12_fill 42 = .ok (.sipush 11270, 3) := by decide +kernel
theorem dX12_fill_45 : decode cX12_fill 45 = .ok (.iload 5, 2) := by decide +kernel
theorem dX12_fill_47 : decode cX12_fill 47 = .ok (.iadd, 1) := by decide +kernel
theorem dX12_fill_48 : decode cX12_fill 48 = .ok (.iaload, 1) := by decide +kernel
theorem dX12_fill_49 : decode cX12_fill 49 = .ok (.ineg, 1) := by decide +kernel
theorem dX12_fill_50 : decode cX12_fill 50 = .ok (.i2l, 1) := by decide +kernel
theorem dX12_fill_51 : decode cX12_fill 51 = .ok (.goto 4, 3) := by decide +kernel
theorem dX12_fill_54 : decode cX12_fill 54 = .ok (.lconst 0, 1) := by decide +kernel
theorem dX12_fill_55 : decode cX12_fill 55 = .ok (.lastore, 1) := by decide +kernel
theorem dX12_fill_56 : decode cX12_fill 56 = .ok (.iinc 5 1, 3) := by decide +kernel
theorem dX12_fill_59 : decode cX12_fill 59 = .ok (.goto (-37), 3) := by decide +kernel
theorem dX12_fill_62 : decode cX12_fill 62 = .ok (.iload 4, 2) := by decide +kernel
theorem dX12_fill_64 : decode cX12_fill 64 = .ok (.istore 5, 2) := by decide +kernel
theorem dX12_fill_66 : decode cX12_fill 66 = .ok (.iconst 0, 1) := by decide +kernel
theorem dX12_fill_67 : decode cX12_fill 67 = .ok (.istore 6, 2) := by decide +kernel
theorem dX12_fill_69 : decode cX12_fill 69 = .ok (.iload 6, 2) := by decide +kernel
theorem dX12_fill_71 : decode cX12_fill 71 = .ok (.iconst 4, 1) := by decide +kernel
theorem dX12_fill_72 : decode cX12_fill 72 = .ok (.if_icmp .ge 46, 3) := by decide +kernel
theorem dX12_fill_75 : decode cX12_fill 75 = .ok (.aload_n 0, 1) := by decide +kernel
theorem dX12_fill_76 : decode cX12_fill 76 = .ok (.getfield 45, 3) := by decide +kernel
theorem dX12_fill_79 : decode cX12_fill 79 = .ok (.iload 5, 2) := by decide +kernel
theorem dX12_fill_81 : decode cX12_fill 81 = .ok (.iconst 3, 1) := by decide +kernel
theorem dX12_fill_82 : decode cX12_fill 82 = .ok (.irem, 1) := by decide +kernel
theorem dX12_fill_83 : decode cX12_fill 83 = .ok (.dup2, 1) := by decide +kernel
theorem dX12_fill_84 : decode cX12_fill 84 = .ok (.laload, 1) := by decide +kernel
theorem dX12_fill_85 : decode cX12_fill 85 = .ok (.iload_n 1, 1) := by decide +kernel
theorem dX12_fill_86 : decode cX12_fill 86 = .ok (.ifCond .eq 12, 3) := by decide +kernel
theorem dX12_fill_89 : decode cX12_fill 89 = .ok (.aload_n 0, 1) := by decide +kernel
theorem dX12_fill_90 : decode cX12_fill 90 = .ok (.iload 6, 2) := by decide +kernel
theorem dX12_fill_92 : decode cX12_fill 92 = .ok (.invokevirtual 361, 3) := by decide +kernel
theorem dX12_fill_95 : decode cX12_fill 95 = .ok (.goto 9, 3) := by decide +kernel
theorem dX12_fill_98 : decode cX12_fill 98 = .ok (.aload_n 0, 1) := by decide +kernel
theorem dX12_fill_99 : decode cX12_fill 99 = .ok (.iload 6, 2) := by decide +kernel
theorem dX12_fill_101 : decode cX12_fill 101 = .ok (.invokevirtual 364, 3) := by decide +kernel
theorem dX12_fill_104 : decode cX12_fill 104 = .ok (.ladd, 1) := by decide +kernel
theorem dX12_fill_105 : decode cX12_fill 105 = .ok (.lastore, 1) := by decide +kernel
theorem dX12_fill_106 : decode cX12_fill 106 = .ok (.iload 5, 2) := by decide +kernel
theorem dX12_fill_108 : decode cX12_fill 108 = .ok (.iconst 3, 1) := by decide +kernel
theorem dX12_fill_109 : decode cX12_fill 109 = .ok (.idiv, 1) := by decide +kernel
theorem dX12_fill_110 : decode cX12_fill 110 = .ok (.istore 5, 2) := by decide +kernel
theorem dX12_fill_112 : decode cX12_fill 112 = .ok (.iinc 6 1, 3) := by decide +kernel
theorem dX12_fill_115 : decode cX12_fill 115 = .ok (.goto (-46), 3) := by decide +kernel
theorem dX12_fill_118 : decode cX12_fill 118 = .ok (.lconst 0, 1) := by decide +kernel
theorem dX12_fill_119 : decode cX12_fill 119 = .ok (.aload_n 0, 1) := by decide +kernel
theorem dX12_fill_120 : decode cX12_fill 120 = .ok (.getfield 45, 3) := by decide +kernel
theorem dX12_fill_123 : decode cX12_fill 123 = .ok (.iconst 0, 1) := by decide +kernel
theorem dX12_fill_124 : decode cX12_fill 124 = .ok (.laload, 1) := by decide +kernel
theorem dX12_fill_125 : decode cX12_fill 125 = .ok (.aload_n 0, 1) := by decide +kernel
theorem dX12_fill_126 : decode cX12_fill 126 = .ok (.getfield 45, 3) := by decide +kernel
theorem dX12_fill_129 : decode cX12_fill 129 = .ok (.iconst 1, 1) := by decide +kernel
theorem dX12_fill_130 : decode cX12_fill 130 = .ok (.laload, 1) := by decide +kernel
theorem dX12_fill_131 : decode cX12_fill 131 = .ok (.aload_n 0, 1) := by decide +kernel
theorem dX12_fill_132 : decode cX12_fill 132 = .ok (.getfield 45, 3) := by decide +kernel
theorem dX12_fill_135 : decode cX12_fill 135 = .ok (.iconst 2, 1) := by decide +kernel
theorem dX12_fill_136 : decode cX12_fill 136 = .ok (.laload, 1) := by decide +kernel
theorem dX12_fill_137 : decode cX12_fill 137 = .ok (.invokestatic 266, 3) := by decide +kernel
theorem dX12_fill_140 : decode cX12_fill 140 = .ok (.invokestatic 266, 3) := by decide +kernel
theorem dX12_fill_143 : decode cX12_fill 143 = .ok (.invokestatic 266, 3) := by decide +kernel
theorem dX12_fill_146 : decode cX12_fill 146 = .ok (.lstore 6, 2) := by decide +kernel
theorem dX12_fill_148 : decode cX12_fill 148 = .ok (.lload_n 2, 1) := by decide +kernel
theorem dX12_fill_149 : decode cX12_fill 149 = .ok (.lconst 0, 1) := by decide +kernel
theorem dX12_fill_150 : decode cX12_fill 150 = .ok (.lcmp, 1) := by decide +kernel
theorem dX12_fill_151 : decode cX12_fill 151 = .ok (.ifCond .ge 8, 3) := by decide +kernel
theorem dX12_fill_154 : decode cX12_fill 154 = .ok (.lload 6, 2) := by decide +kernel
theorem dX12_fill_156 : decode cX12_fill 156 = .ok (.goto 9, 3) := by decide +kernel
theorem dX12_fill_159 : decode cX12_fill 159 = .ok (.lload_n 2, 1) := by decide +kernel
theorem dX12_fill_160 : decode cX12_fill 160 = .ok (.lload 6, 2) := by decide +kernel
theorem dX12_fill_162 : decode cX12_fill 162 = .ok (.invokestatic 367, 3) := by decide +kernel
theorem dX12_fill_165 : decode cX12_fill 165 = .ok (.lstore_n 2, 1) := by decide +kernel
theorem dX12_fill_166 : decode cX12_fill 166 = .ok (.iinc 4 1, 3) := by decide +kernel
theorem dX12_fill_169 : decode cX12_fill 169 = .ok (.goto (-157), 3) := by decide +kernel
theorem dX12_fill_172 : decode cX12_fill 172 = .ok (.lload_n 2, 1) := by decide +kernel
theorem dX12_fill_173 : decode cX12_fill 173 = .ok (.lreturn, 1) := by decide +kernel
theorem dX12_partOf_0 : decode cX12_partOf 0 = .ok (.lconst 0, 1) := by decide +kernel
theorem dX12_partOf_1 : decode cX12_partOf 1 = .ok (.lstore 5, 2) := by decide +kernel
theorem dX12_partOf_3 : decode cX12_partOf 3 = .ok (.iconst 0, 1) := by decide +kernel
theorem dX12_partOf_4 : decode cX12_partOf 4 = .ok (.istore 7, 2) := by decide +kernel
theorem dX12_partOf_6 : decode cX12_partOf 6 = .ok (.iload 7, 2) := by decide +kernel
theorem dX12_partOf_8 : decode cX12_partOf 8 = .ok (.iconst 4, 1) := by decide +kernel
theorem dX12_partOf_9 : decode cX12_partOf 9 = .ok (.if_icmp .ge 34, 3) := by decide +kernel
theorem dX12_partOf_12 : decode cX12_partOf 12 = .ok (.lload 5, 2) := by decide +kernel
theorem dX12_partOf_14 : decode cX12_partOf 14 = .ok (.iload 4, 2) := by decide +kernel
theorem dX12_partOf_16 : decode cX12_partOf 16 = .ok (.ifCond .eq 12, 3) := by decide +kernel
theorem dX12_partOf_19 : decode cX12_partOf 19 = .ok (.aload_n 0, 1) := by decide +kernel
theorem dX12_partOf_20 : decode cX12_partOf 20 = .ok (.iload 7, 2) := by decide +kernel
theorem dX12_partOf_22 : decode cX12_partOf 22 = .ok (.invokevirtual 369, 3) := by decide +kernel
theorem dX12_partOf_25 : decode cX12_partOf 25 = .ok (.goto 9, 3) := by decide +kernel
theorem dX12_partOf_28 : decode cX12_partOf 28 = .ok (.aload_n 0, 1) := by decide +kernel
theorem dX12_partOf_29 : decode cX12_partOf 29 = .ok (.iload 7, 2) := by decide +kernel
theorem dX12_partOf_31 : decode cX12_partOf 31 = .ok (.invokevirtual 364, 3) := by decide +kernel
theorem dX12_partOf_34 : decode cX12_partOf 34 = .ok (.ladd, 1) := by decide +kernel
theorem dX12_partOf_35 : decode cX12_partOf 35 = .ok (.lstore 5, 2) := by decide +kernel
theorem dX12_partOf_37 : decode cX12_partOf 37 = .ok (.iinc 7 1, 3) := by decide +kernel
theorem dX12_partOf_40 : decode cX12_partOf 40 = .ok (.goto (-34), 3) := by decide +kernel
theorem dX12_partOf_43 : decode cX12_partOf 43 = .ok (.lload_n 2, 1) := by decide +kernel
theorem dX12_partOf_44 : decode cX12_partOf 44 = .ok (.lstore 7, 2) := by decide +kernel
theorem dX12_partOf_46 : decode cX12_partOf 46 = .ok (.lconst 0, 1) := by decide +kernel
theorem dX12_partOf_47 : decode cX12_partOf 47 = .ok (.lstore 9, 2) := by decide +kernel
theorem dX12_partOf_49 : decode cX12_partOf 49 = .ok (.iconst 0, 1) := by decide +kernel
theorem dX12_partOf_50 : decode cX12_partOf 50 = .ok (.istore 11, 2) := by decide +kernel
theorem dX12_partOf_52 : decode cX12_partOf 52 = .ok (.iconst 0, 1) := by decide +kernel
theorem dX12_partOf_53 : decode cX12_partOf 53 = .ok (.istore 12, 2) := by decide +kernel
theorem dX12_partOf_55 : decode cX12_partOf 55 = .ok (.iload 12, 2) := by decide +kernel
theorem dX12_partOf_57 : decode cX12_partOf 57 = .ok (.iconst 4, 1) := by decide +kernel
theorem dX12_partOf_58 : decode cX12_partOf 58 = .ok (.if_icmp .ge 85, 3) := by decide +kernel
theorem dX12_partOf_61 : decode cX12_partOf 61 = .ok (.lload_n 2, 1) := by decide +kernel
theorem dX12_partOf_62 : decode cX12_partOf 62 = .ok (.iload 4, 2) := by decide +kernel
theorem dX12_partOf_64 : decode cX12_partOf 64 = .ok (.ifCond .eq 12, 3) := by decide +kernel
theorem dX12_partOf_67 : decode cX12_partOf 67 = .ok (.aload_n 0, 1) := by decide +kernel
theorem dX12_partOf_68 : decode cX12_partOf 68 = .ok (.iload 12, 2) := by decide +kernel
theorem dX12_partOf_70 : decode cX12_partOf 70 = .ok (.invokevirtual 369, 3) := by decide +kernel
theorem dX12_partOf_73 : decode cX12_partOf 73 = .ok (.goto 9, 3) := by decide +kernel
theorem dX12_partOf_76 : decode cX12_partOf 76 = .ok (.aload_n 0, 1) := by decide +kernel
theorem dX12_partOf_77 : decode cX12_partOf 77 = .ok (.iload 12, 2) := by decide +kernel
theorem dX12_partOf_79 : decode cX12_partOf 79 = .ok (.invokevirtual 364, 3) := by decide +kernel
theorem dX12_partOf_82 : decode cX12_partOf 82 = .ok (.lmul, 1) := by decide +kernel
theorem dX12_partOf_83 : decode cX12_partOf 83 = .ok (.lload 5, 2) := by decide +kernel
theorem dX12_partOf_85 : decode cX12_partOf 85 = .ok (.ldiv, 1) := by decide +kernel
theorem dX12_partOf_86 : decode cX12_partOf 86 = .ok (.lstore 13, 2) := by decide +kernel
theorem dX12_partOf_88 : decode cX12_partOf 88 = .ok (.lload 7, 2) := by decide +kernel
theorem dX12_partOf_90 : decode cX12_partOf 90 = .ok (.lload 13, 2) := by decide +kernel
theorem dX12_partOf_92 : decode cX12_partOf 92 = .ok (.lsub, 1) := by decide +kernel
theorem dX12_partOf_93 : decode cX12_partOf 93 = .ok (.lstore 7, 2) := by decide +kernel
theorem dX12_partOf_95 : decode cX12_partOf 95 = .ok (.iload 12, 2) := by decide +kernel
theorem dX12_partOf_97 : decode cX12_partOf 97 = .ok (.iload_n 1, 1) := by decide +kernel
theorem dX12_partOf_98 : decode cX12_partOf 98 = .ok (.if_icmp .ne 8, 3) := by decide +kernel
theorem dX12_partOf_101 : decode cX12_partOf 101 = .ok (.lload 13, 2) := by decide +kernel
theorem dX12_partOf_103 : decode cX12_partOf 103 = .ok (.goto 5, 3) := by decide +kernel
theorem dX12_partOf_106 : decode cX12_partOf 106 = .ok (.lload 9, 2) := by decide +kernel
theorem dX12_partOf_108 : decode cX12_partOf 108 = .ok (.lstore 9, 2) := by decide +kernel
theorem dX12_partOf_110 : decode cX12_partOf 110 = .ok (.iload 11, 2) := by decide +kernel
theorem dX12_partOf_112 : decode cX12_partOf 112 = .ok (.iload 12, 2) := by decide +kernel
theorem dX12_partOf_114 : decode cX12_partOf 114 = .ok (.iload_n 1, 1) := by decide +kernel
theorem dX12_partOf_115 : decode cX12_partOf 115 = .ok (.if_icmp .ge 18, 3) := by decide +kernel
theorem dX12_partOf_118 : decode cX12_partOf 118 = .ok (.aload_n 0, 1) := by decide +kernel
theorem dX12_partOf_119 : decode cX12_partOf 119 = .ok (.iload 12, 2) := by decide +kernel
theorem dX12_partOf_121 : decode cX12_partOf 121 = .ok (.invokevirtual 355, 3) := by decide +kernel
theorem dX12_partOf_124 : decode cX12_partOf 124 = .ok (.lconst 0, 1) := by decide +kernel
theorem dX12_partOf_125 : decode cX12_partOf 125 = .ok (.lcmp, 1) := by decide +kernel
theorem dX12_partOf_126 : decode cX12_partOf 126 = .ok (.ifCond .le 7, 3) := by decide +kernel
theorem dX12_partOf_129 : decode cX12_partOf 129 = .ok (.iconst 1, 1) := by decide +kernel
theorem dX12_partOf_130 : decode cX12_partOf 130 = .ok (.goto 4, 3) := by decide +kernel
theorem dX12_partOf_133 : decode cX12_partOf 133 = .ok (.iconst 0, 1) := by decide +kernel
theorem dX12_partOf_134 : decode cX12_partOf 134 = .ok (.iadd, 1) := by decide +kernel
theorem dX12_partOf_135 : decode cX12_partOf 135 = .ok (.istore 11, 2) := by decide +kernel
theorem dX12_partOf_137 : decode cX12_partOf 137 = .ok (.iinc 12 1, 3) := by decide +kernel
theorem dX12_partOf_140 : decode cX12_partOf 140 = .ok (.goto (-85), 3) := by decide +kernel
theorem dX12_partOf_143 : decode cX12_partOf 143 = .ok (.lload 9, 2) := by decide +kernel
theorem dX12_partOf_145 : decode cX12_partOf 145 = .ok (.iload 11, 2) := by decide +kernel
theorem dX12_partOf_147 : decode cX12_partOf 147 = .ok (.i2l, 1) := by decide +kernel
theorem dX12_partOf_148 : decode cX12_partOf 148 = .ok (.lload 7, 2) := by decide +kernel
theorem dX12_partOf_150 : decode cX12_partOf 150 = .ok (.lcmp, 1) := by decide +kernel
theorem dX12_partOf_151 : decode cX12_partOf 151 = .ok (.ifCond .ge 7, 3) := by decide +kernel
theorem dX12_partOf_154 : decode cX12_partOf 154 = .ok (.lconst 1, 1) := by decide +kernel
theorem dX12_partOf_155 : decode cX12_partOf 155 = .ok (.goto 4, 3) := by decide +kernel
theorem dX12_partOf_158 : decode cX12_partOf 158 = .ok (.lconst 0, 1) := by decide +kernel
theorem dX12_partOf_159 : decode cX12_partOf 159 = .ok (.ladd, 1) := by decide +kernel
theorem dX12_partOf_160 : decode cX12_partOf 160 = .ok (.lreturn, 1) := by decide +kernel
theorem dX12_cost_0 : decode cX12_cost 0 = .ok (.aload_n 0, 1) := by decide +kernel
theorem dX12_cost_1 : decode cX12_cost 1 = .ok (.iconst 0, 1) := by decide +kernel
theorem dX12_cost_2 : decode cX12_cost 2 = .ok (.putfield 3, 3) := by decide +kernel
theorem dX12_cost_5 : decode cX12_cost 5 = .ok (.aload_n 0, 1) := by decide +kernel
theorem dX12_cost_6 : decode cX12_cost 6 = .ok (.iload_n 1, 1) := by decide +kernel
theorem dX12_cost_7 : decode cX12_cost 7 = .ok (.invokestatic 93, 3) := by decide +kernel
theorem dX12_cost_10 : decode cX12_cost 10 = .ok (.iconst 1, 1) := by decide +kernel
theorem dX12_cost_11 : decode cX12_cost 11 = .ok (.invokevirtual 65, 3) := by decide +kernel
theorem dX12_cost_14 : decode cX12_cost 14 = .ok (.ifCond .ne 13, 3) := by decide +kernel
theorem dX12_cost_17 : decode cX12_cost 17 = .ok (.aload_n 0, 1) := by decide +kernel
theorem dX12_cost_18 : decode cX12_cost 18 = .ok (.iload_n 1, 1) := by decide +kernel
theorem dX12_cost_19 : decode cX12_cost 19 = .ok (.invokevirtual 355, 3) := by decide +kernel
theorem dX12_cost_22 : decode cX12_cost 22 = .ok (.lconst 0, 1) := by decide +kernel
theorem dX12_cost_23 : decode cX12_cost 23 = .ok (.lcmp, 1) := by decide +kernel
theorem dX12_cost_24 : decode cX12_cost 24 = .ok (.ifCond .ne 5, 3) := by decide +kernel
theorem dX12_cost_27 : decode cX12_cost 27 = .ok (.lconst 0, 1) := by decide +kernel
theorem dX12_cost_28 : decode cX12_cost 28 = .ok (.lreturn, 1) := by decide +kernel
theorem dX12_cost_29 : decode cX12_cost 29 = .ok (.aload_n 0, 1) := by decide +kernel
theorem dX12_cost_30 : decode cX12_cost 30 = .ok (.iload_n 1, 1) := by decide +kernel
theorem dX12_cost_31 : decode cX12_cost 31 = .ok (.invokevirtual 355, 3) := by decide +kernel
theorem dX12_cost_34 : decode cX12_cost 34 = .ok (.aload_n 0, 1) := by decide +kernel
theorem dX12_cost_35 : decode cX12_cost 35 = .ok (.getfield 14, 3) := by decide +kernel
theorem dX12_cost_38 : decode cX12_cost 38 = .ok (.sipush 11254, 3) := by decide +kernel
theorem dX12_cost_41 : decode cX12_cost 41 = .ok (.iconst 4, 1) := by decide +kernel
theorem dX12_cost_42 : decode cX12_cost 42 = .ok (.iload_n 1, 1) := by decide +kernel
theorem dX12_cost_43 : decode cX12_cost 43 = .ok (.imul, 1) := by decide +kernel
theorem dX12_cost_44 : decode cX12_cost 44 = .ok (.iadd, 1) := by decide +kernel
theorem dX12_cost_45 : decode cX12_cost 45 = .ok (.iconst 3, 1) := by decide +kernel
theorem dX12_cost_46 : decode cX12_cost 46 = .ok (.iadd, 1) := by decide +kernel
theorem dX12_cost_47 : decode cX12_cost 47 = .ok (.iaload, 1) := by decide +kernel
theorem dX12_cost_48 : decode cX12_cost 48 = .ok (.i2l, 1) := by decide +kernel
theorem dX12_cost_49 : decode cX12_cost 49 = .ok (.lmul, 1) := by decide +kernel
theorem dX12_cost_50 : decode cX12_cost 50 = .ok (.aload_n 0, 1) := by decide +kernel
theorem dX12_cost_51 : decode cX12_cost 51 = .ok (.iload_n 1, 1) := by decide +kernel
theorem dX12_cost_52 : decode cX12_cost 52 = .ok (.aload_n 0, 1) := by decide +kernel
theorem dX12_cost_53 : decode cX12_cost 53 = .ok (.getfield 14, 3) := by decide +kernel
theorem dX12_cost_56 : decode cX12_cost 56 = .ok (.sipush 11273, 3) := by decide +kernel
theorem dX12_cost_59 : decode cX12_cost 59 = .ok (.iaload, 1) := by decide +kernel
theorem dX12_cost_60 : decode cX12_cost 60 = .ok (.i2l, 1) := by decide +kernel
theorem dX12_cost_61 : decode cX12_cost 61 = .ok (.iconst 0, 1) := by decide +kernel
theorem dX12_cost_62 : decode cX12_cost 62 = .ok (.invokevirtual 372, 3) := by decide +kernel
theorem dX12_cost_65 : decode cX12_cost 65 = .ok (.ladd, 1) := by decide +kernel
theorem dX12_cost_66 : decode cX12_cost 66 = .ok (.aload_n 0, 1) := by decide +kernel
theorem dX12_cost_67 : decode cX12_cost 67 = .ok (.iload_n 1, 1) := by decide +kernel
theorem dX12_cost_68 : decode cX12_cost 68 = .ok (.aload_n 0, 1) := by decide +kernel
theorem dX12_cost_69 : decode cX12_cost 69 = .ok (.getfield 14, 3) := by decide +kernel
theorem dX12_cost_72 : decode cX12_cost 72 = .ok (.sipush 11274, 3) := by decide +kernel
theorem dX12_cost_75 : decode cX12_cost 75 = .ok (.iaload, 1) := by decide +kernel
theorem dX12_cost_76 : decode cX12_cost 76 = .ok (.i2l, 1) := by decide +kernel
theorem dX12_cost_77 : decode cX12_cost 77 = .ok (.iconst 1, 1) := by decide +kernel
theorem dX12_cost_78 : decode cX12_cost 78 = .ok (.invokevirtual 372, 3) := by decide +kernel
theorem dX12_cost_81 : decode cX12_cost 81 = .ok (.ladd, 1) := by decide +kernel
theorem dX12_cost_82 : decode cX12_cost 82 = .ok (.lreturn, 1) := by decide +kernel
theorem dX12_worker_0 : decode cX12_worker 0 = .ok (.aload_n 0, 1) := by decide +kernel
theorem dX12_worker_1 : decode cX12_worker 1 = .ok (.iconst 0, 1) := by decide +kernel
theorem dX12_worker_2 : decode cX12_worker 2 = .ok (.putfield 3, 3) := by decide +kernel
theorem dX12_worker_5 : decode cX12_worker 5 = .ok (.aload_n 0, 1) := by decide +kernel
theorem dX12_worker_6 : decode cX12_worker 6 = .ok (.iload_n 1, 1) := by decide +kernel
theorem dX12_worker_7 : decode cX12_worker 7 = .ok (.iconst 0, 1) := by decide +kernel
theorem dX12_worker_8 : decode cX12_worker 8 = .ok (.bipush 99, 2) := by decide +kernel
theorem dX12_worker_10 : decode cX12_worker 10 = .ok (.invokestatic 61, 3) := by decide +kernel
theorem dX12_worker_13 : decode cX12_worker 13 = .ok (.ifCond .eq 14, 3) := by decide +kernel
theorem dX12_worker_16 : decode cX12_worker 16 = .ok (.iload_n 2, 1) := by decide +kernel
theorem dX12_worker_17 : decode cX12_worker 17 = .ok (.iconst 0, 1) := by decide +kernel
theorem dX12_worker_18 : decode cX12_worker 18 = .ok (.sipush 999, 3) := by decide +kernel
theorem dX12_worker_21 : decode cX12_worker 21 = .ok (.invokestatic 61, 3) := by decide +kernel
theorem dX12_worker_24 : decode cX12_worker 24 = .ok (.ifCond .ne 7, 3) := by decide +kernel
theorem dX12_worker_27 : decode cX12_worker 27 = .ok (.iconst 1, 1) := by decide +kernel
theorem dX12_worker_28 : decode cX12_worker 28 = .ok (.goto 4, 3) := by decide +kernel
theorem dX12_worker_31 : decode cX12_worker 31 = .ok (.iconst 0, 1) := by decide +kernel
theorem dX12_worker_32 : decode cX12_worker 32 = .ok (.iconst 1, 1) := by decide +kernel
theorem dX12_worker_33 : decode cX12_worker 33 = .ok (.invokevirtual 65, 3) := by decide +kernel
theorem dX12_worker_36 : decode cX12_worker 36 = .ok (.ifCond .ne 29, 3) := by decide +kernel
theorem dX12_worker_39 : decode cX12_worker 39 = .ok (.aload_n 0, 1) := by decide +kernel
theorem dX12_worker_40 : decode cX12_worker 40 = .ok (.aload_n 0, 1) := by decide +kernel
theorem dX12_worker_41 : decode cX12_worker 41 = .ok (.getfield 14, 3) := by decide +kernel
theorem dX12_worker_44 : decode cX12_worker 44 = .ok (.sipush 11275, 3) := by decide +kernel
theorem dX12_worker_47 : decode cX12_worker 47 = .ok (.iaload, 1) := by decide +kernel
theorem dX12_worker_48 : decode cX12_worker 48 = .ok (.bipush 20, 2) := by decide +kernel
theorem dX12_worker_50 : decode cX12_worker 50 = .ok (.if_icmp .ne 7, 3) := by decide +kernel
theorem dX12_worker_53 : decode cX12_worker 53 = .ok (.iconst 1, 1) := by decide +kernel
theorem dX12_worker_54 : decode cX12_worker 54 = .ok (.goto 4, 3) := by decide +kernel
theorem dX12_worker_57 : decode cX12_worker 57 = .ok (.iconst 0, 1) := by decide +kernel
theorem dX12_worker_58 : decode cX12_worker 58 = .ok (.iconst 2, 1) := by decide +kernel
theorem dX12_worker_59 : decode cX12_worker 59 = .ok (.invokevirtual 65, 3) := by decide +kernel
theorem dX12_worker_62 : decode cX12_worker 62 = .ok (.ifCond .eq 5, 3) := by decide +kernel
theorem dX12_worker_65 : decode cX12_worker 65 = .ok (.iconst 0, 1) := by decide +kernel
theorem dX12_worker_66 : decode cX12_worker 66 = .ok (.ireturn, 1) := by decide +kernel
theorem dX12_worker_67 : decode cX12_worker 67 = .ok (.aload_n 0, 1) := by decide +kernel
theorem dX12_worker_68 : decode cX12_worker 68 = .ok (.getfield 14, 3) := by decide +kernel
theorem dX12_worker_71 : decode cX12_worker 71 = .ok (.sipush 11275, 3) := by decide +kernel
theorem dX12_worker_74 : decode cX12_worker 74 = .ok (.iaload, 1) := by decide +kernel
theorem dX12_worker_75 : decode cX12_worker 75 = .ok (.istore_n 3, 1) := by decide +kernel
theorem dX12_worker_76 : decode cX12_worker 76 = .ok (.aload_n 0, 1) := by decide +kernel
theorem dX12_worker_77 : decode cX12_worker 77 = .ok (.getfield 14, 3) := by decide +kernel
theorem dX12_worker_80 : decode cX12_worker 80 = .ok (.sipush 11275, 3) := by decide +kernel
theorem dX12_worker_83 : decode cX12_worker 83 = .ok (.dup2, 1) := by decide +kernel
theorem dX12_worker_84 : decode cX12_worker 84 = .ok (.iaload, 1) := by decide +kernel
theorem dX12_worker_85 : decode cX12_worker 85 = .ok (.iconst 1, 1) := by decide +kernel
theorem dX12_worker_86 : decode cX12_worker 86 = .ok (.iadd, 1) := by decide +kernel
theorem dX12_worker_87 : decode cX12_worker 87 = .ok (.iastore, 1) := by decide +kernel
theorem dX12_worker_88 : decode cX12_worker 88 = .ok (.aload_n 0, 1) := by decide +kernel
theorem dX12_worker_89 : decode cX12_worker 89 = .ok (.getfield 14, 3) := by decide +kernel
theorem dX12_worker_92 : decode cX12_worker 92 = .ok (.sipush 11276, 3) := by decide +kernel
theorem dX12_worker_95 : decode cX12_worker 95 = .ok (.iconst 4, 1) := by decide +kernel
theorem dX12_worker_96 : decode cX12_worker 96 = .ok (.iload_n 3, 1) := by decide +kernel
theorem dX12_worker_97 : decode cX12_worker 97 = .ok (.imul, 1) := by decide +kernel
theorem dX12_worker_98 : decode cX12_worker 98 = .ok (.iadd, 1) := by decide +kernel
theorem dX12_worker_99 : decode cX12_worker 99 = .ok (.iload_n 1, 1) := by decide +kernel
theorem dX12_worker_100 : decode cX12_worker 100 = .ok (.iastore, 1) := by decide +kernel
theorem dX12_worker_101 : decode cX12_worker 101 = .ok (.aload_n 0, 1) := by decide +kernel
theorem dX12_worker_102 : decode cX12_worker 102 = .ok (.getfield 14, 3) := by decide +kernel
theorem dX12_worker_105 : decode cX12_worker 105 = .ok (.sipush 11276, 3) := by decide +kernel
theorem dX12_worker_108 : decode cX12_worker 108 = .ok (.iconst 4, 1) := by decide +kernel
theorem dX12_worker_109 : decode cX12_worker 109 = .ok (.iload_n 3, 1) := by decide +kernel
theorem dX12_worker_110 : decode cX12_worker 110 = .ok (.imul, 1) := by decide +kernel
theorem dX12_worker_111 : decode cX12_worker 111 = .ok (.iadd, 1) := by decide +kernel
theorem dX12_worker_112 : decode cX12_worker 112 = .ok (.iconst 1, 1) := by decide +kernel
theorem dX12_worker_113 : decode cX12_worker 113 = .ok (.iadd, 1) := by decide +kernel
theorem dX12_worker_114 : decode cX12_worker 114 = .ok (.iload_n 2, 1) := by decide +kernel
theorem dX12_worker_115 : decode cX12_worker 115 = .ok (.iastore, 1) := by decide +kernel
theorem dX12_worker_116 : decode cX12_worker 116 = .ok (.aload_n 0, 1) := by decide +kernel
theorem dX12_worker_117 : decode cX12_worker 117 = .ok (.getfield 14, 3) := by decide +kernel
theorem dX12_worker_120 : decode cX12_worker 120 = .ok (.sipush 11276, 3) := by decide +kernel
theorem dX12_worker_123 : decode cX12_worker 123 = .ok (.iconst 4, 1) := by decide +kernel
theorem dX12_worker_124 : decode cX12_worker 124 = .ok (.iload_n 3, 1) := by decide +kernel
theorem dX12_worker_125 : decode cX12_worker 125 = .ok (.imul, 1) := by decide +kernel
theorem dX12_worker_126 : decode cX12_worker 126 = .ok (.iadd, 1) := by decide +kernel
theorem dX12_worker_127 : decode cX12_worker 127 = .ok (.iconst 2, 1) := by decide +kernel
theorem dX12_worker_128 : decode cX12_worker 128 = .ok (.iadd, 1) := by decide +kernel
theorem dX12_worker_129 : decode cX12_worker 129 = .ok (.iconst (-1), 1) := by decide +kernel
theorem dX12_worker_130 : decode cX12_worker 130 = .ok (.iastore, 1) := by decide +kernel
theorem dX12_worker_131 : decode cX12_worker 131 = .ok (.aload_n 0, 1) := by decide +kernel
theorem dX12_worker_132 : decode cX12_worker 132 = .ok (.getfield 14, 3) := by decide +kernel
theorem dX12_worker_135 : decode cX12_worker 135 = .ok (.sipush 11276, 3) := by decide +kernel
theorem dX12_worker_138 : decode cX12_worker 138 = .ok (.iconst 4, 1) := by decide +kernel
theorem dX12_worker_139 : decode cX12_worker 139 = .ok (.iload_n 3, 1) := by decide +kernel
theorem dX12_worker_140 : decode cX12_worker 140 = .ok (.imul, 1) := by decide +kernel
theorem dX12_worker_141 : decode cX12_worker 141 = .ok (.iadd, 1) := by decide +kernel
theorem dX12_worker_142 : decode cX12_worker 142 = .ok (.iconst 3, 1) := by decide +kernel
theorem dX12_worker_143 : decode cX12_worker 143 = .ok (.iadd, 1) := by decide +kernel
theorem dX12_worker_144 : decode cX12_worker 144 = .ok (.iconst 0, 1) := by decide +kernel
theorem dX12_worker_145 : decode cX12_worker 145 = .ok (.iastore, 1) := by decide +kernel
theorem dX12_worker_146 : decode cX12_worker 146 = .ok (.iload_n 3, 1) := by decide +kernel
theorem dX12_worker_147 : decode cX12_worker 147 = .ok (.ireturn, 1) := by decide +kernel
theorem dX12_noWorker_0 : decode cX12_noWorker 0 = .ok (.iload_n 1, 1) := by decide +kernel
theorem dX12_noWorker_1 : decode cX12_noWorker 1 = .ok (.iconst 0, 1) := by decide +kernel
theorem dX12_noWorker_2 : decode cX12_noWorker 2 = .ok (.aload_n 0, 1) := by decide +kernel
theorem dX12_noWorker_3 : decode cX12_noWorker 3 = .ok (.getfield 14, 3) := by decide +kernel
theorem dX12_noWorker_6 : decode cX12_noWorker 6 = .ok (.sipush 11275, 3) := by decide +kernel
theorem dX12_noWorker_9 : decode cX12_noWorker 9 = .ok (.iaload, 1) := by decide +kernel
theorem dX12_noWorker_10 : decode cX12_noWorker 10 = .ok (.iconst 1, 1) := by decide +kernel
theorem dX12_noWorker_11 : decode cX12_noWorker 11 = .ok (.isub, 1) := by decide +kernel
theorem dX12_noWorker_12 : decode cX12_noWorker 12 = .ok (.invokestatic 61, 3) := by decide +kernel
theorem dX12_noWorker_15 : decode cX12_noWorker 15 = .ok (.ifCond .ne 7, 3) := by decide +kernel
theorem dX12_noWorker_18 : decode cX12_noWorker 18 = .ok (.iconst 1, 1) := by decide +kernel
theorem dX12_noWorker_19 : decode cX12_noWorker 19 = .ok (.goto 4, 3) := by decide +kernel
theorem dX12_noWorker_22 : decode cX12_noWorker 22 = .ok (.iconst 0, 1) := by decide +kernel
theorem dX12_noWorker_23 : decode cX12_noWorker 23 = .ok (.ireturn, 1) := by decide +kernel
theorem dX12_alter_0 : decode cX12_alter 0 = .ok (.aload_n 0, 1) := by decide +kernel
theorem dX12_alter_1 : decode cX12_alter 1 = .ok (.iconst 0, 1) := by decide +kernel
theorem dX12_alter_2 : decode cX12_alter 2 = .ok (.putfield 3, 3) := by decide +kernel
theorem dX12_alter_5 : decode cX12_alter 5 = .ok (.aload_n 0, 1) := by decide +kernel
theorem dX12_alter_6 : decode cX12_alter 6 = .ok (.aload_n 0, 1) := by decide +kernel
theorem dX12_alter_7 : decode cX12_alter 7 = .ok (.iload_n 1, 1) := by decide +kernel
theorem dX12_alter_8 : decode cX12_alter 8 = .ok (.invokevirtual 376, 3) := by decide +kernel
theorem dX12_alter_11 : decode cX12_alter 11 = .ok (.iconst 1, 1) := by decide +kernel
theorem dX12_alter_12 : decode cX12_alter 12 = .ok (.invokevirtual 65, 3) := by decide +kernel
theorem dX12_alter_15 : decode cX12_alter 15 = .ok (.ifCond .ne 60, 3) := by decide +kernel
theorem dX12_alter_18 : decode cX12_alter 18 = .ok (.aload_n 0, 1) := by decide +kernel
theorem dX12_alter_19 : decode cX12_alter 19 = .ok (.iload_n 2, 1) := by decide +kernel
theorem dX12_alter_20 : decode cX12_alter 20 = .ok (.iconst 0, 1) := by decide +kernel
theorem dX12_alter_21 : decode cX12_alter 21 = .ok (.bipush 99, 2) := by decide +kernel
theorem dX12_alter_23 : decode cX12_alter 23 = .ok (.invokestatic 61, 3) := by decide +kernel
theorem dX12_alter_26 : decode cX12_alter 26 = .ok (.ifCond .eq 13, 3) := by decide +kernel
theorem dX12_alter_29 : decode cX12_alter 29 = .ok (.iload_n 3, 1) := by decide +kernel
theorem dX12_alter_30 : decode cX12_alter 30 = .ok (.iconst 0, 1) := by decide +kernel
theorem dX12_alter_31 : decode cX12_alter 31 = .ok (.bipush 9, 2) := by decide +kernel
theorem dX12_alter_33 : decode cX12_alter 33 = .ok (.invokestatic 61, 3) := by decide +kernel
theorem dX12_alter_36 : decode cX12_alter 36 = .ok (.ifCond .ne 7, 3) := by decide +kernel
theorem dX12_alter_39 : decode cX12_alter 39 = .ok (.iconst 1, 1) := by decide +kernel
theorem dX12_alter_40 : decode cX12_alter 40 = .ok (.goto 4, 3) := by decide +kernel
theorem dX12_alter_43 : decode cX12_alter 43 = .ok (.iconst 0, 1) := by decide +kernel
theorem dX12_alter_44 : decode cX12_alter 44 = .ok (.iconst 2, 1) := by decide +kernel
theorem dX12_alter_45 : decode cX12_alter 45 = .ok (.invokevirtual 65, 3) := by decide +kernel
theorem dX12_alter_48 : decode cX12_alter 48 = .ok (.ifCond .ne 27, 3) := by decide +kernel
theorem dX12_alter_51 : decode cX12_alter 51 = .ok (.aload_n 0, 1) := by decide +kernel
theorem dX12_alter_52 : decode cX12_alter 52 = .ok (.aload_n 0, 1) := by decide +kernel
theorem dX12_alter_53 : decode cX12_alter 53 = .ok (.getfield 14, 3) := by decide +kernel
theorem dX12_alter_56 : decode cX12_alter 56 = .ok (.bipush 6, 2) := by decide +kernel
theorem dX12_alter_58 : decode cX12_alter 58 = .ok (.iaload, 1) := by decide +kernel
theorem dX12_alter_59 : decode cX12_alter 59 = .ok (.iconst 1, 1) := by decide +kernel
theorem dX12_alter_60 : decode cX12_alter 60 = .ok (.if_icmp .ne 7, 3) := by decide +kernel
theorem dX12_alter_63 : decode cX12_alter 63 = .ok (.iconst 1, 1) := by decide +kernel
theorem dX12_alter_64 : decode cX12_alter 64 = .ok (.goto 4, 3) := by decide +kernel
theorem dX12_alter_67 : decode cX12_alter 67 = .ok (.iconst 0, 1) := by decide +kernel
theorem dX12_alter_68 : decode cX12_alter 68 = .ok (.iconst 3, 1) := by decide +kernel
theorem dX12_alter_69 : decode cX12_alter 69 = .ok (.invokevirtual 65, 3) := by decide +kernel
theorem dX12_alter_72 : decode cX12_alter 72 = .ok (.ifCond .eq 5, 3) := by decide +kernel
theorem dX12_alter_75 : decode cX12_alter 75 = .ok (.iconst 0, 1) := by decide +kernel
theorem dX12_alter_76 : decode cX12_alter 76 = .ok (.ireturn, 1) := by decide +kernel
theorem dX12_alter_77 : decode cX12_alter 77 = .ok (.sipush 11276, 3) := by decide +kernel
theorem dX12_alter_80 : decode cX12_alter 80 = .ok (.iconst 4, 1) := by decide +kernel
theorem dX12_alter_81 : decode cX12_alter 81 = .ok (.iload_n 1, 1) := by decide +kernel
theorem dX12_alter_82 : decode cX12_alter 82 = .ok (.imul, 1) := by decide +kernel
theorem dX12_alter_83 : decode cX12_alter 83 = .ok (.iadd, 1) := by decide +kernel
theorem dX12_alter_84 : decode cX12_alter 84 = .ok (.istore 4, 2) := by decide +kernel
theorem dX12_alter_86 : decode cX12_alter 86 = .ok (.aload_n 0, 1) := by decide +kernel
theorem dX12_alter_87 : decode cX12_alter 87 = .ok (.getfield 14, 3) := by decide +kernel
theorem dX12_alter_90 : decode cX12_alter 90 = .ok (.iload 4, 2) := by decide +kernel
theorem dX12_alter_92 : decode cX12_alter 92 = .ok (.iaload, 1) := by decide +kernel
theorem dX12_alter_93 : decode cX12_alter 93 = .ok (.iload_n 2, 1) := by decide +kernel
theorem dX12_alter_94 : decode cX12_alter 94 = .ok (.if_icmp .ne 5, 3) := by decide +kernel
theorem dX12_alter_97 : decode cX12_alter 97 = .ok (.iconst 0, 1) := by decide +kernel
theorem dX12_alter_98 : decode cX12_alter 98 = .ok (.ireturn, 1) := by decide +kernel
theorem dX12_alter_99 : decode cX12_alter 99 = .ok (.aload_n 0, 1) := by decide +kernel
theorem dX12_alter_100 : decode cX12_alter 100 = .ok (.getfield 14, 3) := by decide +kernel
theorem dX12_alter_103 : decode cX12_alter 103 = .ok (.iload 4, 2) := by decide +kernel
theorem dX12_alter_105 : decode cX12_alter 105 = .ok (.iload_n 2, 1) := by decide +kernel
theorem dX12_alter_106 : decode cX12_alter 106 = .ok (.iastore, 1) := by decide +kernel
theorem dX12_alter_107 : decode cX12_alter 107 = .ok (.aload_n 0, 1) := by decide +kernel
theorem dX12_alter_108 : decode cX12_alter 108 = .ok (.getfield 14, 3) := by decide +kernel
theorem dX12_alter_111 : decode cX12_alter 111 = .ok (.iload 4, 2) := by decide +kernel
theorem dX12_alter_113 : decode cX12_alter 113 = .ok (.iconst 2, 1) := by decide +kernel
theorem dX12_alter_114 : decode cX12_alter 114 = .ok (.iadd, 1) := by decide +kernel
theorem dX12_alter_115 : decode cX12_alter 115 = .ok (.iload_n 3, 1) := by decide +kernel
theorem dX12_alter_116 : decode cX12_alter 116 = .ok (.iastore, 1) := by decide +kernel
theorem dX12_alter_117 : decode cX12_alter 117 = .ok (.aload_n 0, 1) := by decide +kernel
theorem dX12_alter_118 : decode cX12_alter 118 = .ok (.getfield 14, 3) := by decide +kernel
theorem dX12_alter_121 : decode cX12_alter 121 = .ok (.iload 4, 2) := by decide +kernel
theorem dX12_alter_123 : decode cX12_alter 123 = .ok (.iconst 3, 1) := by decide +kernel
theorem dX12_alter_124 : decode cX12_alter 124 = .ok (.iadd, 1) := by decide +kernel
theorem dX12_alter_125 : decode cX12_alter 125 = .ok (.dup2, 1) := by decide +kernel
theorem dX12_alter_126 : decode cX12_alter 126 = .ok (.iaload, 1) := by decide +kernel
theorem dX12_alter_127 : decode cX12_alter 127 = .ok (.iconst 1, 1) := by decide +kernel
theorem dX12_alter_128 : decode cX12_alter 128 = .ok (.iadd, 1) := by decide +kernel
theorem dX12_alter_129 : decode cX12_alter 129 = .ok (.iastore, 1) := by decide +kernel
theorem dX12_alter_130 : decode cX12_alter 130 = .ok (.iconst 1, 1) := by decide +kernel
theorem dX12_alter_131 : decode cX12_alter 131 = .ok (.ireturn, 1) := by decide +kernel
theorem dX12_payOf_0 : decode cX12_payOf 0 = .ok (.aload_n 0, 1) := by decide +kernel
theorem dX12_payOf_1 : decode cX12_payOf 1 = .ok (.getfield 14, 3) := by decide +kernel
theorem dX12_payOf_4 : decode cX12_payOf 4 = .ok (.sipush 11276, 3) := by decide +kernel
theorem dX12_payOf_7 : decode cX12_payOf 7 = .ok (.iconst 4, 1) := by decide +kernel
theorem dX12_payOf_8 : decode cX12_payOf 8 = .ok (.iload_n 1, 1) := by decide +kernel
theorem dX12_payOf_9 : decode cX12_payOf 9 = .ok (.imul, 1) := by decide +kernel
theorem dX12_payOf_10 : decode cX12_payOf 10 = .ok (.iadd, 1) := by decide +kernel
theorem dX12_payOf_11 : decode cX12_payOf 11 = .ok (.iaload, 1) := by decide +kernel
theorem dX12_payOf_12 : decode cX12_payOf 12 = .ok (.istore_n 2, 1) := by decide +kernel
theorem dX12_payOf_13 : decode cX12_payOf 13 = .ok (.iconst 2, 1) := by decide +kernel
theorem dX12_payOf_14 : decode cX12_payOf 14 = .ok (.iload_n 2, 1) := by decide +kernel
theorem dX12_payOf_15 : decode cX12_payOf 15 = .ok (.imul, 1) := by decide +kernel
theorem dX12_payOf_16 : decode cX12_payOf 16 = .ok (.iconst 0, 1) := by decide +kernel
theorem dX12_payOf_17 : decode cX12_payOf 17 = .ok (.iload_n 2, 1) := by decide +kernel
theorem dX12_payOf_18 : decode cX12_payOf 18 = .ok (.bipush 40, 2) := by decide +kernel
theorem dX12_payOf_20 : decode cX12_payOf 20 = .ok (.isub, 1) := by decide +kernel
theorem dX12_payOf_21 : decode cX12_payOf 21 = .ok (.invokestatic 345, 3) := by decide +kernel
theorem dX12_payOf_24 : decode cX12_payOf 24 = .ok (.iadd, 1) := by decide +kernel
theorem dX12_payOf_25 : decode cX12_payOf 25 = .ok (.aload_n 0, 1) := by decide +kernel
theorem dX12_payOf_26 : decode cX12_payOf 26 = .ok (.getfield 14, 3) := by decide +kernel
theorem dX12_payOf_29 : decode cX12_payOf 29 = .ok (.sipush 11276, 3) := by decide +kernel
theorem dX12_payOf_32 : decode cX12_payOf 32 = .ok (.iconst 4, 1) := by decide +kernel
theorem dX12_payOf_33 : decode cX12_payOf 33 = .ok (.iload_n 1, 1) := by decide +kernel
theorem dX12_payOf_34 : decode cX12_payOf 34 = .ok (.imul, 1) := by decide +kernel
theorem dX12_payOf_35 : decode cX12_payOf 35 = .ok (.iadd, 1) := by decide +kernel
theorem dX12_payOf_36 : decode cX12_payOf 36 = .ok (.iconst 1, 1) := by decide +kernel
theorem dX12_payOf_37 : decode cX12_payOf 37 = .ok (.iadd, 1) := by decide +kernel
theorem dX12_payOf_38 : decode cX12_payOf 38 = .ok (.iaload, 1) := by decide +kernel
theorem dX12_payOf_39 : decode cX12_payOf 39 = .ok (.imul, 1) := by decide +kernel
theorem dX12_payOf_40 : decode cX12_payOf 40 = .ok (.iconst 2, 1) := by decide +kernel
theorem dX12_payOf_41 : decode cX12_payOf 41 = .ok (.idiv, 1) := by decide +kernel
theorem dX12_payOf_42 : decode cX12_payOf 42 = .ok (.ireturn, 1) := by decide +kernel
theorem dX12_pay_0 : decode cX12_pay 0 = .ok (.aload_n 0, 1) := by decide +kernel
theorem dX12_pay_1 : decode cX12_pay 1 = .ok (.iconst 0, 1) := by decide +kernel
theorem dX12_pay_2 : decode cX12_pay 2 = .ok (.putfield 3, 3) := by decide +kernel
theorem dX12_pay_5 : decode cX12_pay 5 = .ok (.aload_n 0, 1) := by decide +kernel
theorem dX12_pay_6 : decode cX12_pay 6 = .ok (.aload_n 0, 1) := by decide +kernel
theorem dX12_pay_7 : decode cX12_pay 7 = .ok (.iload_n 1, 1) := by decide +kernel
theorem dX12_pay_8 : decode cX12_pay 8 = .ok (.invokevirtual 376, 3) := by decide +kernel
theorem dX12_pay_11 : decode cX12_pay 11 = .ok (.iconst 1, 1) := by decide +kernel
theorem dX12_pay_12 : decode cX12_pay 12 = .ok (.invokevirtual 65, 3) := by decide +kernel
theorem dX12_pay_15 : decode cX12_pay 15 = .ok (.ifCond .ne 25, 3) := by decide +kernel
theorem dX12_pay_18 : decode cX12_pay 18 = .ok (.aload_n 0, 1) := by decide +kernel
theorem dX12_pay_19 : decode cX12_pay 19 = .ok (.iload_n 2, 1) := by decide +kernel
theorem dX12_pay_20 : decode cX12_pay 20 = .ok (.iconst 0, 1) := by decide +kernel
theorem dX12_pay_21 : decode cX12_pay 21 = .ok (.iconst 3, 1) := by decide +kernel
theorem dX12_pay_22 : decode cX12_pay 22 = .ok (.invokestatic 61, 3) := by decide +kernel
theorem dX12_pay_25 : decode cX12_pay 25 = .ok (.ifCond .ne 7, 3) := by decide +kernel
theorem dX12_pay_28 : decode cX12_pay 28 = .ok (.iconst 1, 1) := by decide +kernel
theorem dX12_pay_29 : decode cX12_pay 29 = .ok (.goto 4, 3) := by decide +kernel
theorem dX12_pay_32 : decode cX12_pay 32 = .ok (.iconst 0, 1) := by decide +kernel
theorem dX12_pay_33 : decode cX12_pay 33 = .ok (.iconst 2, 1) := by decide +kernel
theorem dX12_pay_34 : decode cX12_pay 34 = .ok (.invokevirtual 65, 3) := by decide +kernel
theorem dX12_pay_37 : decode cX12_pay 37 = .ok (.ifCond .eq 5, 3) := by decide +kernel
theorem dX12_pay_40 : decode cX12_pay 40 = .ok (.iconst 0, 1) := by decide +kernel
theorem dX12_pay_41 : decode cX12_pay 41 = .ok (.ireturn, 1) := by decide +kernel
theorem dX12_pay_42 : decode cX12_pay 42 = .ok (.iload_n 2, 1) := by decide +kernel
theorem dX12_pay_43 : decode cX12_pay 43 = .ok (.ifCond .ne 11, 3) := by decide +kernel
theorem dX12_pay_46 : decode cX12_pay 46 = .ok (.aload_n 0, 1) := by decide +kernel
theorem dX12_pay_47 : decode cX12_pay 47 = .ok (.iload_n 1, 1) := by decide +kernel
theorem dX12_pay_48 : decode cX12_pay 48 = .ok (.invokevirtual 379, 3) := by decide +kernel
theorem dX12_pay_51 : decode cX12_pay 51 = .ok (.goto 26, 3) := by decide +kernel
theorem dX12_pay_54 : decode cX12_pay 54 = .ok (.aload_n 0, 1) := by decide +kernel
theorem dX12_pay_55 : decode cX12_pay 55 = .ok (.getfield 14, 3) := by decide +kernel
theorem dX12_pay_58 : decode cX12_pay 58 = .ok (.sipush 11276, 3) := by decide +kernel
theorem dX12_pay_61 : decode cX12_pay 61 = .ok (.iconst 4, 1) := by decide +kernel
theorem dX12_pay_62 : decode cX12_pay 62 = .ok (.iload_n 1, 1) := by decide +kernel
theorem dX12_pay_63 : decode cX12_pay 63 = .ok (.imul, 1) := by decide +kernel
theorem dX12_pay_64 : decode cX12_pay 64 = .ok (.iadd, 1) := by decide +kernel
theorem dX12_pay_65 : decode cX12_pay 65 = .ok (.iload_n 2, 1) := by decide +kernel
theorem dX12_pay_66 : decode cX12_pay 66 = .ok (.iconst 1, 1) := by decide +kernel
theorem dX12_pay_67 : decode cX12_pay 67 = .ok (.if_icmp .ne 7, 3) := by decide +kernel
theorem dX12_pay_70 : decode cX12_pay 70 = .ok (.iconst 0, 1) := by decide +kernel
theorem dX12_pay_71 : decode cX12_pay 71 = .ok (.goto 4, 3) := by decide +kernel
theorem dX12_pay_74 : decode cX12_pay 74 = .ok (.iload_n 2, 1) := by decide +kernel
theorem dX12_pay_75 : decode cX12_pay 75 = .ok (.iadd, 1) := by decide +kernel
theorem dX12_pay_76 : decode cX12_pay 76 = .ok (.iaload, 1) := by decide +kernel
theorem dX12_pay_77 : decode cX12_pay 77 = .ok (.ireturn, 1) := by decide +kernel
theorem dX12_wages_0 : decode cX12_wages 0 = .ok (.aload_n 0, 1) := by decide +kernel
theorem dX12_wages_1 : decode cX12_wages 1 = .ok (.iconst 0, 1) := by decide +kernel
theorem dX12_wages_2 : decode cX12_wages 2 = .ok (.putfield 3, 3) := by decide +kernel
theorem dX12_wages_5 : decode cX12_wages 5 = .ok (.iconst 0, 1) := by decide +kernel
theorem dX12_wages_6 : decode cX12_wages 6 = .ok (.istore_n 1, 1) := by decide +kernel
theorem dX12_wages_7 : decode cX12_wages 7 = .ok (.aload_n 0, 1) := by decide +kernel
theorem dX12_wages_8 : decode cX12_wages 8 = .ok (.getfield 14, 3) := by decide +kernel
theorem dX12_wages_11 : decode cX12_wages 11 = .ok (.bipush 6, 2) := by decide +kernel
theorem dX12_wages_13 : decode cX12_wages 13 = .ok (.iaload, 1) := by decide +kernel
theorem dX12_wages_14 : decode cX12_wages 14 = .ok (.ifCond .ne 7, 3) := by decide +kernel
theorem dX12_wages_17 : decode cX12_wages 17 = .ok (.iconst 1, 1) := by decide +kernel
theorem dX12_wages_18 : decode cX12_wages 18 = .ok (.goto 4, 3) := by decide +kernel
theorem dX12_wages_21 : decode cX12_wages 21 = .ok (.iconst 0, 1) := by decide +kernel
theorem dX12_wages_22 : decode cX12_wages 22 = .ok (.istore_n 2, 1) := by decide +kernel
theorem dX12_wages_23 : decode cX12_wages 23 = .ok (.iconst 0, 1) := by decide +kernel
theorem dX12_wages_24 : decode cX12_wages 24 = .ok (.istore_n 3, 1) := by decide +kernel
theorem dX12_wages_25 : decode cX12_wages 25 = .ok (.iload_n 3, 1) := by decide +kernel
theorem dX12_wages_26 : decode cX12_wages 26 = .ok (.aload_n 0, 1) := by decide +kernel
theorem dX12_wages_27 : decode cX12_wages 27 = .ok (.getfield 14, 3) := by decide +kernel
theorem dX12_wages_30 : decode cX12_wages 30 = .ok (.bipush 8, 2) := by decide +kernel
theorem dX12_wages_32 : decode cX12_wages 32 = .ok (.iaload, 1) := by decide +kernel
theorem dX12_wages_33 : decode cX12_wages 33 = .ok (.if_icmp .ge 33, 3) := by decide +kernel
theorem dX12_wages_36 : decode cX12_wages 36 = .ok (.iload_n 2, 1) := by decide +kernel
theorem dX12_wages_37 : decode cX12_wages 37 = .ok (.ifCond .eq 29, 3) := by decide +kernel
theorem dX12_wages_40 : decode cX12_wages 40 = .ok (.aload_n 0, 1) := by decide +kernel
theorem dX12_wages_41 : decode cX12_wages 41 = .ok (.iload_n 3, 1) := by decide +kernel
theorem dX12_wages_42 : decode cX12_wages 42 = .ok (.iconst 4, 1) := by decide +kernel
theorem dX12_wages_43 : decode cX12_wages 43 = .ok (.invokevirtual 250, 3) := by decide +kernel
theorem dX12_wages_46 : decode cX12_wages 46 = .ok (.ifCond .ne 6, 3) := by decide +kernel
theorem dX12_wages_49 : decode cX12_wages 49 = .ok (.goto 11, 3) := by decide +kernel
theorem dX12_wages_52 : decode cX12_wages 52 = .ok (.iconst 1, 1) := by decide +kernel
theorem dX12_wages_53 : decode cX12_wages 53 = .ok (.istore_n 1, 1) := by decide +kernel
theorem dX12_wages_54 : decode cX12_wages 54 = .ok (.aload_n 0, 1) := by decide +kernel
theorem dX12_wages_55 : decode cX12_wages 55 = .ok (.iload_n 3, 1) := by decide +kernel
theorem dX12_wages_56 : decode cX12_wages 56 = .ok (.invokevirtual 324, 3) := by decide +kernel
theorem dX12_wages_59 : decode cX12_wages 59 = .ok (.istore_n 2, 1) := by decide +kernel
theorem dX12_wages_60 : decode cX12_wages 60 = .ok (.iinc 3 1, 3) := by decide +kernel
theorem dX12_wages_63 : decode cX12_wages 63 = .ok (.goto (-38), 3) := by decide +kernel
theorem dX12_wages_66 : decode cX12_wages 66 = .ok (.iload_n 1, 1) := by decide +kernel
theorem dX12_wages_67 : decode cX12_wages 67 = .ok (.ifCond .eq 7, 3) := by decide +kernel
theorem dX12_wages_70 : decode cX12_wages 70 = .ok (.iload_n 2, 1) := by decide +kernel
theorem dX12_wages_71 : decode cX12_wages 71 = .ok (.ifCond .ne 5, 3) := by decide +kernel
theorem dX12_wages_74 : decode cX12_wages 74 = .ok (.iconst (-1), 1) := by decide +kernel
theorem dX12_wages_75 : decode cX12_wages 75 = .ok (.ireturn, 1) := by decide +kernel
theorem dX12_wages_76 : decode cX12_wages 76 = .ok (.aload_n 0, 1) := by decide +kernel
theorem dX12_wages_77 : decode cX12_wages 77 = .ok (.getfield 14, 3) := by decide +kernel
theorem dX12_wages_80 : decode cX12_wages 80 = .ok (.bipush 6, 2) := by decide +kernel
theorem dX12_wages_82 : decode cX12_wages 82 = .ok (.iconst 1, 1) := by decide +kernel
theorem dX12_wages_83 : decode cX12_wages 83 = .ok (.iastore, 1) := by decide +kernel
theorem dX12_wages_84 : decode cX12_wages 84 = .ok (.iconst 0, 1) := by decide +kernel
theorem dX12_wages_85 : decode cX12_wages 85 = .ok (.istore_n 3, 1) := by decide +kernel
theorem dX12_wages_86 : decode cX12_wages 86 = .ok (.iconst 0, 1) := by decide +kernel
theorem dX12_wages_87 : decode cX12_wages 87 = .ok (.istore 4, 2) := by decide +kernel
theorem dX12_wages_89 : decode cX12_wages 89 = .ok (.iload 4, 2) := by decide +kernel
theorem dX12_wages_91 : decode cX12_wages 91 = .ok (.aload_n 0, 1) := by decide +kernel
theorem dX12_wages_92 : decode cX12_wages 92 = .ok (.getfield 14, 3) := by decide +kernel
theorem dX12_wages_95 : decode cX12_wages 95 = .ok (.sipush 11275, 3) := by decide +kernel
theorem dX12_wages_98 : decode cX12_wages 98 = .ok (.iaload, 1) := by decide +kernel
theorem dX12_wages_99 : decode cX12_wages 99 = .ok (.if_icmp .ge 18, 3) := by decide +kernel
theorem dX12_wages_102 : decode cX12_wages 102 = .ok (.iload_n 3, 1) := by decide +kernel
theorem dX12_wages_103 : decode cX12_wages 103 = .ok (.aload_n 0, 1) := by decide +kernel
theorem dX12_wages_104 : decode cX12_wages 104 = .ok (.iload 4, 2) := by decide +kernel
theorem dX12_wages_106 : decode cX12_wages 106 = .ok (.invokevirtual 379, 3) := by decide +kernel
theorem dX12_wages_109 : decode cX12_wages 109 = .ok (.iadd, 1) := by decide +kernel
theorem dX12_wages_110 : decode cX12_wages 110 = .ok (.istore_n 3, 1) := by decide +kernel
theorem dX12_wages_111 : decode cX12_wages 111 = .ok (.iinc 4 1, 3) := by decide +kernel
theorem dX12_wages_114 : decode cX12_wages 114 = .ok (.goto (-25), 3) := by decide +kernel
theorem dX12_wages_117 : decode cX12_wages 117 = .ok (.iload_n 3, 1) := by decide +kernel
theorem dX12_wages_118 : decode cX12_wages 118 = .ok (.ireturn, 1) := by decide +kernel
theorem dX12_optionOf_0 : decode cX12_optionOf 0 = .ok (.iload_n 0, 1) := by decide +kernel
theorem dX12_optionOf_1 : decode cX12_optionOf 1 = .ok (.iconst 2, 1) := by decide +kernel
theorem dX12_optionOf_2 : decode cX12_optionOf 2 = .ok (.iload_n 1, 1) := by decide +kernel
theorem dX12_optionOf_3 : decode cX12_optionOf 3 = .ok (.iconst 1, 1) := by decide +kernel
theorem dX12_optionOf_4 : decode cX12_optionOf 4 = .ok (.isub, 1) := by decide +kernel
theorem dX12_optionOf_5 : decode cX12_optionOf 5 = .ok (.iload_n 2, 1) := by decide +kernel
theorem dX12_optionOf_6 : decode cX12_optionOf 6 = .ok (.isub, 1) := by decide +kernel
theorem dX12_optionOf_7 : decode cX12_optionOf 7 = .ok (.imul, 1) := by decide +kernel
theorem dX12_optionOf_8 : decode cX12_optionOf 8 = .ok (.ishr, 1) := by decide +kernel
theorem dX12_optionOf_9 : decode cX12_optionOf 9 = .ok (.iconst 3, 1) := by decide +kernel
theorem dX12_optionOf_10 : decode cX12_optionOf 10 = .ok (.iand, 1) := by decide +kernel
theorem dX12_optionOf_11 : decode cX12_optionOf 11 = .ok (.ireturn, 1) := by decide +kernel
theorem dX12_plans_0 : decode cX12_plans 0 = .ok (.aload_n 0, 1) := by decide +kernel
theorem dX12_plans_1 : decode cX12_plans 1 = .ok (.iconst 0, 1) := by decide +kernel
theorem dX12_plans_2 : decode cX12_plans 2 = .ok (.putfield 382, 3) := by decide +kernel
theorem dX12_plans_5 : decode cX12_plans 5 = .ok (.iconst 0, 1) := by decide +kernel
theorem dX12_plans_6 : decode cX12_plans 6 = .ok (.istore_n 3, 1) := by decide +kernel
theorem dX12_plans_7 : decode cX12_plans 7 = .ok (.iload_n 3, 1) := by decide +kernel
theorem dX12_plans_8 : decode cX12_plans 8 = .ok (.aload_n 0, 1) := by decide +kernel
theorem dX12_plans_9 : decode cX12_plans 9 = .ok (.getfield 14, 3) := by decide +kernel
theorem dX12_plans_12 : decode cX12_plans 12 = .ok (.bipush 8, 2) := by decide +kernel
theorem dX12_plans_14 : decode cX12_plans 14 = .ok (.iaload, 1) := by decide +kernel
theorem dX12_plans_15 : decode cX12_plans 15 = .ok (.if_icmp .ge 51, 3) := by decide +kernel
theorem dX12_plans_18 : decode cX12_plans 18 = .ok (.aload_n 0, 1) := by decide +kernel
theorem dX12_plans_19 : decode cX12_plans 19 = .ok (.getfield 382, 3) := by decide +kernel
theorem dX12_plans_22 : decode cX12_plans 22 = .ok (.bipush 7, 2) := by decide +kernel
theorem dX12_plans_24 : decode cX12_plans 24 = .ok (.if_icmp .ge 42, 3) := by decide +kernel
theorem dX12_plans_27 : decode cX12_plans 27 = .ok (.aload_n 0, 1) := by decide +kernel
theorem dX12_plans_28 : decode cX12_plans 28 = .ok (.iload_n 3, 1) := by decide +kernel
theorem dX12_plans_29 : decode cX12_plans 29 = .ok (.bipush 8, 2) := by decide +kernel
theorem dX12_plans_31 : decode cX12_plans 31 = .ok (.invokevirtual 250, 3) := by decide +kernel
theorem dX12_plans_34 : decode cX12_plans 34 = .ok (.ifCond .eq 6, 3) := by decide +kernel
theorem dX12_plans_37 : decode cX12_plans 37 = .ok (.goto 23, 3) := by decide +kernel
theorem dX12_plans_40 : decode cX12_plans 40 = .ok (.aload_n 0, 1) := by decide +kernel
theorem dX12_plans_41 : decode cX12_plans 41 = .ok (.getfield 48, 3) := by decide +kernel
theorem dX12_plans_44 : decode cX12_plans 44 = .ok (.aload_n 0, 1) := by decide +kernel
theorem dX12_plans_45 : decode cX12_plans 45 = .ok (.getfield 382, 3) := by decide +kernel
theorem dX12_plans_48 : decode cX12_plans 48 = .ok (.iload_n 3, 1) := by decide +kernel
theorem dX12_plans_49 : decode cX12_plans 49 = .ok (.iastore, 1) := by decide +kernel
theorem dX12_plans_50 : decode cX12_plans 50 = .ok (.aload_n 0, 1) := by decide +kernel
theorem dX12_plans_51 : decode cX12_plans 51 = .ok (.dup, 1) := by decide +kernel
theorem dX12_plans_52 : decode cX12_plans 52 = .ok (.getfield 382, 3) := by decide +kernel
theorem dX12_plans_55 : decode cX12_plans 55 = .ok (.iconst 1, 1) := by decide +kernel
theorem dX12_plans_56 : decode cX12_plans 56 = .ok (.iadd, 1) := by decide +kernel
theorem dX12_plans_57 : decode cX12_plans 57 = .ok (.putfield 382, 3) := by decide +kernel
theorem dX12_plans_60 : decode cX12_plans 60 = .ok (.iinc 3 1, 3) := by decide +kernel
theorem dX12_plans_63 : decode cX12_plans 63 = .ok (.goto (-56), 3) := by decide +kernel
theorem dX12_plans_66 : decode cX12_plans 66 = .ok (.aload_n 0, 1) := by decide +kernel
theorem dX12_plans_67 : decode cX12_plans 67 = .ok (.iconst (-1), 1) := by decide +kernel
theorem dX12_plans_68 : decode cX12_plans 68 = .ok (.putfield 385, 3) := by decide +kernel
theorem dX12_plans_71 : decode cX12_plans 71 = .ok (.iconst 0, 1) := by decide +kernel
theorem dX12_plans_72 : decode cX12_plans 72 = .ok (.istore_n 3, 1) := by decide +kernel
theorem dX12_plans_73 : decode cX12_plans 73 = .ok (.iconst 0, 1) := by decide +kernel
theorem dX12_plans_74 : decode cX12_plans 74 = .ok (.istore 4, 2) := by decide +kernel
theorem dX12_plans_76 : decode cX12_plans 76 = .ok (.iconst 0, 1) := by decide +kernel
theorem dX12_plans_77 : decode cX12_plans 77 = .ok (.istore 5, 2) := by decide +kernel
theorem dX12_plans_79 : decode cX12_plans 79 = .ok (.iload 5, 2) := by decide +kernel
theorem dX12_plans_81 : decode cX12_plans 81 = .ok (.iconst 1, 1) := by decide +kernel
theorem dX12_plans_82 : decode cX12_plans 82 = .ok (.iconst 2, 1) := by decide +kernel
theorem dX12_plans_83 : decode cX12_plans 83 = .ok (.aload_n 0, 1) := by decide +kernel
theorem dX12_plans_84 : decode cX12_plans 84 = .ok (.getfield 382, 3) := by decide +kernel
theorem dX12_plans_87 : decode cX12_plans 87 = .ok (.imul, 1) := by decide +kernel
theorem dX12_plans_88 : decode cX12_plans 88 = .ok (.ishl, 1) := by decide +kernel
theorem dX12_plans_89 : decode cX12_plans 89 = .ok (.if_icmp .ge 378, 3) := by decide +kernel
theorem dX12_plans_92 : decode cX12_plans 92 = .ok (.iconst 0, 1) := by decide +kernel
theorem dX12_plans_93 : decode cX12_plans 93 = .ok (.istore 6, 2) := by decide +kernel
theorem dX12_plans_95 : decode cX12_plans 95 = .ok (.iconst 0, 1) := by decide +kernel
theorem dX12_plans_96 : decode cX12_plans 96 = .ok (.istore 7, 2) := by decide +kernel
theorem dX12_plans_98 : decode cX12_plans 98 = .ok (.iconst 0, 1) := by decide +kernel
theorem dX12_plans_99 : decode cX12_plans 99 = .ok (.istore 8, 2) := by decide +kernel
theorem dX12_plans_101 : decode cX12_plans 101 = .ok (.iconst 0, 1) := by decide +kernel
theorem dX12_plans_102 : decode cX12_plans 102 = .ok (.istore 9, 2) := by decide +kernel
theorem dX12_plans_104 : decode cX12_plans 104 = .ok (.iconst 1, 1) := by decide +kernel
theorem dX12_plans_105 : decode cX12_plans 105 = .ok (.istore 10, 2) := by decide +kernel
theorem dX12_plans_107 : decode cX12_plans 107 = .ok (.iconst 0, 1) := by decide +kernel
theorem dX12_plans_108 : decode cX12_plans 108 = .ok (.istore 11, 2) := by decide +kernel
theorem dX12_plans_110 : decode cX12_plans 110 = .ok (.iload 11, 2) := by decide +kernel
theorem dX12_plans_112 : decode cX12_plans 112 = .ok (.aload_n 0, 1) := by decide +kernel
theorem dX12_plans_113 : decode cX12_plans 113 = .ok (.getfield 382, 3) := by decide +kernel
theorem dX12_plans_116 : decode cX12_plans 116 = .ok (.if_icmp .ge 192, 3) := by decide +kernel
theorem dX12_plans_119 : decode cX12_plans 119 = .ok (.aload_n 0, 1) := by decide +kernel
theorem dX12_plans_120 : decode cX12_plans 120 = .ok (.getfield 48, 3) := by decide +kernel
theorem dX12_plans_123 : decode cX12_plans 123 = .ok (.iload 11, 2) := by decide +kernel
theorem dX12_plans_125 : decode cX12_plans 125 = .ok (.iaload, 1) := by decide +kernel
theorem dX12_plans_126 : decode cX12_plans 126 = .ok (.istore 12, 2) := by decide +kernel
theorem dX12_plans_128 : decode cX12_plans 128 = .ok (.iload 5, 2) := by decide +kernel
theorem dX12_plans_130 : decode cX12_plans 130 = .ok (.aload_n 0, 1) := by decide +kernel
theorem dX12_plans_131 : decode cX12_plans 131 = .ok (.getfield 382, 3) := by decide +kernel
theorem dX12_plans_134 : decode cX12_plans 134 = .ok (.iload 11, 2) := by decide +kernel
theorem dX12_plans_136 : decode cX12_plans 136 = .ok (.invokestatic 388, 3) := by decide +kernel
theorem dX12_plans_139 : decode cX12_plans 139 = .ok (.istore 13, 2) := by decide +kernel
theorem dX12_plans_141 : decode cX12_plans 141 = .ok (.iload 10, 2) := by decide +kernel
theorem dX12_plans_143 : decode cX12_plans 143 = .ok (.ifCond .eq 39, 3) := by decide +kernel
theorem dX12_plans_146 : decode cX12_plans 146 = .ok (.iload 13, 2) := by decide +kernel
theorem dX12_plans_148 : decode cX12_plans 148 = .ok (.iconst 1, 1) := by decide +kernel
theorem dX12_plans_149 : decode cX12_plans 149 = .ok (.if_icmp .ne 13, 3) := by decide +kernel
theorem dX12_plans_152 : decode cX12_plans 152 = .ok (.aload_n 0, 1) := by decide +kernel
theorem dX12_plans_153 : decode cX12_plans 153 = .ok (.iload 12, 2) := by decide +kernel
theorem dX12_plans_155 : decode cX12_plans 155 = .ok (.iconst 5, 1) := by decide +kernel
theorem dX12_plans_156 : decode cX12_plans 156 = .ok (.invokevirtual 250, 3) := by decide +kernel
theorem dX12_plans_159 : decode cX12_plans 159 = .ok (.ifCond .le 23, 3) := by decide +kernel
theorem dX12_plans_162 : decode cX12_plans 162 = .ok (.iload 13, 2) := by decide +kernel
theorem dX12_plans_164 : decode cX12_plans 164 = .ok (.iconst 2, 1) := by decide +kernel
theorem dX12_plans_165 : decode cX12_plans 165 = .ok (.if_icmp .ne 13, 3) := by decide +kernel
theorem dX12_plans_168 : decode cX12_plans 168 = .ok (.aload_n 0, 1) := by decide +kernel
theorem dX12_plans_169 : decode cX12_plans 169 = .ok (.iload 12, 2) := by decide +kernel
theorem dX12_plans_171 : decode cX12_plans 171 = .ok (.iconst 2, 1) := by decide +kernel
theorem dX12_plans_172 : decode cX12_plans 172 = .ok (.invokevirtual 250, 3) := by decide +kernel
theorem dX12_plans_175 : decode cX12_plans 175 = .ok (.ifCond .le 7, 3) := by decide +kernel
theorem dX12_plans_178 : decode cX12_plans 178 = .ok (.iconst 1, 1) := by decide +kernel
theorem dX12_plans_179 : decode cX12_plans 179 = .ok (.goto 4, 3) := by decide +kernel
theorem dX12_plans_182 : decode cX12_plans 182 = .ok (.iconst 0, 1) := by decide +kernel
theorem dX12_plans_183 : decode cX12_plans 183 = .ok (.istore 10, 2) := by decide +kernel
theorem dX12_plans_185 : decode cX12_plans 185 = .ok (.iload 6, 2) := by decide +kernel
theorem dX12_plans_187 : decode cX12_plans 187 = .ok (.iload 13, 2) := by decide +kernel
theorem dX12_plans_189 : decode cX12_plans 189 = .ok (.iconst 3, 1) := by decide +kernel
theorem dX12_plans_190 : decode cX12_plans 190 = .ok (.if_icmp .ne 7, 3) := by decide +kernel
theorem dX12_plans_193 : decode cX12_plans 193 = .ok (.iconst 0, 1) := by decide +kernel
theorem dX12_plans_194 : decode cX12_plans 194 = .ok (.goto 27, 3) := by decide +kernel
theorem dX12_plans_197 : decode cX12_plans 197 = .ok (.iload 13, 2) := by decide +kernel
theorem dX12_plans_199 : decode cX12_plans 199 = .ok (.iconst 1, 1) := by decide +kernel
theorem dX12_plans_200 : decode cX12_plans 200 = .ok (.if_icmp .ne 14, 3) := by decide +kernel
theorem dX12_plans_203 : decode cX12_plans 203 = .ok (.aload_n 0, 1) := by decide +kernel
theorem dX12_plans_204 : decode cX12_plans 204 = .ok (.iload 12, 2) := by decide +kernel
theorem dX12_plans_206 : decode cX12_plans 206 = .ok (.bipush 6, 2) := by decide +kernel
theorem dX12_plans_208 : decode cX12_plans 208 = .ok (.invokevirtual 250, 3) := by decide +kernel
theorem dX12_plans_211 : decode cX12_plans 211 = .ok (.goto 10, 3) := by decide +kernel
theorem dX12_plans_214 : decode cX12_plans 214 = .ok (.aload_n 0, 1) := by decide +kernel
theorem dX12_plans_215 : decode cX12_plans 215 = .ok (.iload 12, 2) := by decide +kernel
theorem dX12_plans_217 : decode cX12_plans 217 = .ok (.iconst 1, 1) := by decide +kernel
theorem dX12_plans_218 : decode cX12_plans 218 = .ok (.invokevirtual 250, 3) := by decide +kernel
theorem dX12_plans_221 : decode cX12_plans 221 = .ok (.iadd, 1) := by decide +kernel
theorem dX12_plans_222 : decode cX12_plans 222 = .ok (.istore 6, 2) := by decide +kernel
theorem dX12_plans_224 : decode cX12_plans 224 = .ok (.iload 7, 2) := by decide +kernel
theorem dX12_plans_226 : decode cX12_plans 226 = .ok (.iload 13, 2) := by decide +kernel
theorem dX12_plans_228 : decode cX12_plans 228 = .ok (.ifCond .ne 13, 3) := by decide +kernel
theorem dX12_plans_231 : decode cX12_plans 231 = .ok (.aload_n 0, 1) := by decide +kernel
theorem dX12_plans_232 : decode cX12_plans 232 = .ok (.iload 12, 2) := by decide +kernel
theorem dX12_plans_234 : decode cX12_plans 234 = .ok (.iconst 0, 1) := by decide +kernel
theorem dX12_plans_235 : decode cX12_plans 235 = .ok (.invokevirtual 250, 3) := by decide +kernel
theorem dX12_plans_238 : decode cX12_plans 238 = .ok (.goto 20, 3) := by decide +kernel
theorem dX12_plans_241 : decode cX12_plans 241 = .ok (.iload 13, 2) := by decide +kernel
theorem dX12_plans_243 : decode cX12_plans 243 = .ok (.iconst 1, 1) := by decide +kernel
theorem dX12_plans_244 : decode cX12_plans 244 = .ok (.if_icmp .ne 13, 3) := by decide +kernel
theorem dX12_plans_247 : decode cX12_plans 247 = .ok (.aload_n 0, 1) := by decide +kernel
theorem dX12_plans_248 : decode cX12_plans 248 = .ok (.iload 12, 2) := by decide +kernel
theorem dX12_plans_250 : decode cX12_plans 250 = .ok (.iconst 5, 1) := by decide +kernel
theorem dX12_plans_251 : decode cX12_plans 251 = .ok (.invokevirtual 250, 3) := by decide +kernel
theorem dX12_plans_254 : decode cX12_plans 254 = .ok (.goto 4, 3) := by decide +kernel
theorem dX12_plans_257 : decode cX12_plans 257 = .ok (.iconst 0, 1) := by decide +kernel
theorem dX12_plans_258 : decode cX12_plans 258 = .ok (.iadd, 1) := by decide +kernel
theorem dX12_plans_259 : decode cX12_plans 259 = .ok (.istore 7, 2) := by decide +kernel
theorem dX12_plans_261 : decode cX12_plans 261 = .ok (.iload 8, 2) := by decide +kernel
theorem dX12_plans_263 : decode cX12_plans 263 = .ok (.iload 13, 2) := by decide +kernel
theorem dX12_plans_265 : decode cX12_plans 265 = .ok (.iconst 2, 1) := by decide +kernel
theorem dX12_plans_266 : decode cX12_plans 266 = .ok (.if_icmp .ne 13, 3) := by decide +kernel
theorem dX12_plans_269 : decode cX12_plans 269 = .ok (.aload_n 0, 1) := by decide +kernel
theorem dX12_plans_270 : decode cX12_plans 270 = .ok (.iload 12, 2) := by decide +kernel
theorem dX12_plans_272 : decode cX12_plans 272 = .ok (.iconst 2, 1) := by decide +kernel
theorem dX12_plans_273 : decode cX12_plans 273 = .ok (.invokevirtual 250, 3) := by decide +kernel
theorem dX12_plans_276 : decode cX12_plans 276 = .ok (.goto 4, 3) := by decide +kernel
theorem dX12_plans_279 : decode cX12_plans 279 = .ok (.iconst 0, 1) := by decide +kernel
theorem dX12_plans_280 : decode cX12_plans 280 = .ok (.iadd, 1) := by decide +kernel
theorem dX12_plans_281 : decode cX12_plans 281 = .ok (.istore 8, 2) := by decide +kernel
theorem dX12_plans_283 : decode cX12_plans 283 = .ok (.iload 9, 2) := by decide +kernel
theorem dX12_plans_285 : decode cX12_plans 285 = .ok (.iload 13, 2) := by decide +kernel
theorem dX12_plans_287 : decode cX12_plans 287 = .ok (.iconst 3, 1) := by decide +kernel
theorem dX12_plans_288 : decode cX12_plans 288 = .ok (.if_icmp .ne 10, 3) := by decide +kernel
theorem dX12_plans_291 : decode cX12_plans 291 = .ok (.iconst 1, 1) := by decide +kernel
theorem dX12_plans_292 : decode cX12_plans 292 = .ok (.iload 12, 2) := by decide +kernel
theorem dX12_plans_294 : decode cX12_plans 294 = .ok (.ishl, 1) := by decide +kernel
theorem dX12_plans_295 : decode cX12_plans 295 = .ok (.goto 4, 3) := by decide +kernel
theorem dX12_plans_298 : decode cX12_plans 298 = .ok (.iconst 0, 1) := by decide +kernel
theorem dX12_plans_299 : decode cX12_plans 299 = .ok (.ior, 1) := by decide +kernel
theorem dX12_plans_300 : decode cX12_plans 300 = .ok (.istore 9, 2) := by decide +kernel
theorem dX12_plans_302 : decode cX12_plans 302 = .ok (.iinc 11 1, 3) := by decide +kernel
theorem dX12_plans_305 : decode cX12_plans 305 = .ok (.goto (-195), 3) := by decide +kernel
theorem dX12_plans_308 : decode cX12_plans 308 = .ok (.iload 10, 2) := by decide +kernel
theorem dX12_plans_310 : decode cX12_plans 310 = .ok (.ifCond .eq 151, 3) := by decide +kernel
theorem dX12_plans_313 : decode cX12_plans 313 = .ok (.iload 7, 2) := by decide +kernel
theorem dX12_plans_315 : decode cX12_plans 315 = .ok (.iload_n 1, 1) := by decide +kernel
theorem dX12_plans_316 : decode cX12_plans 316 = .ok (.if_icmp .gt 145, 3) := by decide +kernel
theorem dX12_plans_319 : decode cX12_plans 319 = .ok (.iload 8, 2) := by decide +kernel
theorem dX12_plans_321 : decode cX12_plans 321 = .ok (.iload_n 2, 1) := by decide +kernel
theorem dX12_plans_322 : decode cX12_plans 322 = .ok (.if_icmp .gt 139, 3) := by decide +kernel
theorem dX12_plans_325 : decode cX12_plans 325 = .ok (.iload 6, 2) := by decide +kernel
theorem dX12_plans_327 : decode cX12_plans 327 = .ok (.aload_n 0, 1) := by decide +kernel
theorem dX12_plans_328 : decode cX12_plans 328 = .ok (.getfield 385, 3) := by decide +kernel
theorem dX12_plans_331 : decode cX12_plans 331 = .ok (.if_icmp .ge 6, 3) := by decide +kernel
theorem dX12_plans_334 : decode cX12_plans 334 = .ok (.goto 127, 3) := by decide +kernel
theorem dX12_plans_337 : decode cX12_plans 337 = .ok (.iload 6, 2) := by decide +kernel
theorem dX12_plans_339 : decode cX12_plans 339 = .ok (.aload_n 0, 1) := by decide +kernel
theorem dX12_plans_340 : decode cX12_plans 340 = .ok (.getfield 385, 3) := by decide +kernel
theorem dX12_plans_343 : decode cX12_plans 343 = .ok (.if_icmp .gt 22, 3) := by decide +kernel
theorem dX12_plans_346 : decode cX12_plans 346 = .ok (.iload 7, 2) := by decide +kernel
theorem dX12_plans_348 : decode cX12_plans 348 = .ok (.iload_n 3, 1) := by decide +kernel
theorem dX12_plans_349 : decode cX12_plans 349 = .ok (.if_icmp .lt 16, 3) := by decide +kernel
theorem dX12_plans_352 : decode cX12_plans 352 = .ok (.iload 7, 2) := by decide +kernel
theorem dX12_plans_354 : decode cX12_plans 354 = .ok (.iload_n 3, 1) := by decide +kernel
theorem dX12_plans_355 : decode cX12_plans 355 = .ok (.if_icmp .ne 14, 3) := by decide +kernel
theorem dX12_plans_358 : decode cX12_plans 358 = .ok (.iload 8, 2) := by decide +kernel
theorem dX12_plans_360 : decode cX12_plans 360 = .ok (.iload 4, 2) := by decide +kernel
theorem dX12_plans_362 : decode cX12_plans 362 = .ok (.if_icmp .ge 7, 3) := by decide +kernel
theorem dX12_plans_365 : decode cX12_plans 365 = .ok (.iconst 1, 1) := by decide +kernel
theorem dX12_plans_366 : decode cX12_plans 366 = .ok (.goto 4, 3) := by decide +kernel
theorem dX12_plans_369 : decode cX12_plans 369 = .ok (.iconst 0, 1) := by decide +kernel
theorem dX12_plans_370 : decode cX12_plans 370 = .ok (.istore 11, 2) := by decide +kernel
theorem dX12_plans_372 : decode cX12_plans 372 = .ok (.iconst 0, 1) := by decide +kernel
theorem dX12_plans_373 : decode cX12_plans 373 = .ok (.istore 12, 2) := by decide +kernel
theorem dX12_plans_375 : decode cX12_plans 375 = .ok (.iload 12, 2) := by decide +kernel
theorem dX12_plans_377 : decode cX12_plans 377 = .ok (.aload_n 0, 1) := by decide +kernel
theorem dX12_plans_378 : decode cX12_plans 378 = .ok (.getfield 382, 3) := by decide +kernel
theorem dX12_plans_381 : decode cX12_plans 381 = .ok (.if_icmp .ge 53, 3) := by decide +kernel
theorem dX12_plans_384 : decode cX12_plans 384 = .ok (.iload 11, 2) := by decide +kernel
theorem dX12_plans_386 : decode cX12_plans 386 = .ok (.ifCond .eq 48, 3) := by decide +kernel
theorem dX12_plans_389 : decode cX12_plans 389 = .ok (.iload 5, 2) := by decide +kernel
theorem dX12_plans_391 : decode cX12_plans 391 = .ok (.aload_n 0, 1) := by decide +kernel
theorem dX12_plans_392 : decode cX12_plans 392 = .ok (.getfield 382, 3) := by decide +kernel
theorem dX12_plans_395 : decode cX12_plans 395 = .ok (.iload 12, 2) := by decide +kernel
theorem dX12_plans_397 : decode cX12_plans 397 = .ok (.invokestatic 388, 3) := by decide +kernel
theorem dX12_plans_400 : decode cX12_plans 400 = .ok (.iconst 3, 1) := by decide +kernel
theorem dX12_plans_401 : decode cX12_plans 401 = .ok (.if_icmp .eq 20, 3) := by decide +kernel
theorem dX12_plans_404 : decode cX12_plans 404 = .ok (.aload_n 0, 1) := by decide +kernel
theorem dX12_plans_405 : decode cX12_plans 405 = .ok (.aload_n 0, 1) := by decide +kernel
theorem dX12_plans_406 : decode cX12_plans 406 = .ok (.getfield 48, 3) := by decide +kernel
theorem dX12_plans_409 : decode cX12_plans 409 = .ok (.iload 12, 2) := by decide +kernel
theorem dX12_plans_411 : decode cX12_plans 411 = .ok (.iaload, 1) := by decide +kernel
theorem dX12_plans_412 : decode cX12_plans 412 = .ok (.invokevirtual 259, 3) := by decide +kernel
theorem dX12_plans_415 : decode cX12_plans 415 = .ok (.iload 9, 2) := by decide +kernel
theorem dX12_plans_417 : decode cX12_plans 417 = .ok (.iand, 1) := by decide +kernel
theorem dX12_plans_418 : decode cX12_plans 418 = .ok (.ifCond .ne 7, 3) := by decide +kernel
theorem dX12_plans_421 : decode cX12_plans 421 = .ok (.iconst 1, 1) := by decide +kernel
theorem dX12_plans_422 : decode cX12_plans 422 = .ok (.goto 4, 3) := by decide +kernel
theorem dX12_plans_425 : decode cX12_plans 425 = .ok (.iconst 0, 1) := by decide +kernel
theorem dX12_plans_426 : decode cX12_plans 426 = .ok (.istore 11, 2) := by decide +kernel
theorem dX12_plans_428 : decode cX12_plans 428 = .ok (.iinc 12 1, 3) := by decide +kernel
theorem dX12_plans_431 : decode cX12_plans 431 = .ok (.goto (-56), 3) := by decide +kernel
theorem dX12_plans_434 : decode cX12_plans 434 = .ok (.iload 11, 2) := by decide +kernel
theorem dX12_plans_436 : decode cX12_plans 436 = .ok (.ifCond .ne 6, 3) := by decide +kernel
theorem dX12_plans_439 : decode cX12_plans 439 = .ok (.goto 22, 3) := by decide +kernel
theorem dX12_plans_442 : decode cX12_plans 442 = .ok (.aload_n 0, 1) := by decide +kernel
theorem dX12_plans_443 : decode cX12_plans 443 = .ok (.iload 6, 2) := by decide +kernel
theorem dX12_plans_445 : decode cX12_plans 445 = .ok (.putfield 385, 3) := by decide +kernel
theorem dX12_plans_448 : decode cX12_plans 448 = .ok (.aload_n 0, 1) := by decide +kernel
theorem dX12_plans_449 : decode cX12_plans 449 = .ok (.iload 5, 2) := by decide +kernel
theorem dX12_plans_451 : decode cX12_plans 451 = .ok (.putfield 392, 3) := by decide +kernel
theorem dX12_plans_454 : decode cX12_plans 454 = .ok (.iload 7, 2) := by decide +kernel
theorem dX12_plans_456 : decode cX12_plans 456 = .ok (.istore_n 3, 1) := by decide +kernel
theorem dX12_plans_457 : decode cX12_plans 457 = .ok (.iload 8, 2) := by decide +kernel
theorem dX12_plans_459 : decode cX12_plans 459 = .ok (.istore 4, 2) := by decide +kernel
theorem dX12_plans_461 : decode cX12_plans 461 = .ok (.iinc 5 1, 3) := by decide +kernel
theorem dX12_plans_464 : decode cX12_plans 464 = .ok (.goto (-385), 3) := by decide +kernel
theorem dX12_plans_467 : decode cX12_plans 467 = .ok (.return_, 1) := by decide +kernel
theorem dX12_noTime_0 : decode cX12_noTime 0 = .ok (.iload_n 0, 1) := by decide +kernel
theorem dX12_noTime_1 : decode cX12_noTime 1 = .ok (.iconst 0, 1) := by decide +kernel
theorem dX12_noTime_2 : decode cX12_noTime 2 = .ok (.sipush 1000, 3) := by decide +kernel
theorem dX12_noTime_5 : decode cX12_noTime 5 = .ok (.invokestatic 61, 3) := by decide +kernel
theorem dX12_noTime_8 : decode cX12_noTime 8 = .ok (.ifCond .eq 14, 3) := by decide +kernel
theorem dX12_noTime_11 : decode cX12_noTime 11 = .ok (.iload_n 1, 1) := by decide +kernel
theorem dX12_noTime_12 : decode cX12_noTime 12 = .ok (.iconst 0, 1) := by decide +kernel
theorem dX12_noTime_13 : decode cX12_noTime 13 = .ok (.sipush 1000, 3) := by decide +kernel
theorem dX12_noTime_16 : decode cX12_noTime 16 = .ok (.invokestatic 61, 3) := by decide +kernel
theorem dX12_noTime_19 : decode cX12_noTime 19 = .ok (.ifCond .ne 7, 3) := by decide +kernel
theorem dX12_noTime_22 : decode cX12_noTime 22 = .ok (.iconst 1, 1) := by decide +kernel
theorem dX12_noTime_23 : decode cX12_noTime 23 = .ok (.goto 4, 3) := by decide +kernel
theorem dX12_noTime_26 : decode cX12_noTime 26 = .ok (.iconst 0, 1) := by decide +kernel
theorem dX12_noTime_27 : decode cX12_noTime 27 = .ok (.ireturn, 1) := by decide +kernel
theorem dX12_plan_0 : decode cX12_plan 0 = .ok (.aload_n 0, 1) := by decide +kernel
theorem dX12_plan_1 : decode cX12_plan 1 = .ok (.iconst 0, 1) := by decide +kernel
theorem dX12_plan_2 : decode cX12_plan 2 = .ok (.putfield 3, 3) := by decide +kernel
theorem dX12_plan_5 : decode cX12_plan 5 = .ok (.aload_n 0, 1) := by decide +kernel
theorem dX12_plan_6 : decode cX12_plan 6 = .ok (.iload_n 1, 1) := by decide +kernel
theorem dX12_plan_7 : decode cX12_plan 7 = .ok (.iload_n 2, 1) := by decide +kernel
theorem dX12_plan_8 : decode cX12_plan 8 = .ok (.invokestatic 395, 3) := by decide +kernel
theorem dX12_plan_11 : decode cX12_plan 11 = .ok (.iconst 1, 1) := by decide +kernel
theorem dX12_plan_12 : decode cX12_plan 12 = .ok (.invokevirtual 65, 3) := by decide +kernel
theorem dX12_plan_15 : decode cX12_plan 15 = .ok (.ifCond .eq 5, 3) := by decide +kernel
theorem dX12_plan_18 : decode cX12_plan 18 = .ok (.iconst 0, 1) := by decide +kernel
theorem dX12_plan_19 : decode cX12_plan 19 = .ok (.ireturn, 1) := by decide +kernel
theorem dX12_plan_20 : decode cX12_plan 20 = .ok (.aload_n 0, 1) := by decide +kernel
theorem dX12_plan_21 : decode cX12_plan 21 = .ok (.iload_n 1, 1) := by decide +kernel
theorem dX12_plan_22 : decode cX12_plan 22 = .ok (.iload_n 2, 1) := by decide +kernel
theorem dX12_plan_23 : decode cX12_plan 23 = .ok (.invokevirtual 398, 3) := by decide +kernel
theorem dX12_plan_26 : decode cX12_plan 26 = .ok (.aload_n 0, 1) := by decide +kernel
theorem dX12_plan_27 : decode cX12_plan 27 = .ok (.getfield 385, 3) := by decide +kernel
theorem dX12_plan_30 : decode cX12_plan 30 = .ok (.ireturn, 1) := by decide +kernel
theorem dX12_which_0 : decode cX12_which 0 = .ok (.aload_n 0, 1) := by decide +kernel
theorem dX12_which_1 : decode cX12_which 1 = .ok (.iconst 0, 1) := by decide +kernel
theorem dX12_which_2 : decode cX12_which 2 = .ok (.putfield 3, 3) := by decide +kernel
theorem dX12_which_5 : decode cX12_which 5 = .ok (.aload_n 0, 1) := by decide +kernel
theorem dX12_which_6 : decode cX12_which 6 = .ok (.aload_n 0, 1) := by decide +kernel
theorem dX12_which_7 : decode cX12_which 7 = .ok (.iload_n 3, 1) := by decide +kernel
theorem dX12_which_8 : decode cX12_which 8 = .ok (.invokevirtual 247, 3) := by decide +kernel
theorem dX12_which_11 : decode cX12_which 11 = .ok (.iconst 1, 1) := by decide +kernel
theorem dX12_which_12 : decode cX12_which 12 = .ok (.invokevirtual 65, 3) := by decide +kernel
theorem dX12_which_15 : decode cX12_which 15 = .ok (.ifCond .ne 16, 3) := by decide +kernel
theorem dX12_which_18 : decode cX12_which 18 = .ok (.aload_n 0, 1) := by decide +kernel
theorem dX12_which_19 : decode cX12_which 19 = .ok (.iload_n 1, 1) := by decide +kernel
theorem dX12_which_20 : decode cX12_which 20 = .ok (.iload_n 2, 1) := by decide +kernel
theorem dX12_which_21 : decode cX12_which 21 = .ok (.invokestatic 395, 3) := by decide +kernel
theorem dX12_which_24 : decode cX12_which 24 = .ok (.iconst 2, 1) := by decide +kernel
theorem dX12_which_25 : decode cX12_which 25 = .ok (.invokevirtual 65, 3) := by decide +kernel
theorem dX12_which_28 : decode cX12_which 28 = .ok (.ifCond .eq 5, 3) := by decide +kernel
theorem dX12_which_31 : decode cX12_which 31 = .ok (.iconst 0, 1) := by decide +kernel
theorem dX12_which_32 : decode cX12_which 32 = .ok (.ireturn, 1) := by decide +kernel
theorem dX12_which_33 : decode cX12_which 33 = .ok (.aload_n 0, 1) := by decide +kernel
theorem dX12_which_34 : decode cX12_which 34 = .ok (.iload_n 1, 1) := by decide +kernel
theorem dX12_which_35 : decode cX12_which 35 = .ok (.iload_n 2, 1) := by decide +kernel
theorem dX12_which_36 : decode cX12_which 36 = .ok (.invokevirtual 398, 3) := by decide +kernel
theorem dX12_which_39 : decode cX12_which 39 = .ok (.iconst 0, 1) := by decide +kernel
theorem dX12_which_40 : decode cX12_which 40 = .ok (.istore 4, 2) := by decide +kernel
theorem dX12_which_42 : decode cX12_which 42 = .ok (.iload 4, 2) := by decide +kernel
theorem dX12_which_44 : decode cX12_which 44 = .ok (.aload_n 0, 1) := by decide +kernel
theorem dX12_which_45 : decode cX12_which 45 = .ok (.getfield 382, 3) := by decide +kernel
theorem dX12_which_48 : decode cX12_which 48 = .ok (.if_icmp .ge 34, 3) := by decide +kernel
theorem dX12_which_51 : decode cX12_which 51 = .ok (.aload_n 0, 1) := by decide +kernel
theorem dX12_which_52 : decode cX12_which 52 = .ok (.getfield 48, 3) := by decide +kernel
theorem dX12_which_55 : decode cX12_which 55 = .ok (.iload 4, 2) := by decide +kernel
theorem dX12_which_57 : decode cX12_which 57 = .ok (.iaload, 1) := by decide +kernel
theorem dX12_which_58 : decode cX12_which 58 = .ok (.iload_n 3, 1) := by decide +kernel
theorem dX12_which_59 : decode cX12_which 59 = .ok (.if_icmp .ne 17, 3) := by decide +kernel
theorem dX12_which_62 : decode cX12_which 62 = .ok (.aload_n 0, 1) := by decide +kernel
theorem dX12_which_63 : decode cX12_which 63 = .ok (.getfield 392, 3) := by decide +kernel
theorem dX12_which_66 : decode cX12_which 66 = .ok (.aload_n 0, 1) := by decide +kernel
theorem dX12_which_67 : decode cX12_which 67 = .ok (.getfield 382, 3) := by decide +kernel
theorem dX12_which_70 : decode cX12_which 70 = .ok (.iload 4, 2) := by decide +kernel
theorem dX12_which_72 : decode cX12_which 72 = .ok (.invokestatic 388, 3) := by decide +kernel
theorem dX12_which_75 : decode cX12_which 75 = .ok (.ireturn, 1) := by decide +kernel
theorem dX12_which_76 : decode cX12_which 76 = .ok (.iinc 4 1, 3) := by decide +kernel
theorem dX12_which_79 : decode cX12_which 79 = .ok (.goto (-37), 3) := by decide +kernel
theorem dX12_which_82 : decode cX12_which 82 = .ok (.iconst (-1), 1) := by decide +kernel
theorem dX12_which_83 : decode cX12_which 83 = .ok (.ireturn, 1) := by decide +kernel
theorem dX12_beside_0 : decode cX12_beside 0 = .ok (.aload_n 0, 1) := by decide +kernel
theorem dX12_beside_1 : decode cX12_beside 1 = .ok (.iconst 0, 1) := by decide +kernel
theorem dX12_beside_2 : decode cX12_beside 2 = .ok (.putfield 3, 3) := by decide +kernel
theorem dX12_beside_5 : decode cX12_beside 5 = .ok (.iconst 0, 1) := by decide +kernel
theorem dX12_beside_6 : decode cX12_beside 6 = .ok (.istore_n 2, 1) := by decide +kernel
theorem dX12_beside_7 : decode cX12_beside 7 = .ok (.iload_n 1, 1) := by decide +kernel
theorem dX12_beside_8 : decode cX12_beside 8 = .ok (.ifCond .ne 44, 3) := by decide +kernel
theorem dX12_beside_11 : decode cX12_beside 11 = .ok (.iconst 0, 1) := by decide +kernel
theorem dX12_beside_12 : decode cX12_beside 12 = .ok (.istore_n 3, 1) := by decide +kernel
theorem dX12_beside_13 : decode cX12_beside 13 = .ok (.iload_n 3, 1) := by decide +kernel
theorem dX12_beside_14 : decode cX12_beside 14 = .ok (.aload_n 0, 1) := by decide +kernel
theorem dX12_beside_15 : decode cX12_beside 15 = .ok (.getfield 14, 3) := by decide +kernel
theorem dX12_beside_18 : decode cX12_beside 18 = .ok (.bipush 8, 2) := by decide +kernel
theorem dX12_beside_20 : decode cX12_beside 20 = .ok (.iaload, 1) := by decide +kernel
theorem dX12_beside_21 : decode cX12_beside 21 = .ok (.if_icmp .ge 29, 3) := by decide +kernel
theorem dX12_beside_24 : decode cX12_beside 24 = .ok (.aload_n 0, 1) := by decide +kernel
theorem dX12_beside_25 : decode cX12_beside 25 = .ok (.iload_n 3, 1) := by decide +kernel
theorem dX12_beside_26 : decode cX12_beside 26 = .ok (.iconst 2, 1) := by decide +kernel
theorem dX12_beside_27 : decode cX12_beside 27 = .ok (.invokevirtual 250, 3) := by decide +kernel
theorem dX12_beside_30 : decode cX12_beside 30 = .ok (.ifCond .ne 5, 3) := by decide +kernel
theorem dX12_beside_33 : decode cX12_beside 33 = .ok (.iconst (-1), 1) := by decide +kernel
theorem dX12_beside_34 : decode cX12_beside 34 = .ok (.ireturn, 1) := by decide +kernel
theorem dX12_beside_35 : decode cX12_beside 35 = .ok (.iload_n 2, 1) := by decide +kernel
theorem dX12_beside_36 : decode cX12_beside 36 = .ok (.aload_n 0, 1) := by decide +kernel
theorem dX12_beside_37 : decode cX12_beside 37 = .ok (.iload_n 3, 1) := by decide +kernel
theorem dX12_beside_38 : decode cX12_beside 38 = .ok (.iconst 2, 1) := by decide +kernel
theorem dX12_beside_39 : decode cX12_beside 39 = .ok (.invokevirtual 250, 3) := by decide +kernel
theorem dX12_beside_42 : decode cX12_beside 42 = .ok (.iadd, 1) := by decide +kernel
theorem dX12_beside_43 : decode cX12_beside 43 = .ok (.istore_n 2, 1) := by decide +kernel
theorem dX12_beside_44 : decode cX12_beside 44 = .ok (.iinc 3 1, 3) := by decide +kernel
theorem dX12_beside_47 : decode cX12_beside 47 = .ok (.goto (-34), 3) := by decide +kernel
theorem dX12_beside_50 : decode cX12_beside 50 = .ok (.iload_n 2, 1) := by decide +kernel
theorem dX12_beside_51 : decode cX12_beside 51 = .ok (.ireturn, 1) := by decide +kernel
theorem dX12_beside_52 : decode cX12_beside 52 = .ok (.aload_n 0, 1) := by decide +kernel
theorem dX12_beside_53 : decode cX12_beside 53 = .ok (.invokevirtual 263, 3) := by decide +kernel
theorem dX12_beside_56 : decode cX12_beside 56 = .ok (.ifCond .ne 5, 3) := by decide +kernel
theorem dX12_beside_59 : decode cX12_beside 59 = .ok (.iconst (-1), 1) := by decide +kernel
theorem dX12_beside_60 : decode cX12_beside 60 = .ok (.ireturn, 1) := by decide +kernel
theorem dX12_beside_61 : decode cX12_beside 61 = .ok (.aload_n 0, 1) := by decide +kernel
theorem dX12_beside_62 : decode cX12_beside 62 = .ok (.getfield 54, 3) := by decide +kernel
theorem dX12_beside_65 : decode cX12_beside 65 = .ok (.iconst 0, 1) := by decide +kernel
theorem dX12_beside_66 : decode cX12_beside 66 = .ok (.iconst 0, 1) := by decide +kernel
theorem dX12_beside_67 : decode cX12_beside 67 = .ok (.iastore, 1) := by decide +kernel
theorem dX12_beside_68 : decode cX12_beside 68 = .ok (.aload_n 0, 1) := by decide +kernel
theorem dX12_beside_69 : decode cX12_beside 69 = .ok (.getfield 54, 3) := by decide +kernel
theorem dX12_beside_72 : decode cX12_beside 72 = .ok (.iconst 1, 1) := by decide +kernel
theorem dX12_beside_73 : decode cX12_beside 73 = .ok (.iconst 0, 1) := by decide +kernel
theorem dX12_beside_74 : decode cX12_beside 74 = .ok (.iastore, 1) := by decide +kernel
theorem dX12_beside_75 : decode cX12_beside 75 = .ok (.iconst 0, 1) := by decide +kernel
theorem dX12_beside_76 : decode cX12_beside 76 = .ok (.istore_n 3, 1) := by decide +kernel
theorem dX12_beside_77 : decode cX12_beside 77 = .ok (.iload_n 3, 1) := by decide +kernel
theorem dX12_beside_78 : decode cX12_beside 78 = .ok (.aload_n 0, 1) := by decide +kernel
theorem dX12_beside_79 : decode cX12_beside 79 = .ok (.getfield 14, 3) := by decide +kernel
theorem dX12_beside_82 : decode cX12_beside 82 = .ok (.bipush 8, 2) := by decide +kernel
theorem dX12_beside_84 : decode cX12_beside 84 = .ok (.iaload, 1) := by decide +kernel
theorem dX12_beside_85 : decode cX12_beside 85 = .ok (.if_icmp .ge 146, 3) := by decide +kernel
theorem dX12_beside_88 : decode cX12_beside 88 = .ok (.aload_n 0, 1) := by decide +kernel
theorem dX12_beside_89 : decode cX12_beside 89 = .ok (.getfield 34, 3) := by decide +kernel
theorem dX12_beside_92 : decode cX12_beside 92 = .ok (.iload_n 3, 1) := by decide +kernel
theorem dX12_beside_93 : decode cX12_beside 93 = .ok (.iaload, 1) := by decide +kernel
theorem dX12_beside_94 : decode cX12_beside 94 = .ok (.istore 4, 2) := by decide +kernel
theorem dX12_beside_96 : decode cX12_beside 96 = .ok (.aload_n 0, 1) := by decide +kernel
theorem dX12_beside_97 : decode cX12_beside 97 = .ok (.getfield 54, 3) := by decide +kernel
theorem dX12_beside_100 : decode cX12_beside 100 = .ok (.iconst 1, 1) := by decide +kernel
theorem dX12_beside_101 : decode cX12_beside 101 = .ok (.iaload, 1) := by decide +kernel
theorem dX12_beside_102 : decode cX12_beside 102 = .ok (.aload_n 0, 1) := by decide +kernel
theorem dX12_beside_103 : decode cX12_beside 103 = .ok (.getfield 54, 3) := by decide +kernel
theorem dX12_beside_106 : decode cX12_beside 106 = .ok (.iconst 0, 1) := by decide +kernel
theorem dX12_beside_107 : decode cX12_beside 107 = .ok (.iaload, 1) := by decide +kernel
theorem dX12_beside_108 : decode cX12_beside 108 = .ok (.if_icmp .ge 7, 3) := by decide +kernel
theorem dX12_beside_111 : decode cX12_beside 111 = .ok (.iconst 1, 1) := by decide +kernel
theorem dX12_beside_112 : decode cX12_beside 112 = .ok (.goto 4, 3) := by decide +kernel
theorem dX12_beside_115 : decode cX12_beside 115 = .ok (.iconst 0, 1) := by decide +kernel
theorem dX12_beside_116 : decode cX12_beside 116 = .ok (.istore 5, 2) := by decide +kernel
theorem dX12_beside_118 : decode cX12_beside 118 = .ok (.aload_n 0, 1) := by decide +kernel
theorem dX12_beside_119 : decode cX12_beside 119 = .ok (.getfield 54, 3) := by decide +kernel
theorem dX12_beside_122 : decode cX12_beside 122 = .ok (.iload 5, 2) := by decide +kernel
theorem dX12_beside_124 : decode cX12_beside 124 = .ok (.iaload, 1) := by decide +kernel
theorem dX12_beside_125 : decode cX12_beside 125 = .ok (.istore 6, 2) := by decide +kernel
theorem dX12_beside_127 : decode cX12_beside 127 = .ok (.iconst 0, 1) := by decide +kernel
theorem dX12_beside_128 : decode cX12_beside 128 = .ok (.istore 7, 2) := by decide +kernel
theorem dX12_beside_130 : decode cX12_beside 130 = .ok (.iload 7, 2) := by decide +kernel
theorem dX12_beside_132 : decode cX12_beside 132 = .ok (.aload_n 0, 1) := by decide +kernel
theorem dX12_beside_133 : decode cX12_beside 133 = .ok (.getfield 14, 3) := by decide +kernel
theorem dX12_beside_136 : decode cX12_beside 136 = .ok (.bipush 8, 2) := by decide +kernel
theorem dX12_beside_138 : decode cX12_beside 138 = .ok (.iaload, 1) := by decide +kernel
theorem dX12_beside_139 : decode cX12_beside 139 = .ok (.if_icmp .ge 43, 3) := by decide +kernel
theorem dX12_beside_142 : decode cX12_beside 142 = .ok (.aload_n 0, 1) := by decide +kernel
theorem dX12_beside_143 : decode cX12_beside 143 = .ok (.iload 4, 2) := by decide +kernel
theorem dX12_beside_145 : decode cX12_beside 145 = .ok (.invokevirtual 259, 3) := by decide +kernel
theorem dX12_beside_148 : decode cX12_beside 148 = .ok (.iload 7, 2) := by decide +kernel
theorem dX12_beside_150 : decode cX12_beside 150 = .ok (.ishr, 1) := by decide +kernel
theorem dX12_beside_151 : decode cX12_beside 151 = .ok (.iconst 1, 1) := by decide +kernel
theorem dX12_beside_152 : decode cX12_beside 152 = .ok (.iand, 1) := by decide +kernel
theorem dX12_beside_153 : decode cX12_beside 153 = .ok (.iconst 1, 1) := by decide +kernel
theorem dX12_beside_154 : decode cX12_beside 154 = .ok (.if_icmp .ne 18, 3) := by decide +kernel
theorem dX12_beside_157 : decode cX12_beside 157 = .ok (.iload 6, 2) := by decide +kernel
theorem dX12_beside_159 : decode cX12_beside 159 = .ok (.aload_n 0, 1) := by decide +kernel
theorem dX12_beside_160 : decode cX12_beside 160 = .ok (.getfield 51, 3) := by decide +kernel
theorem dX12_beside_163 : decode cX12_beside 163 = .ok (.iload 7, 2) := by decide +kernel
theorem dX12_beside_165 : decode cX12_beside 165 = .ok (.iaload, 1) := by decide +kernel
theorem dX12_beside_166 : decode cX12_beside 166 = .ok (.invokestatic 345, 3) := by decide +kernel
theorem dX12_beside_169 : decode cX12_beside 169 = .ok (.goto 5, 3) := by decide +kernel
theorem dX12_beside_172 : decode cX12_beside 172 = .ok (.iload 6, 2) := by decide +kernel
theorem dX12_beside_174 : decode cX12_beside 174 = .ok (.istore 6, 2) := by decide +kernel
theorem dX12_beside_176 : decode cX12_beside 176 = .ok (.iinc 7 1, 3) := by decide +kernel
theorem dX12_beside_179 : decode cX12_beside 179 = .ok (.goto (-49), 3) := by decide +kernel
theorem dX12_beside_182 : decode cX12_beside 182 = .ok (.aload_n 0, 1) := by decide +kernel
theorem dX12_beside_183 : decode cX12_beside 183 = .ok (.getfield 51, 3) := by decide +kernel
theorem dX12_beside_186 : decode cX12_beside 186 = .ok (.iload 4, 2) := by decide +kernel
theorem dX12_beside_188 : decode cX12_beside 188 = .ok (.iload 6, 2) := by decide +kernel
theorem dX12_beside_190 : decode cX12_beside 190 = .ok (.aload_n 0, 1) := by decide +kernel
theorem dX12_beside_191 : decode cX12_beside 191 = .ok (.iload 4, 2) := by decide +kernel
theorem dX12_beside_193 : decode cX12_beside 193 = .ok (.iconst 0, 1) := by decide +kernel
theorem dX12_beside_194 : decode cX12_beside 194 = .ok (.invokevirtual 250, 3) := by decide +kernel
theorem dX12_beside_197 : decode cX12_beside 197 = .ok (.iadd, 1) := by decide +kernel
theorem dX12_beside_198 : decode cX12_beside 198 = .ok (.iastore, 1) := by decide +kernel
theorem dX12_beside_199 : decode cX12_beside 199 = .ok (.aload_n 0, 1) := by decide +kernel
theorem dX12_beside_200 : decode cX12_beside 200 = .ok (.getfield 54, 3) := by decide +kernel
theorem dX12_beside_203 : decode cX12_beside 203 = .ok (.iload 5, 2) := by decide +kernel
theorem dX12_beside_205 : decode cX12_beside 205 = .ok (.aload_n 0, 1) := by decide +kernel
theorem dX12_beside_206 : decode cX12_beside 206 = .ok (.getfield 51, 3) := by decide +kernel
theorem dX12_beside_209 : decode cX12_beside 209 = .ok (.iload 4, 2) := by decide +kernel
theorem dX12_beside_211 : decode cX12_beside 211 = .ok (.iaload, 1) := by decide +kernel
theorem dX12_beside_212 : decode cX12_beside 212 = .ok (.iastore, 1) := by decide +kernel
theorem dX12_beside_213 : decode cX12_beside 213 = .ok (.iload_n 2, 1) := by decide +kernel
theorem dX12_beside_214 : decode cX12_beside 214 = .ok (.aload_n 0, 1) := by decide +kernel
theorem dX12_beside_215 : decode cX12_beside 215 = .ok (.getfield 51, 3) := by decide +kernel
theorem dX12_beside_218 : decode cX12_beside 218 = .ok (.iload 4, 2) := by decide +kernel
theorem dX12_beside_220 : decode cX12_beside 220 = .ok (.iaload, 1) := by decide +kernel
theorem dX12_beside_221 : decode cX12_beside 221 = .ok (.invokestatic 345, 3) := by decide +kernel
theorem dX12_beside_224 : decode cX12_beside 224 = .ok (.istore_n 2, 1) := by decide +kernel
theorem dX12_beside_225 : decode cX12_beside 225 = .ok (.iinc 3 1, 3) := by decide +kernel
theorem dX12_beside_228 : decode cX12_beside 228 = .ok (.goto (-151), 3) := by decide +kernel
theorem dX12_beside_231 : decode cX12_beside 231 = .ok (.iload_n 2, 1) := by decide +kernel
theorem dX12_beside_232 : decode cX12_beside 232 = .ok (.ireturn, 1) := by decide +kernel
theorem dX12_rowAt_0 : decode cX12_rowAt 0 = .ok (.bipush 8, 2) := by decide +kernel
theorem dX12_rowAt_2 : decode cX12_rowAt 2 = .ok (.aload_n 0, 1) := by decide +kernel
theorem dX12_rowAt_3 : decode cX12_rowAt 3 = .ok (.invokevirtual 79, 3) := by decide +kernel
theorem dX12_rowAt_6 : decode cX12_rowAt 6 = .ok (.invokestatic 342, 3) := by decide +kernel
theorem dX12_rowAt_9 : decode cX12_rowAt 9 = .ok (.istore_n 2, 1) := by decide +kernel
theorem dX12_rowAt_10 : decode cX12_rowAt 10 = .ok (.iload_n 1, 1) := by decide +kernel
theorem dX12_rowAt_11 : decode cX12_rowAt 11 = .ok (.iconst 0, 1) := by decide +kernel
theorem dX12_rowAt_12 : decode cX12_rowAt 12 = .ok (.iload_n 2, 1) := by decide +kernel
theorem dX12_rowAt_13 : decode cX12_rowAt 13 = .ok (.iconst 1, 1) := by decide +kernel
theorem dX12_rowAt_14 : decode cX12_rowAt 14 = .ok (.isub, 1) := by decide +kernel
theorem dX12_rowAt_15 : decode cX12_rowAt 15 = .ok (.invokestatic 61, 3) := by decide +kernel
theorem dX12_rowAt_18 : decode cX12_rowAt 18 = .ok (.ifCond .eq 14, 3) := by decide +kernel
theorem dX12_rowAt_21 : decode cX12_rowAt 21 = .ok (.aload_n 0, 1) := by decide +kernel
theorem dX12_rowAt_22 : decode cX12_rowAt 22 = .ok (.invokevirtual 79, 3) := by decide +kernel
theorem dX12_rowAt_25 : decode cX12_rowAt 25 = .ok (.iload_n 2, 1) := by decide +kernel
theorem dX12_rowAt_26 : decode cX12_rowAt 26 = .ok (.isub, 1) := by decide +kernel
theorem dX12_rowAt_27 : decode cX12_rowAt 27 = .ok (.iload_n 1, 1) := by decide +kernel
theorem dX12_rowAt_28 : decode cX12_rowAt 28 = .ok (.iadd, 1) := by decide +kernel
theorem dX12_rowAt_29 : decode cX12_rowAt 29 = .ok (.goto 4, 3) := by decide +kernel
theorem dX12_rowAt_32 : decode cX12_rowAt 32 = .ok (.iconst (-1), 1) := by decide +kernel
theorem dX12_rowAt_33 : decode cX12_rowAt 33 = .ok (.ireturn, 1) := by decide +kernel
theorem dX12_tear_0 : decode cX12_tear 0 = .ok (.aload_n 0, 1) := by decide +kernel
theorem dX12_tear_1 : decode cX12_tear 1 = .ok (.iconst 0, 1) := by decide +kernel
theorem dX12_tear_2 : decode cX12_tear 2 = .ok (.putfield 3, 3) := by decide +kernel
theorem dX12_tear_5 : decode cX12_tear 5 = .ok (.aload_n 0, 1) := by decide +kernel
theorem dX12_tear_6 : decode cX12_tear 6 = .ok (.iload_n 1, 1) := by decide +kernel
theorem dX12_tear_7 : decode cX12_tear 7 = .ok (.invokevirtual 401, 3) := by decide +kernel
theorem dX12_tear_10 : decode cX12_tear 10 = .ok (.istore_n 3, 1) := by decide +kernel
theorem dX12_tear_11 : decode cX12_tear 11 = .ok (.aload_n 0, 1) := by decide +kernel
theorem dX12_tear_12 : decode cX12_tear 12 = .ok (.iload_n 3, 1) := by decide +kernel
theorem dX12_tear_13 : decode cX12_tear 13 = .ok (.ifCond .ge 7, 3) := by decide +kernel
theorem dX12_tear_16 : decode cX12_tear 16 = .ok (.iconst 1, 1) := by decide +kernel
theorem dX12_tear_17 : decode cX12_tear 17 = .ok (.goto 4, 3) := by decide +kernel
theorem dX12_tear_20 : decode cX12_tear 20 = .ok (.iconst 0, 1) := by decide +kernel
theorem dX12_tear_21 : decode cX12_tear 21 = .ok (.iconst 1, 1) := by decide +kernel
theorem dX12_tear_22 : decode cX12_tear 22 = .ok (.invokevirtual 65, 3) := by decide +kernel
theorem dX12_tear_25 : decode cX12_tear 25 = .ok (.ifCond .eq 5, 3) := by decide +kernel
theorem dX12_tear_28 : decode cX12_tear 28 = .ok (.iconst 0, 1) := by decide +kernel
theorem dX12_tear_29 : decode cX12_tear 29 = .ok (.ireturn, 1) := by decide +kernel
theorem dX12_tear_30 : decode cX12_tear 30 = .ok (.aload_n 0, 1) := by decide +kernel
theorem dX12_tear_31 : decode cX12_tear 31 = .ok (.getfield 14, 3) := by decide +kernel
theorem dX12_tear_34 : decode cX12_tear 34 = .ok (.aload_n 0, 1) := by decide +kernel
theorem dX12_tear_35 : decode cX12_tear 35 = .ok (.iload_n 3, 1) := by decide +kernel
theorem dX12_tear_36 : decode cX12_tear 36 = .ok (.iconst 2, 1) := by decide +kernel
theorem dX12_tear_37 : decode cX12_tear 37 = .ok (.invokevirtual 75, 3) := by decide +kernel
theorem dX12_tear_40 : decode cX12_tear 40 = .ok (.dup2, 1) := by decide +kernel
theorem dX12_tear_41 : decode cX12_tear 41 = .ok (.iaload, 1) := by decide +kernel
theorem dX12_tear_42 : decode cX12_tear 42 = .ok (.iload_n 2, 1) := by decide +kernel
theorem dX12_tear_43 : decode cX12_tear 43 = .ok (.ixor, 1) := by decide +kernel
theorem dX12_tear_44 : decode cX12_tear 44 = .ok (.iastore, 1) := by decide +kernel
theorem dX12_tear_45 : decode cX12_tear 45 = .ok (.aload_n 0, 1) := by decide +kernel
theorem dX12_tear_46 : decode cX12_tear 46 = .ok (.iload_n 3, 1) := by decide +kernel
theorem dX12_tear_47 : decode cX12_tear 47 = .ok (.iconst 2, 1) := by decide +kernel
theorem dX12_tear_48 : decode cX12_tear 48 = .ok (.invokevirtual 100, 3) := by decide +kernel
theorem dX12_tear_51 : decode cX12_tear 51 = .ok (.ireturn, 1) := by decide +kernel
theorem dX12_check_0 : decode cX12_check 0 = .ok (.aload_n 0, 1) := by decide +kernel
theorem dX12_check_1 : decode cX12_check 1 = .ok (.iconst 0, 1) := by decide +kernel
theorem dX12_check_2 : decode cX12_check 2 = .ok (.putfield 3, 3) := by decide +kernel
theorem dX12_check_5 : decode cX12_check 5 = .ok (.iconst 0, 1) := by decide +kernel
theorem dX12_check_6 : decode cX12_check 6 = .ok (.istore_n 1, 1) := by decide +kernel
theorem dX12_check_7 : decode cX12_check 7 = .ok (.iload_n 1, 1) := by decide +kernel
theorem dX12_check_8 : decode cX12_check 8 = .ok (.bipush 8, 2) := by decide +kernel
theorem dX12_check_10 : decode cX12_check 10 = .ok (.aload_n 0, 1) := by decide +kernel
theorem dX12_check_11 : decode cX12_check 11 = .ok (.invokevirtual 79, 3) := by decide +kernel
theorem dX12_check_14 : decode cX12_check 14 = .ok (.invokestatic 342, 3) := by decide +kernel
theorem dX12_check_17 : decode cX12_check 17 = .ok (.if_icmp .ge 34, 3) := by decide +kernel
theorem dX12_check_20 : decode cX12_check 20 = .ok (.aload_n 0, 1) := by decide +kernel
theorem dX12_check_21 : decode cX12_check 21 = .ok (.aload_n 0, 1) := by decide +kernel
theorem dX12_check_22 : decode cX12_check 22 = .ok (.iload_n 1, 1) := by decide +kernel
theorem dX12_check_23 : decode cX12_check 23 = .ok (.invokevirtual 401, 3) := by decide +kernel
theorem dX12_check_26 : decode cX12_check 26 = .ok (.iconst 2, 1) := by decide +kernel
theorem dX12_check_27 : decode cX12_check 27 = .ok (.invokevirtual 100, 3) := by decide +kernel
theorem dX12_check_30 : decode cX12_check 30 = .ok (.aload_n 0, 1) := by decide +kernel
theorem dX12_check_31 : decode cX12_check 31 = .ok (.aload_n 0, 1) := by decide +kernel
theorem dX12_check_32 : decode cX12_check 32 = .ok (.iload_n 1, 1) := by decide +kernel
theorem dX12_check_33 : decode cX12_check 33 = .ok (.invokevirtual 401, 3) := by decide +kernel
theorem dX12_check_36 : decode cX12_check 36 = .ok (.iconst 3, 1) := by decide +kernel
theorem dX12_check_37 : decode cX12_check 37 = .ok (.invokevirtual 100, 3) := by decide +kernel
theorem dX12_check_40 : decode cX12_check 40 = .ok (.if_icmp .eq 5, 3) := by decide +kernel
theorem dX12_check_43 : decode cX12_check 43 = .ok (.iload_n 1, 1) := by decide +kernel
theorem dX12_check_44 : decode cX12_check 44 = .ok (.ireturn, 1) := by decide +kernel
theorem dX12_check_45 : decode cX12_check 45 = .ok (.iinc 1 1, 3) := by decide +kernel
theorem dX12_check_48 : decode cX12_check 48 = .ok (.goto (-41), 3) := by decide +kernel
theorem dX12_check_51 : decode cX12_check 51 = .ok (.iconst (-1), 1) := by decide +kernel
theorem dX12_check_52 : decode cX12_check 52 = .ok (.ireturn, 1) := by decide +kernel
theorem dX12_sumOf_0 : decode cX12_sumOf 0 = .ok (.iconst 0, 1) := by decide +kernel
theorem dX12_sumOf_1 : decode cX12_sumOf 1 = .ok (.istore_n 2, 1) := by decide +kernel
theorem dX12_sumOf_2 : decode cX12_sumOf 2 = .ok (.iconst 0, 1) := by decide +kernel
theorem dX12_sumOf_3 : decode cX12_sumOf 3 = .ok (.istore_n 3, 1) := by decide +kernel
theorem dX12_sumOf_4 : decode cX12_sumOf 4 = .ok (.iload_n 3, 1) := by decide +kernel
theorem dX12_sumOf_5 : decode cX12_sumOf 5 = .ok (.aload_n 0, 1) := by decide +kernel
theorem dX12_sumOf_6 : decode cX12_sumOf 6 = .ok (.getfield 14, 3) := by decide +kernel
theorem dX12_sumOf_9 : decode cX12_sumOf 9 = .ok (.bipush 8, 2) := by decide +kernel
theorem dX12_sumOf_11 : decode cX12_sumOf 11 = .ok (.iaload, 1) := by decide +kernel
theorem dX12_sumOf_12 : decode cX12_sumOf 12 = .ok (.if_icmp .ge 18, 3) := by decide +kernel
theorem dX12_sumOf_15 : decode cX12_sumOf 15 = .ok (.iload_n 2, 1) := by decide +kernel
theorem dX12_sumOf_16 : decode cX12_sumOf 16 = .ok (.aload_n 0, 1) := by decide +kernel
theorem dX12_sumOf_17 : decode cX12_sumOf 17 = .ok (.iload_n 3, 1) := by decide +kernel
theorem dX12_sumOf_18 : decode cX12_sumOf 18 = .ok (.iload_n 1, 1) := by decide +kernel
theorem dX12_sumOf_19 : decode cX12_sumOf 19 = .ok (.invokevirtual 250, 3) := by decide +kernel
theorem dX12_sumOf_22 : decode cX12_sumOf 22 = .ok (.iadd, 1) := by decide +kernel
theorem dX12_sumOf_23 : decode cX12_sumOf 23 = .ok (.istore_n 2, 1) := by decide +kernel
theorem dX12_sumOf_24 : decode cX12_sumOf 24 = .ok (.iinc 3 1, 3) := by decide +kernel
theorem dX12_sumOf_27 : decode cX12_sumOf 27 = .ok (.goto (-23), 3) := by decide +kernel
theorem dX12_sumOf_30 : decode cX12_sumOf 30 = .ok (.iload_n 2, 1) := by decide +kernel
theorem dX12_sumOf_31 : decode cX12_sumOf 31 = .ok (.ireturn, 1) := by decide +kernel
theorem dX12_count_0 : decode cX12_count 0 = .ok (.aload_n 0, 1) := by decide +kernel
theorem dX12_count_1 : decode cX12_count 1 = .ok (.iconst 0, 1) := by decide +kernel
theorem dX12_count_2 : decode cX12_count 2 = .ok (.putfield 3, 3) := by decide +kernel
theorem dX12_count_5 : decode cX12_count 5 = .ok (.iconst 0, 1) := by decide +kernel
theorem dX12_count_6 : decode cX12_count 6 = .ok (.istore_n 2, 1) := by decide +kernel
theorem dX12_count_7 : decode cX12_count 7 = .ok (.iload_n 1, 1) := by decide +kernel
theorem dX12_count_8 : decode cX12_count 8 = .ok (.tableswitch 194 0 12 #[68, 73, 81, 86, 93, 100, 139, 146, 153, 160, 169, 177, 186], 68) := by decide +kernel
theorem dX12_count_76 : decode cX12_count 76 = .ok (.aload_n 0, 1) := by decide +kernel
theorem dX12_count_77 : decode cX12_count 77 = .ok (.invokevirtual 83, 3) := by decide +kernel
theorem dX12_count_80 : decode cX12_count 80 = .ok (.ireturn, 1) := by decide +kernel
theorem dX12_count_81 : decode cX12_count 81 = .ok (.aload_n 0, 1) := by decide +kernel
theorem dX12_count_82 : decode cX12_count 82 = .ok (.getfield 14, 3) := by decide +kernel
theorem dX12_count_85 : decode cX12_count 85 = .ok (.bipush 8, 2) := by decide +kernel
theorem dX12_count_87 : decode cX12_count 87 = .ok (.iaload, 1) := by decide +kernel
theorem dX12_count_88 : decode cX12_count 88 = .ok (.ireturn, 1) := by decide +kernel
theorem dX12_count_89 : decode cX12_count 89 = .ok (.aload_n 0, 1) := by decide +kernel
theorem dX12_count_90 : decode cX12_count 90 = .ok (.invokevirtual 79, 3) := by decide +kernel
theorem dX12_count_93 : decode cX12_count 93 = .ok (.ireturn, 1) := by decide +kernel
theorem dX12_count_94 : decode cX12_count 94 = .ok (.aload_n 0, 1) := by decide +kernel
theorem dX12_count_95 : decode cX12_count 95 = .ok (.getfield 14, 3) := by decide +kernel
theorem dX12_count_98 : decode cX12_count 98 = .ok (.iconst 3, 1) := by decide +kernel
theorem dX12_count_99 : decode cX12_count 99 = .ok (.iaload, 1) := by decide +kernel
theorem dX12_count_100 : decode cX12_count 100 = .ok (.ireturn, 1) := by decide +kernel
theorem dX12_count_101 : decode cX12_count 101 = .ok (.aload_n 0, 1) := by decide +kernel
theorem dX12_count_102 : decode cX12_count 102 = .ok (.getfield 14, 3) := by decide +kernel
theorem dX12_count_105 : decode cX12_count 105 = .ok (.iconst 4, 1) := by decide +kernel
theorem dX12_count_106 : decode cX12_count 106 = .ok (.iaload, 1) := by decide +kernel
theorem dX12_count_107 : decode cX12_count 107 = .ok (.ireturn, 1) := by decide +kernel
theorem dX12_count_108 : decode cX12_count 108 = .ok (.iconst 0, 1) := by decide +kernel
theorem dX12_count_109 : decode cX12_count 109 = .ok (.istore_n 3, 1) := by decide +kernel
theorem dX12_count_110 : decode cX12_count 110 = .ok (.iload_n 3, 1) := by decide +kernel
theorem dX12_count_111 : decode cX12_count 111 = .ok (.aload_n 0, 1) := by decide +kernel
theorem dX12_count_112 : decode cX12_count 112 = .ok (.getfield 14, 3) := by decide +kernel
theorem dX12_count_115 : decode cX12_count 115 = .ok (.bipush 8, 2) := by decide +kernel
theorem dX12_count_117 : decode cX12_count 117 = .ok (.iaload, 1) := by decide +kernel
theorem dX12_count_118 : decode cX12_count 118 = .ok (.if_icmp .ge 27, 3) := by decide +kernel
theorem dX12_count_121 : decode cX12_count 121 = .ok (.iload_n 2, 1) := by decide +kernel
theorem dX12_count_122 : decode cX12_count 122 = .ok (.aload_n 0, 1) := by decide +kernel
theorem dX12_count_123 : decode cX12_count 123 = .ok (.iload_n 3, 1) := by decide +kernel
theorem dX12_count_124 : decode cX12_count 124 = .ok (.bipush 8, 2) := by decide +kernel
theorem dX12_count_126 : decode cX12_count 126 = .ok (.invokevirtual 250, 3) := by decide +kernel
theorem dX12_count_129 : decode cX12_count 129 = .ok (.ifCond .ne 7, 3) := by decide +kernel
theorem dX12_count_132 : decode cX12_count 132 = .ok (.iconst 1, 1) := by decide +kernel
theorem dX12_count_133 : decode cX12_count 133 = .ok (.goto 4, 3) := by decide +kernel
theorem dX12_count_136 : decode cX12_count 136 = .ok (.iconst 0, 1) := by decide +kernel
theorem dX12_count_137 : decode cX12_count 137 = .ok (.iadd, 1) := by decide +kernel
theorem dX12_count_138 : decode cX12_count 138 = .ok (.istore_n 2, 1) := by decide +kernel
theorem dX12_count_139 : decode cX12_count 139 = .ok (.iinc 3 1, 3) := by decide +kernel
theorem dX12_count_142 : decode cX12_count 142 = .ok (.goto (-32), 3) := by decide +kernel
theorem dX12_count_145 : decode cX12_count 145 = .ok (.iload_n 2, 1) := by decide +kernel
theorem dX12_count_146 : decode cX12_count 146 = .ok (.ireturn, 1) := by decide +kernel
theorem dX12_count_147 : decode cX12_count 147 = .ok (.aload_n 0, 1) := by decide +kernel
theorem dX12_count_148 : decode cX12_count 148 = .ok (.getfield 14, 3) := by decide +kernel
theorem dX12_count_151 : decode cX12_count 151 = .ok (.iconst 5, 1) := by decide +kernel
theorem dX12_count_152 : decode cX12_count 152 = .ok (.iaload, 1) := by decide +kernel
theorem dX12_count_153 : decode cX12_count 153 = .ok (.ireturn, 1) := by decide +kernel
theorem dX12_count_154 : decode cX12_count 154 = .ok (.aload_n 0, 1) := by decide +kernel
theorem dX12_count_155 : decode cX12_count 155 = .ok (.bipush 15, 2) := by decide +kernel
theorem dX12_count_157 : decode cX12_count 157 = .ok (.invokevirtual 404, 3) := by decide +kernel
theorem dX12_count_160 : decode cX12_count 160 = .ok (.ireturn, 1) := by decide +kernel
theorem dX12_count_161 : decode cX12_count 161 = .ok (.aload_n 0, 1) := by decide +kernel
theorem dX12_count_162 : decode cX12_count 162 = .ok (.bipush 14, 2) := by decide +kernel
theorem dX12_count_164 : decode cX12_count 164 = .ok (.invokevirtual 404, 3) := by decide +kernel
theorem dX12_count_167 : decode cX12_count 167 = .ok (.ireturn, 1) := by decide +kernel
theorem dX12_count_168 : decode cX12_count 168 = .ok (.aload_n 0, 1) := by decide +kernel
theorem dX12_count_169 : decode cX12_count 169 = .ok (.getfield 14, 3) := by decide +kernel
theorem dX12_count_172 : decode cX12_count 172 = .ok (.sipush 11275, 3) := by decide +kernel
theorem dX12_count_175 : decode cX12_count 175 = .ok (.iaload, 1) := by decide +kernel
theorem dX12_count_176 : decode cX12_count 176 = .ok (.ireturn, 1) := by decide +kernel
theorem dX12_count_177 : decode cX12_count 177 = .ok (.aload_n 0, 1) := by decide +kernel
theorem dX12_count_178 : decode cX12_count 178 = .ok (.getfield 14, 3) := by decide +kernel
theorem dX12_count_181 : decode cX12_count 181 = .ok (.bipush 6, 2) := by decide +kernel
theorem dX12_count_183 : decode cX12_count 183 = .ok (.iaload, 1) := by decide +kernel
theorem dX12_count_184 : decode cX12_count 184 = .ok (.ireturn, 1) := by decide +kernel
theorem dX12_count_185 : decode cX12_count 185 = .ok (.aload_n 0, 1) := by decide +kernel
theorem dX12_count_186 : decode cX12_count 186 = .ok (.getfield 14, 3) := by decide +kernel
theorem dX12_count_189 : decode cX12_count 189 = .ok (.sipush 10753, 3) := by decide +kernel
theorem dX12_count_192 : decode cX12_count 192 = .ok (.iaload, 1) := by decide +kernel
theorem dX12_count_193 : decode cX12_count 193 = .ok (.ireturn, 1) := by decide +kernel
theorem dX12_count_194 : decode cX12_count 194 = .ok (.aload_n 0, 1) := by decide +kernel
theorem dX12_count_195 : decode cX12_count 195 = .ok (.getfield 14, 3) := by decide +kernel
theorem dX12_count_198 : decode cX12_count 198 = .ok (.bipush 7, 2) := by decide +kernel
theorem dX12_count_200 : decode cX12_count 200 = .ok (.iaload, 1) := by decide +kernel
theorem dX12_count_201 : decode cX12_count 201 = .ok (.ireturn, 1) := by decide +kernel
theorem dX12_count_202 : decode cX12_count 202 = .ok (.iconst (-1), 1) := by decide +kernel
theorem dX12_count_203 : decode cX12_count 203 = .ok (.ireturn, 1) := by decide +kernel
theorem dJ9_floorDiv_f86c9_0 : decode cJ9_floorDiv_f86c9 0 = .ok (.lload_n 0, 1) := by decide +kernel
theorem dJ9_floorDiv_f86c9_1 : decode cJ9_floorDiv_f86c9 1 = .ok (.lload_n 2, 1) := by decide +kernel
theorem dJ9_floorDiv_f86c9_2 : decode cJ9_floorDiv_f86c9 2 = .ok (.ldiv, 1) := by decide +kernel
theorem dJ9_floorDiv_f86c9_3 : decode cJ9_floorDiv_f86c9 3 = .ok (.lstore 4, 2) := by decide +kernel
theorem dJ9_floorDiv_f86c9_5 : decode cJ9_floorDiv_f86c9 5 = .ok (.lload_n 0, 1) := by decide +kernel
theorem dJ9_floorDiv_f86c9_6 : decode cJ9_floorDiv_f86c9 6 = .ok (.lload_n 2, 1) := by decide +kernel
theorem dJ9_floorDiv_f86c9_7 : decode cJ9_floorDiv_f86c9 7 = .ok (.lxor, 1) := by decide +kernel
theorem dJ9_floorDiv_f86c9_8 : decode cJ9_floorDiv_f86c9 8 = .ok (.lconst 0, 1) := by decide +kernel
theorem dJ9_floorDiv_f86c9_9 : decode cJ9_floorDiv_f86c9 9 = .ok (.lcmp, 1) := by decide +kernel
theorem dJ9_floorDiv_f86c9_10 : decode cJ9_floorDiv_f86c9 10 = .ok (.ifCond .ge 17, 3) := by decide +kernel
theorem dJ9_floorDiv_f86c9_13 : decode cJ9_floorDiv_f86c9 13 = .ok (.lload 4, 2) := by decide +kernel
theorem dJ9_floorDiv_f86c9_15 : decode cJ9_floorDiv_f86c9 15 = .ok (.lload_n 2, 1) := by decide +kernel
theorem dJ9_floorDiv_f86c9_16 : decode cJ9_floorDiv_f86c9 16 = .ok (.lmul, 1) := by decide +kernel
theorem dJ9_floorDiv_f86c9_17 : decode cJ9_floorDiv_f86c9 17 = .ok (.lload_n 0, 1) := by decide +kernel
theorem dJ9_floorDiv_f86c9_18 : decode cJ9_floorDiv_f86c9 18 = .ok (.lcmp, 1) := by decide +kernel
theorem dJ9_floorDiv_f86c9_19 : decode cJ9_floorDiv_f86c9 19 = .ok (.ifCond .eq 8, 3) := by decide +kernel
theorem dJ9_floorDiv_f86c9_22 : decode cJ9_floorDiv_f86c9 22 = .ok (.lload 4, 2) := by decide +kernel
theorem dJ9_floorDiv_f86c9_24 : decode cJ9_floorDiv_f86c9 24 = .ok (.lconst 1, 1) := by decide +kernel
theorem dJ9_floorDiv_f86c9_25 : decode cJ9_floorDiv_f86c9 25 = .ok (.lsub, 1) := by decide +kernel
theorem dJ9_floorDiv_f86c9_26 : decode cJ9_floorDiv_f86c9 26 = .ok (.lreturn, 1) := by decide +kernel
theorem dJ9_floorDiv_f86c9_27 : decode cJ9_floorDiv_f86c9 27 = .ok (.lload 4, 2) := by decide +kernel
theorem dJ9_floorDiv_f86c9_29 : decode cJ9_floorDiv_f86c9 29 = .ok (.lreturn, 1) := by decide +kernel
theorem dJ9_floorMod_7cf53_0 : decode cJ9_floorMod_7cf53 0 = .ok (.iload_n 0, 1) := by decide +kernel
theorem dJ9_floorMod_7cf53_1 : decode cJ9_floorMod_7cf53 1 = .ok (.iload_n 1, 1) := by decide +kernel
theorem dJ9_floorMod_7cf53_2 : decode cJ9_floorMod_7cf53 2 = .ok (.irem, 1) := by decide +kernel
theorem dJ9_floorMod_7cf53_3 : decode cJ9_floorMod_7cf53 3 = .ok (.istore_n 2, 1) := by decide +kernel
theorem dJ9_floorMod_7cf53_4 : decode cJ9_floorMod_7cf53 4 = .ok (.iload_n 0, 1) := by decide +kernel
theorem dJ9_floorMod_7cf53_5 : decode cJ9_floorMod_7cf53 5 = .ok (.iload_n 1, 1) := by decide +kernel
theorem dJ9_floorMod_7cf53_6 : decode cJ9_floorMod_7cf53 6 = .ok (.ixor, 1) := by decide +kernel
theorem dJ9_floorMod_7cf53_7 : decode cJ9_floorMod_7cf53 7 = .ok (.ifCond .ge 11, 3) := by decide +kernel
theorem dJ9_floorMod_7cf53_10 : decode cJ9_floorMod_7cf53 10 = .ok (.iload_n 2, 1) := by decide +kernel
theorem dJ9_floorMod_7cf53_11 : decode cJ9_floorMod_7cf53 11 = .ok (.ifCond .eq 7, 3) := by decide +kernel
theorem dJ9_floorMod_7cf53_14 : decode cJ9_floorMod_7cf53 14 = .ok (.iload_n 2, 1) := by decide +kernel
theorem dJ9_floorMod_7cf53_15 : decode cJ9_floorMod_7cf53 15 = .ok (.iload_n 1, 1) := by decide +kernel
theorem dJ9_floorMod_7cf53_16 : decode cJ9_floorMod_7cf53 16 = .ok (.iadd, 1) := by decide +kernel
theorem dJ9_floorMod_7cf53_17 : decode cJ9_floorMod_7cf53 17 = .ok (.ireturn, 1) := by decide +kernel
theorem dJ9_floorMod_7cf53_18 : decode cJ9_floorMod_7cf53 18 = .ok (.iload_n 2, 1) := by decide +kernel
theorem dJ9_floorMod_7cf53_19 : decode cJ9_floorMod_7cf53 19 = .ok (.ireturn, 1) := by decide +kernel
theorem dJ9_floorMod_f86c9_0 : decode cJ9_floorMod_f86c9 0 = .ok (.lload_n 0, 1) := by decide +kernel
theorem dJ9_floorMod_f86c9_1 : decode cJ9_floorMod_f86c9 1 = .ok (.lload_n 2, 1) := by decide +kernel
theorem dJ9_floorMod_f86c9_2 : decode cJ9_floorMod_f86c9 2 = .ok (.lrem, 1) := by decide +kernel
theorem dJ9_floorMod_f86c9_3 : decode cJ9_floorMod_f86c9 3 = .ok (.lstore 4, 2) := by decide +kernel
theorem dJ9_floorMod_f86c9_5 : decode cJ9_floorMod_f86c9 5 = .ok (.lload_n 0, 1) := by decide +kernel
theorem dJ9_floorMod_f86c9_6 : decode cJ9_floorMod_f86c9 6 = .ok (.lload_n 2, 1) := by decide +kernel
theorem dJ9_floorMod_f86c9_7 : decode cJ9_floorMod_f86c9 7 = .ok (.lxor, 1) := by decide +kernel
theorem dJ9_floorMod_f86c9_8 : decode cJ9_floorMod_f86c9 8 = .ok (.lconst 0, 1) := by decide +kernel
theorem dJ9_floorMod_f86c9_9 : decode cJ9_floorMod_f86c9 9 = .ok (.lcmp, 1) := by decide +kernel
theorem dJ9_floorMod_f86c9_10 : decode cJ9_floorMod_f86c9 10 = .ok (.ifCond .ge 15, 3) := by decide +kernel
theorem dJ9_floorMod_f86c9_13 : decode cJ9_floorMod_f86c9 13 = .ok (.lload 4, 2) := by decide +kernel
theorem dJ9_floorMod_f86c9_15 : decode cJ9_floorMod_f86c9 15 = .ok (.lconst 0, 1) := by decide +kernel
theorem dJ9_floorMod_f86c9_16 : decode cJ9_floorMod_f86c9 16 = .ok (.lcmp, 1) := by decide +kernel
theorem dJ9_floorMod_f86c9_17 : decode cJ9_floorMod_f86c9 17 = .ok (.ifCond .eq 8, 3) := by decide +kernel
theorem dJ9_floorMod_f86c9_20 : decode cJ9_floorMod_f86c9 20 = .ok (.lload 4, 2) := by decide +kernel
theorem dJ9_floorMod_f86c9_22 : decode cJ9_floorMod_f86c9 22 = .ok (.lload_n 2, 1) := by decide +kernel
theorem dJ9_floorMod_f86c9_23 : decode cJ9_floorMod_f86c9 23 = .ok (.ladd, 1) := by decide +kernel
theorem dJ9_floorMod_f86c9_24 : decode cJ9_floorMod_f86c9 24 = .ok (.lreturn, 1) := by decide +kernel
theorem dJ9_floorMod_f86c9_25 : decode cJ9_floorMod_f86c9 25 = .ok (.lload 4, 2) := by decide +kernel
theorem dJ9_floorMod_f86c9_27 : decode cJ9_floorMod_f86c9 27 = .ok (.lreturn, 1) := by decide +kernel
theorem dJ9_max_7cf53_0 : decode cJ9_max_7cf53 0 = .ok (.iload_n 0, 1) := by decide +kernel
theorem dJ9_max_7cf53_1 : decode cJ9_max_7cf53 1 = .ok (.iload_n 1, 1) := by decide +kernel
theorem dJ9_max_7cf53_2 : decode cJ9_max_7cf53 2 = .ok (.if_icmp .lt 7, 3) := by decide +kernel
theorem dJ9_max_7cf53_5 : decode cJ9_max_7cf53 5 = .ok (.iload_n 0, 1) := by decide +kernel
theorem dJ9_max_7cf53_6 : decode cJ9_max_7cf53 6 = .ok (.goto 4, 3) := by decide +kernel
theorem dJ9_max_7cf53_9 : decode cJ9_max_7cf53 9 = .ok (.iload_n 1, 1) := by decide +kernel
theorem dJ9_max_7cf53_10 : decode cJ9_max_7cf53 10 = .ok (.ireturn, 1) := by decide +kernel
theorem dJ9_max_f86c9_0 : decode cJ9_max_f86c9 0 = .ok (.lload_n 0, 1) := by decide +kernel
theorem dJ9_max_f86c9_1 : decode cJ9_max_f86c9 1 = .ok (.lload_n 2, 1) := by decide +kernel
theorem dJ9_max_f86c9_2 : decode cJ9_max_f86c9 2 = .ok (.lcmp, 1) := by decide +kernel
theorem dJ9_max_f86c9_3 : decode cJ9_max_f86c9 3 = .ok (.ifCond .lt 7, 3) := by decide +kernel
theorem dJ9_max_f86c9_6 : decode cJ9_max_f86c9 6 = .ok (.lload_n 0, 1) := by decide +kernel
theorem dJ9_max_f86c9_7 : decode cJ9_max_f86c9 7 = .ok (.goto 4, 3) := by decide +kernel
theorem dJ9_max_f86c9_10 : decode cJ9_max_f86c9 10 = .ok (.lload_n 2, 1) := by decide +kernel
theorem dJ9_max_f86c9_11 : decode cJ9_max_f86c9 11 = .ok (.lreturn, 1) := by decide +kernel
theorem dJ9_min_7cf53_0 : decode cJ9_min_7cf53 0 = .ok (.iload_n 0, 1) := by decide +kernel
theorem dJ9_min_7cf53_1 : decode cJ9_min_7cf53 1 = .ok (.iload_n 1, 1) := by decide +kernel
theorem dJ9_min_7cf53_2 : decode cJ9_min_7cf53 2 = .ok (.if_icmp .gt 7, 3) := by decide +kernel
theorem dJ9_min_7cf53_5 : decode cJ9_min_7cf53 5 = .ok (.iload_n 0, 1) := by decide +kernel
theorem dJ9_min_7cf53_6 : decode cJ9_min_7cf53 6 = .ok (.goto 4, 3) := by decide +kernel
theorem dJ9_min_7cf53_9 : decode cJ9_min_7cf53 9 = .ok (.iload_n 1, 1) := by decide +kernel
theorem dJ9_min_7cf53_10 : decode cJ9_min_7cf53 10 = .ok (.ireturn, 1) := by decide +kernel
theorem dJ9_min_f86c9_0 : decode cJ9_min_f86c9 0 = .ok (.lload_n 0, 1) := by decide +kernel
theorem dJ9_min_f86c9_1 : decode cJ9_min_f86c9 1 = .ok (.lload_n 2, 1) := by decide +kernel
theorem dJ9_min_f86c9_2 : decode cJ9_min_f86c9 2 = .ok (.lcmp, 1) := by decide +kernel
theorem dJ9_min_f86c9_3 : decode cJ9_min_f86c9 3 = .ok (.ifCond .gt 7, 3) := by decide +kernel
theorem dJ9_min_f86c9_6 : decode cJ9_min_f86c9 6 = .ok (.lload_n 0, 1) := by decide +kernel
theorem dJ9_min_f86c9_7 : decode cJ9_min_f86c9 7 = .ok (.goto 4, 3) := by decide +kernel
theorem dJ9_min_f86c9_10 : decode cJ9_min_f86c9 10 = .ok (.lload_n 2, 1) := by decide +kernel
theorem dJ9_min_f86c9_11 : decode cJ9_min_f86c9 11 = .ok (.lreturn, 1) := by decide +kernel
theorem dJ0_length_8abf5_0 : decode cJ0_length_8abf5 0 = .ok (.aload_n 0, 1) := by decide +kernel
theorem dJ0_length_8abf5_1 : decode cJ0_length_8abf5 1 = .ok (.getfield 9, 3) := by decide +kernel
theorem dJ0_length_8abf5_4 : decode cJ0_length_8abf5 4 = .ok (.arraylength, 1) := by decide +kernel
theorem dJ0_length_8abf5_5 : decode cJ0_length_8abf5 5 = .ok (.aload_n 0, 1) := by decide +kernel
theorem dJ0_length_8abf5_6 : decode cJ0_length_8abf5 6 = .ok (.invokevirtual 335, 3) := by decide +kernel
theorem dJ0_length_8abf5_9 : decode cJ0_length_8abf5 9 = .ok (.ishr, 1) := by decide +kernel
theorem dJ0_length_8abf5_10 : decode cJ0_length_8abf5 10 = .ok (.ireturn, 1) := by decide +kernel
theorem dJ0_charAt_5068e_0 : decode cJ0_charAt_5068e 0 = .ok (.aload_n 0, 1) := by decide +kernel
theorem dJ0_charAt_5068e_1 : decode cJ0_charAt_5068e 1 = .ok (.invokevirtual 492, 3) := by decide +kernel
theorem dJ0_charAt_5068e_4 : decode cJ0_charAt_5068e 4 = .ok (.ifCond .eq 12, 3) := by decide +kernel
theorem dJ0_charAt_5068e_7 : decode cJ0_charAt_5068e 7 = .ok (.aload_n 0, 1) := by decide +kernel
theorem dJ0_charAt_5068e_8 : decode cJ0_charAt_5068e 8 = .ok (.getfield 9, 3) := by decide +kernel
theorem dJ0_charAt_5068e_11 : decode cJ0_charAt_5068e 11 = .ok (.iload_n 1, 1) := by decide +kernel
theorem dJ0_charAt_5068e_12 : decode cJ0_charAt_5068e 12 = .ok (.invokestatic 495, 3) := by decide +kernel
theorem dJ0_charAt_5068e_15 : decode cJ0_charAt_5068e 15 = .ok (.ireturn, 1) := by decide +kernel
theorem dJ0_charAt_5068e_16 : decode cJ0_charAt_5068e 16 = .ok (.aload_n 0, 1) := by decide +kernel
theorem dJ0_charAt_5068e_17 : decode cJ0_charAt_5068e 17 = .ok (.getfield 9, 3) := by decide +kernel
theorem dJ0_charAt_5068e_20 : decode cJ0_charAt_5068e 20 = .ok (.iload_n 1, 1) := by decide +kernel
theorem dJ0_charAt_5068e_21 : decode cJ0_charAt_5068e 21 = .ok (.invokestatic 498, 3) := by decide +kernel
theorem dJ0_charAt_5068e_24 : decode cJ0_charAt_5068e 24 = .ok (.ireturn, 1) := by decide +kernel
theorem dJ0_coder_7d493_0 : decode cJ0_coder_7d493 0 = .ok (.getstatic 38, 3) := by decide +kernel
theorem dJ0_coder_7d493_3 : decode cJ0_coder_7d493 3 = .ok (.ifCond .eq 10, 3) := by decide +kernel
theorem dJ0_coder_7d493_6 : decode cJ0_coder_7d493 6 = .ok (.aload_n 0, 1) := by decide +kernel
theorem dJ0_coder_7d493_7 : decode cJ0_coder_7d493 7 = .ok (.getfield 15, 3) := by decide +kernel
theorem dJ0_coder_7d493_10 : decode cJ0_coder_7d493 10 = .ok (.goto 4, 3) := by decide +kernel
theorem dJ0_coder_7d493_13 : decode cJ0_coder_7d493 13 = .ok (.iconst 1, 1) := by decide +kernel
theorem dJ0_coder_7d493_14 : decode cJ0_coder_7d493 14 = .ok (.ireturn, 1) := by decide +kernel
theorem dJ0_isLatin1_aae02_0 : decode cJ0_isLatin1_aae02 0 = .ok (.getstatic 38, 3) := by decide +kernel
theorem dJ0_isLatin1_aae02_3 : decode cJ0_isLatin1_aae02 3 = .ok (.ifCond .eq 14, 3) := by decide +kernel
theorem dJ0_isLatin1_aae02_6 : decode cJ0_isLatin1_aae02 6 = .ok (.aload_n 0, 1) := by decide +kernel
theorem dJ0_isLatin1_aae02_7 : decode cJ0_isLatin1_aae02 7 = .ok (.getfield 15, 3) := by decide +kernel
theorem dJ0_isLatin1_aae02_10 : decode cJ0_isLatin1_aae02 10 = .ok (.ifCond .ne 7, 3) := by decide +kernel
theorem dJ0_isLatin1_aae02_13 : decode cJ0_isLatin1_aae02 13 = .ok (.iconst 1, 1) := by decide +kernel
theorem dJ0_isLatin1_aae02_14 : decode cJ0_isLatin1_aae02 14 = .ok (.goto 4, 3) := by decide +kernel
theorem dJ0_isLatin1_aae02_17 : decode cJ0_isLatin1_aae02 17 = .ok (.iconst 0, 1) := by decide +kernel
theorem dJ0_isLatin1_aae02_18 : decode cJ0_isLatin1_aae02 18 = .ok (.ireturn, 1) := by decide +kernel
theorem dJ0_checkIndex_df160_0 : decode cJ0_checkIndex_df160 0 = .ok (.iload_n 0, 1) := by decide +kernel
theorem dJ0_checkIndex_df160_1 : decode cJ0_checkIndex_df160 1 = .ok (.iload_n 1, 1) := by decide +kernel
theorem dJ0_checkIndex_df160_2 : decode cJ0_checkIndex_df160 2 = .ok (.getstatic 1053, 3) := by decide +kernel
theorem dJ0_checkIndex_df160_5 : decode cJ0_checkIndex_df160 5 = .ok (.invokestatic 1059, 3) := by decide +kernel
theorem dJ0_checkIndex_df160_8 : decode cJ0_checkIndex_df160 8 = .ok (.pop, 1) := by decide +kernel
theorem dJ0_checkIndex_df160_9 : decode cJ0_checkIndex_df160 9 = .ok (.return_, 1) := by decide +kernel
theorem dJ1_charAt_3b067_0 : decode cJ1_charAt_3b067 0 = .ok (.iload_n 1, 1) := by decide +kernel
theorem dJ1_charAt_3b067_1 : decode cJ1_charAt_3b067 1 = .ok (.aload_n 0, 1) := by decide +kernel
theorem dJ1_charAt_3b067_2 : decode cJ1_charAt_3b067 2 = .ok (.arraylength, 1) := by decide +kernel
theorem dJ1_charAt_3b067_3 : decode cJ1_charAt_3b067 3 = .ok (.invokestatic 9, 3) := by decide +kernel
theorem dJ1_charAt_3b067_6 : decode cJ1_charAt_3b067 6 = .ok (.aload_n 0, 1) := by decide +kernel
theorem dJ1_charAt_3b067_7 : decode cJ1_charAt_3b067 7 = .ok (.iload_n 1, 1) := by decide +kernel
theorem dJ1_charAt_3b067_8 : decode cJ1_charAt_3b067 8 = .ok (.baload, 1) := by decide +kernel
theorem dJ1_charAt_3b067_9 : decode cJ1_charAt_3b067 9 = .ok (.sipush 255, 3) := by decide +kernel
theorem dJ1_charAt_3b067_12 : decode cJ1_charAt_3b067 12 = .ok (.iand, 1) := by decide +kernel
theorem dJ1_charAt_3b067_13 : decode cJ1_charAt_3b067 13 = .ok (.i2c, 1) := by decide +kernel
theorem dJ1_charAt_3b067_14 : decode cJ1_charAt_3b067 14 = .ok (.ireturn, 1) := by decide +kernel
theorem dJ2_getChar_3b067_0 : decode cJ2_getChar_3b067 0 = .ok (.getstatic 44, 3) := by decide +kernel
theorem dJ2_getChar_3b067_3 : decode cJ2_getChar_3b067 3 = .ok (.ifCond .ne 25, 3) := by decide +kernel
theorem dJ2_getChar_3b067_6 : decode cJ2_getChar_3b067 6 = .ok (.iload_n 1, 1) := by decide +kernel
theorem dJ2_getChar_3b067_7 : decode cJ2_getChar_3b067 7 = .ok (.ifCond .lt 11, 3) := by decide +kernel
theorem dJ2_getChar_3b067_10 : decode cJ2_getChar_3b067 10 = .ok (.iload_n 1, 1) := by decide +kernel
theorem dJ2_getChar_3b067_11 : decode cJ2_getChar_3b067 11 = .ok (.aload_n 0, 1) := by decide +kernel
theorem dJ2_getChar_3b067_12 : decode cJ2_getChar_3b067 12 = .ok (.invokestatic 48, 3) := by decide +kernel
theorem dJ2_getChar_3b067_15 : decode cJ2_getChar_3b067 15 = .ok (.if_icmp .lt 13, 3) := by decide +kernel
theorem dJ2_getChar_3b067_18 : decode cJ2_getChar_3b067 18 = .ok (.new 52, 3) := by decide +kernel
theorem dJ2_getChar_3b067_21 : decode cJ2_getChar_3b067 21 = .ok (.dup, 1) := by decide +kernel
theorem dJ2_getChar_3b067_22 : decode cJ2_getChar_3b067 22 = .ok (.ldc 54, 2) := by decide +kernel
theorem dJ2_getChar_3b067_24 : decode cJ2_getChar_3b067 24 = .ok (.invokespecial 56, 3) := by decide +kernel
theorem dJ2_getChar_3b067_27 : decode cJ2_getChar_3b067 27 = .ok (.athrow, 1) := by decide +kernel
theorem dJ2_getChar_3b067_28 : decode cJ2_getChar_3b067 28 = .ok (.iload_n 1, 1) := by decide +kernel
theorem dJ2_getChar_3b067_29 : decode cJ2_getChar_3b067 29 = .ok (.iconst 1, 1) := by decide +kernel
theorem dJ2_getChar_3b067_30 : decode cJ2_getChar_3b067 30 = .ok (.ishl, 1) := by decide +kernel
theorem dJ2_getChar_3b067_31 : decode cJ2_getChar_3b067 31 = .ok (.istore_n 1, 1) := by decide +kernel
theorem dJ2_getChar_3b067_32 : decode cJ2_getChar_3b067 32 = .ok (.aload_n 0, 1) := by decide +kernel
theorem dJ2_getChar_3b067_33 : decode cJ2_getChar_3b067 33 = .ok (.iload_n 1, 1) := by decide +kernel
theorem dJ2_getChar_3b067_34 : decode cJ2_getChar_3b067 34 = .ok (.iinc 1 1, 3) := by decide +kernel
theorem dJ2_getChar_3b067_37 : decode cJ2_getChar_3b067 37 = .ok (.baload, 1) := by decide +kernel
theorem dJ2_getChar_3b067_38 : decode cJ2_getChar_3b067 38 = .ok (.sipush 255, 3) := by decide +kernel
theorem dJ2_getChar_3b067_41 : decode cJ2_getChar_3b067 41 = .ok (.iand, 1) := by decide +kernel
theorem dJ2_getChar_3b067_42 : decode cJ2_getChar_3b067 42 = .ok (.getstatic 59, 3) := by decide +kernel
theorem dJ2_getChar_3b067_45 : decode cJ2_getChar_3b067 45 = .ok (.ishl, 1) := by decide +kernel
theorem dJ2_getChar_3b067_46 : decode cJ2_getChar_3b067 46 = .ok (.aload_n 0, 1) := by decide +kernel
theorem dJ2_getChar_3b067_47 : decode cJ2_getChar_3b067 47 = .ok (.iload_n 1, 1) := by decide +kernel
theorem dJ2_getChar_3b067_48 : decode cJ2_getChar_3b067 48 = .ok (.baload, 1) := by decide +kernel
theorem dJ2_getChar_3b067_49 : decode cJ2_getChar_3b067 49 = .ok (.sipush 255, 3) := by decide +kernel
theorem dJ2_getChar_3b067_52 : decode cJ2_getChar_3b067 52 = .ok (.iand, 1) := by decide +kernel
theorem dJ2_getChar_3b067_53 : decode cJ2_getChar_3b067 53 = .ok (.getstatic 63, 3) := by decide +kernel
theorem dJ2_getChar_3b067_56 : decode cJ2_getChar_3b067 56 = .ok (.ishl, 1) := by decide +kernel
theorem dJ2_getChar_3b067_57 : decode cJ2_getChar_3b067 57 = .ok (.ior, 1) := by decide +kernel
theorem dJ2_getChar_3b067_58 : decode cJ2_getChar_3b067 58 = .ok (.i2c, 1) := by decide +kernel
theorem dJ2_getChar_3b067_59 : decode cJ2_getChar_3b067 59 = .ok (.ireturn, 1) := by decide +kernel
theorem dJ2_length_9d52b_0 : decode cJ2_length_9d52b 0 = .ok (.aload_n 0, 1) := by decide +kernel
theorem dJ2_length_9d52b_1 : decode cJ2_length_9d52b 1 = .ok (.arraylength, 1) := by decide +kernel
theorem dJ2_length_9d52b_2 : decode cJ2_length_9d52b 2 = .ok (.iconst 1, 1) := by decide +kernel
theorem dJ2_length_9d52b_3 : decode cJ2_length_9d52b 3 = .ok (.ishr, 1) := by decide +kernel
theorem dJ2_length_9d52b_4 : decode cJ2_length_9d52b 4 = .ok (.ireturn, 1) := by decide +kernel
theorem dJ2_charAt_3b067_0 : decode cJ2_charAt_3b067 0 = .ok (.iload_n 1, 1) := by decide +kernel
theorem dJ2_charAt_3b067_1 : decode cJ2_charAt_3b067 1 = .ok (.aload_n 0, 1) := by decide +kernel
theorem dJ2_charAt_3b067_2 : decode cJ2_charAt_3b067 2 = .ok (.invokestatic 67, 3) := by decide +kernel
theorem dJ2_charAt_3b067_5 : decode cJ2_charAt_3b067 5 = .ok (.aload_n 0, 1) := by decide +kernel
theorem dJ2_charAt_3b067_6 : decode cJ2_charAt_3b067 6 = .ok (.iload_n 1, 1) := by decide +kernel
theorem dJ2_charAt_3b067_7 : decode cJ2_charAt_3b067 7 = .ok (.invokestatic 71, 3) := by decide +kernel
theorem dJ2_charAt_3b067_10 : decode cJ2_charAt_3b067 10 = .ok (.ireturn, 1) := by decide +kernel
theorem dJ2_checkIndex_2214a_0 : decode cJ2_checkIndex_2214a 0 = .ok (.iload_n 0, 1) := by decide +kernel
theorem dJ2_checkIndex_2214a_1 : decode cJ2_checkIndex_2214a 1 = .ok (.aload_n 1, 1) := by decide +kernel
theorem dJ2_checkIndex_2214a_2 : decode cJ2_checkIndex_2214a 2 = .ok (.invokestatic 48, 3) := by decide +kernel
theorem dJ2_checkIndex_2214a_5 : decode cJ2_checkIndex_2214a 5 = .ok (.invokestatic 414, 3) := by decide +kernel
theorem dJ2_checkIndex_2214a_8 : decode cJ2_checkIndex_2214a 8 = .ok (.return_, 1) := by decide +kernel
theorem dJ7_fill_d0a16_0 : decode cJ7_fill_d0a16 0 = .ok (.iconst 0, 1) := by decide +kernel
theorem dJ7_fill_d0a16_1 : decode cJ7_fill_d0a16 1 = .ok (.istore_n 3, 1) := by decide +kernel
theorem dJ7_fill_d0a16_2 : decode cJ7_fill_d0a16 2 = .ok (.aload_n 0, 1) := by decide +kernel
theorem dJ7_fill_d0a16_3 : decode cJ7_fill_d0a16 3 = .ok (.arraylength, 1) := by decide +kernel
theorem dJ7_fill_d0a16_4 : decode cJ7_fill_d0a16 4 = .ok (.istore 4, 2) := by decide +kernel
theorem dJ7_fill_d0a16_6 : decode cJ7_fill_d0a16 6 = .ok (.iload_n 3, 1) := by decide +kernel
theorem dJ7_fill_d0a16_7 : decode cJ7_fill_d0a16 7 = .ok (.iload 4, 2) := by decide +kernel
theorem dJ7_fill_d0a16_9 : decode cJ7_fill_d0a16 9 = .ok (.if_icmp .ge 13, 3) := by decide +kernel
theorem dJ7_fill_d0a16_12 : decode cJ7_fill_d0a16 12 = .ok (.aload_n 0, 1) := by decide +kernel
theorem dJ7_fill_d0a16_13 : decode cJ7_fill_d0a16 13 = .ok (.iload_n 3, 1) := by decide +kernel
theorem dJ7_fill_d0a16_14 : decode cJ7_fill_d0a16 14 = .ok (.lload_n 1, 1) := by decide +kernel
theorem dJ7_fill_d0a16_15 : decode cJ7_fill_d0a16 15 = .ok (.lastore, 1) := by decide +kernel
theorem dJ7_fill_d0a16_16 : decode cJ7_fill_d0a16 16 = .ok (.iinc 3 1, 3) := by decide +kernel
theorem dJ7_fill_d0a16_19 : decode cJ7_fill_d0a16 19 = .ok (.goto (-13), 3) := by decide +kernel
theorem dJ7_fill_d0a16_22 : decode cJ7_fill_d0a16 22 = .ok (.return_, 1) := by decide +kernel
theorem dJ7_fill_53178_0 : decode cJ7_fill_53178 0 = .ok (.iconst 0, 1) := by decide +kernel
theorem dJ7_fill_53178_1 : decode cJ7_fill_53178 1 = .ok (.istore_n 2, 1) := by decide +kernel
theorem dJ7_fill_53178_2 : decode cJ7_fill_53178 2 = .ok (.aload_n 0, 1) := by decide +kernel
theorem dJ7_fill_53178_3 : decode cJ7_fill_53178 3 = .ok (.arraylength, 1) := by decide +kernel
theorem dJ7_fill_53178_4 : decode cJ7_fill_53178 4 = .ok (.istore_n 3, 1) := by decide +kernel
theorem dJ7_fill_53178_5 : decode cJ7_fill_53178 5 = .ok (.iload_n 2, 1) := by decide +kernel
theorem dJ7_fill_53178_6 : decode cJ7_fill_53178 6 = .ok (.iload_n 3, 1) := by decide +kernel
theorem dJ7_fill_53178_7 : decode cJ7_fill_53178 7 = .ok (.if_icmp .ge 13, 3) := by decide +kernel
theorem dJ7_fill_53178_10 : decode cJ7_fill_53178 10 = .ok (.aload_n 0, 1) := by decide +kernel
theorem dJ7_fill_53178_11 : decode cJ7_fill_53178 11 = .ok (.iload_n 2, 1) := by decide +kernel
theorem dJ7_fill_53178_12 : decode cJ7_fill_53178 12 = .ok (.iload_n 1, 1) := by decide +kernel
theorem dJ7_fill_53178_13 : decode cJ7_fill_53178 13 = .ok (.iastore, 1) := by decide +kernel
theorem dJ7_fill_53178_14 : decode cJ7_fill_53178 14 = .ok (.iinc 2 1, 3) := by decide +kernel
theorem dJ7_fill_53178_17 : decode cJ7_fill_53178 17 = .ok (.goto (-12), 3) := by decide +kernel
theorem dJ7_fill_53178_20 : decode cJ7_fill_53178 20 = .ok (.return_, 1) := by decide +kernel
theorem dJ7_copyOf_59c91_0 : decode cJ7_copyOf_59c91 0 = .ok (.iload_n 1, 1) := by decide +kernel
theorem dJ7_copyOf_59c91_1 : decode cJ7_copyOf_59c91 1 = .ok (.aload_n 0, 1) := by decide +kernel
theorem dJ7_copyOf_59c91_2 : decode cJ7_copyOf_59c91 2 = .ok (.arraylength, 1) := by decide +kernel
theorem dJ7_copyOf_59c91_3 : decode cJ7_copyOf_59c91 3 = .ok (.if_icmp .ne 11, 3) := by decide +kernel
theorem dJ7_copyOf_59c91_6 : decode cJ7_copyOf_59c91 6 = .ok (.aload_n 0, 1) := by decide +kernel
theorem dJ7_copyOf_59c91_7 : decode cJ7_copyOf_59c91 7 = .ok (.invokevirtual 316, 3) := by decide +kernel
theorem dJ7_copyOf_59c91_10 : decode cJ7_copyOf_59c91 10 = .ok (.checkcast 317, 3) := by decide +kernel
theorem dJ7_copyOf_59c91_13 : decode cJ7_copyOf_59c91 13 = .ok (.areturn, 1) := by decide +kernel
theorem dJ7_copyOf_59c91_14 : decode cJ7_copyOf_59c91 14 = .ok (.iload_n 1, 1) := by decide +kernel
theorem dJ7_copyOf_59c91_15 : decode cJ7_copyOf_59c91 15 = .ok (.newarray .int, 2) := by decide +kernel
theorem dJ7_copyOf_59c91_17 : decode cJ7_copyOf_59c91 17 = .ok (.astore_n 2, 1) := by decide +kernel
theorem dJ7_copyOf_59c91_18 : decode cJ7_copyOf_59c91 18 = .ok (.aload_n 0, 1) := by decide +kernel
theorem dJ7_copyOf_59c91_19 : decode cJ7_copyOf_59c91 19 = .ok (.iconst 0, 1) := by decide +kernel
theorem dJ7_copyOf_59c91_20 : decode cJ7_copyOf_59c91 20 = .ok (.aload_n 2, 1) := by decide +kernel
theorem dJ7_copyOf_59c91_21 : decode cJ7_copyOf_59c91 21 = .ok (.iconst 0, 1) := by decide +kernel
theorem dJ7_copyOf_59c91_22 : decode cJ7_copyOf_59c91 22 = .ok (.aload_n 0, 1) := by decide +kernel
theorem dJ7_copyOf_59c91_23 : decode cJ7_copyOf_59c91 23 = .ok (.arraylength, 1) := by decide +kernel
theorem dJ7_copyOf_59c91_24 : decode cJ7_copyOf_59c91 24 = .ok (.iload_n 1, 1) := by decide +kernel
theorem dJ7_copyOf_59c91_25 : decode cJ7_copyOf_59c91 25 = .ok (.invokestatic 304, 3) := by decide +kernel
theorem dJ7_copyOf_59c91_28 : decode cJ7_copyOf_59c91 28 = .ok (.invokestatic 150, 3) := by decide +kernel
theorem dJ7_copyOf_59c91_31 : decode cJ7_copyOf_59c91 31 = .ok (.aload_n 2, 1) := by decide +kernel
theorem dJ7_copyOf_59c91_32 : decode cJ7_copyOf_59c91 32 = .ok (.areturn, 1) := by decide +kernel
theorem dJ3_checkIndex_8e157_0 : decode cJ3_checkIndex_8e157 0 = .ok (.iload_n 0, 1) := by decide +kernel
theorem dJ3_checkIndex_8e157_1 : decode cJ3_checkIndex_8e157 1 = .ok (.ifCond .lt 8, 3) := by decide +kernel
theorem dJ3_checkIndex_8e157_4 : decode cJ3_checkIndex_8e157 4 = .ok (.iload_n 0, 1) := by decide +kernel
theorem dJ3_checkIndex_8e157_5 : decode cJ3_checkIndex_8e157 5 = .ok (.iload_n 1, 1) := by decide +kernel
theorem dJ3_checkIndex_8e157_6 : decode cJ3_checkIndex_8e157 6 = .ok (.if_icmp .lt 10, 3) := by decide +kernel
theorem dJ3_checkIndex_8e157_9 : decode cJ3_checkIndex_8e157 9 = .ok (.aload_n 2, 1) := by decide +kernel
theorem dJ3_checkIndex_8e157_10 : decode cJ3_checkIndex_8e157 10 = .ok (.iload_n 0, 1) := by decide +kernel
theorem dJ3_checkIndex_8e157_11 : decode cJ3_checkIndex_8e157 11 = .ok (.iload_n 1, 1) := by decide +kernel
theorem dJ3_checkIndex_8e157_12 : decode cJ3_checkIndex_8e157 12 = .ok (.invokestatic 95, 3) := by decide +kernel
theorem dJ3_checkIndex_8e157_15 : decode cJ3_checkIndex_8e157 15 = .ok (.athrow, 1) := by decide +kernel
theorem dJ3_checkIndex_8e157_16 : decode cJ3_checkIndex_8e157 16 = .ok (.iload_n 0, 1) := by decide +kernel
theorem dJ3_checkIndex_8e157_17 : decode cJ3_checkIndex_8e157 17 = .ok (.ireturn, 1) := by decide +kernel
theorem dL_day_0 : decode cL_day 0 = .ok (.aload_n 0, 1) := by decide +kernel
theorem dL_day_1 : decode cL_day 1 = .ok (.iload_n 1, 1) := by decide +kernel
theorem dL_day_2 : decode cL_day 2 = .ok (.iload_n 2, 1) := by decide +kernel
theorem dL_day_3 : decode cL_day 3 = .ok (.invokevirtual 7, 3) := by decide +kernel
theorem dL_day_6 : decode cL_day 6 = .ok (.goto 6, 3) := by decide +kernel
theorem dL_day_9 : decode cL_day 9 = .ok (.astore_n 3, 1) := by decide +kernel
theorem dL_day_10 : decode cL_day 10 = .ok (.iconst 1, 1) := by decide +kernel
theorem dL_day_11 : decode cL_day 11 = .ok (.ireturn, 1) := by decide +kernel
theorem dL_day_12 : decode cL_day 12 = .ok (.iconst 0, 1) := by decide +kernel
theorem dL_day_13 : decode cL_day 13 = .ok (.ireturn, 1) := by decide +kernel
theorem dL_old_0 : decode cL_old 0 = .ok (.aload_n 0, 1) := by decide +kernel
theorem dL_old_1 : decode cL_old 1 = .ok (.iload_n 1, 1) := by decide +kernel
theorem dL_old_2 : decode cL_old 2 = .ok (.iload_n 2, 1) := by decide +kernel
theorem dL_old_3 : decode cL_old 3 = .ok (.invokevirtual 15, 3) := by decide +kernel
theorem dL_old_6 : decode cL_old 6 = .ok (.goto 9, 3) := by decide +kernel
theorem dL_old_9 : decode cL_old 9 = .ok (.astore_n 3, 1) := by decide +kernel
theorem dL_old_10 : decode cL_old 10 = .ok (.iconst 1, 1) := by decide +kernel
theorem dL_old_11 : decode cL_old 11 = .ok (.ireturn, 1) := by decide +kernel
theorem dL_old_12 : decode cL_old 12 = .ok (.astore_n 3, 1) := by decide +kernel
theorem dL_old_13 : decode cL_old 13 = .ok (.iconst 2, 1) := by decide +kernel
theorem dL_old_14 : decode cL_old 14 = .ok (.ireturn, 1) := by decide +kernel
theorem dL_old_15 : decode cL_old 15 = .ok (.iconst 0, 1) := by decide +kernel
theorem dL_old_16 : decode cL_old 16 = .ok (.ireturn, 1) := by decide +kernel
theorem dL_ring_0 : decode cL_ring 0 = .ok (.aload 4, 2) := by decide +kernel
theorem dL_ring_2 : decode cL_ring 2 = .ok (.iconst 0, 1) := by decide +kernel
theorem dL_ring_3 : decode cL_ring 3 = .ok (.aload_n 0, 1) := by decide +kernel
theorem dL_ring_4 : decode cL_ring 4 = .ok (.iload_n 1, 1) := by decide +kernel
theorem dL_ring_5 : decode cL_ring 5 = .ok (.iload_n 2, 1) := by decide +kernel
theorem dL_ring_6 : decode cL_ring 6 = .ok (.iload_n 3, 1) := by decide +kernel
theorem dL_ring_7 : decode cL_ring 7 = .ok (.invokevirtual 20, 3) := by decide +kernel
theorem dL_ring_10 : decode cL_ring 10 = .ok (.i2l, 1) := by decide +kernel
theorem dL_ring_11 : decode cL_ring 11 = .ok (.lastore, 1) := by decide +kernel
theorem dL_ring_12 : decode cL_ring 12 = .ok (.goto 11, 3) := by decide +kernel
theorem dL_ring_15 : decode cL_ring 15 = .ok (.astore 5, 2) := by decide +kernel
theorem dL_ring_17 : decode cL_ring 17 = .ok (.iconst 1, 1) := by decide +kernel
theorem dL_ring_18 : decode cL_ring 18 = .ok (.ireturn, 1) := by decide +kernel
theorem dL_ring_19 : decode cL_ring 19 = .ok (.astore 5, 2) := by decide +kernel
theorem dL_ring_21 : decode cL_ring 21 = .ok (.iconst 2, 1) := by decide +kernel
theorem dL_ring_22 : decode cL_ring 22 = .ok (.ireturn, 1) := by decide +kernel
theorem dL_ring_23 : decode cL_ring 23 = .ok (.iconst 0, 1) := by decide +kernel
theorem dL_ring_24 : decode cL_ring 24 = .ok (.ireturn, 1) := by decide +kernel
theorem dL_tell_0 : decode cL_tell 0 = .ok (.aload_n 3, 1) := by decide +kernel
theorem dL_tell_1 : decode cL_tell 1 = .ok (.iconst 0, 1) := by decide +kernel
theorem dL_tell_2 : decode cL_tell 2 = .ok (.aload_n 0, 1) := by decide +kernel
theorem dL_tell_3 : decode cL_tell 3 = .ok (.iload_n 1, 1) := by decide +kernel
theorem dL_tell_4 : decode cL_tell 4 = .ok (.iload_n 2, 1) := by decide +kernel
theorem dL_tell_5 : decode cL_tell 5 = .ok (.invokevirtual 24, 3) := by decide +kernel
theorem dL_tell_8 : decode cL_tell 8 = .ok (.i2l, 1) := by decide +kernel
theorem dL_tell_9 : decode cL_tell 9 = .ok (.lastore, 1) := by decide +kernel
theorem dL_tell_10 : decode cL_tell 10 = .ok (.goto 11, 3) := by decide +kernel
theorem dL_tell_13 : decode cL_tell 13 = .ok (.astore 4, 2) := by decide +kernel
theorem dL_tell_15 : decode cL_tell 15 = .ok (.iconst 1, 1) := by decide +kernel
theorem dL_tell_16 : decode cL_tell 16 = .ok (.ireturn, 1) := by decide +kernel
theorem dL_tell_17 : decode cL_tell 17 = .ok (.astore 4, 2) := by decide +kernel
theorem dL_tell_19 : decode cL_tell 19 = .ok (.iconst 2, 1) := by decide +kernel
theorem dL_tell_20 : decode cL_tell 20 = .ok (.ireturn, 1) := by decide +kernel
theorem dL_tell_21 : decode cL_tell 21 = .ok (.iconst 0, 1) := by decide +kernel
theorem dL_tell_22 : decode cL_tell 22 = .ok (.ireturn, 1) := by decide +kernel
theorem dL_word_0 : decode cL_word 0 = .ok (.aload_n 2, 1) := by decide +kernel
theorem dL_word_1 : decode cL_word 1 = .ok (.iconst 0, 1) := by decide +kernel
theorem dL_word_2 : decode cL_word 2 = .ok (.aload_n 0, 1) := by decide +kernel
theorem dL_word_3 : decode cL_word 3 = .ok (.iload_n 1, 1) := by decide +kernel
theorem dL_word_4 : decode cL_word 4 = .ok (.invokevirtual 28, 3) := by decide +kernel
theorem dL_word_7 : decode cL_word 7 = .ok (.i2l, 1) := by decide +kernel
theorem dL_word_8 : decode cL_word 8 = .ok (.lastore, 1) := by decide +kernel
theorem dL_word_9 : decode cL_word 9 = .ok (.goto 6, 3) := by decide +kernel
theorem dL_word_12 : decode cL_word 12 = .ok (.astore_n 3, 1) := by decide +kernel
theorem dL_word_13 : decode cL_word 13 = .ok (.iconst 1, 1) := by decide +kernel
theorem dL_word_14 : decode cL_word 14 = .ok (.ireturn, 1) := by decide +kernel
theorem dL_word_15 : decode cL_word 15 = .ok (.iconst 0, 1) := by decide +kernel
theorem dL_word_16 : decode cL_word 16 = .ok (.ireturn, 1) := by decide +kernel
theorem dL_as_0 : decode cL_as 0 = .ok (.aload_n 3, 1) := by decide +kernel
theorem dL_as_1 : decode cL_as 1 = .ok (.iconst 0, 1) := by decide +kernel
theorem dL_as_2 : decode cL_as 2 = .ok (.aload_n 0, 1) := by decide +kernel
theorem dL_as_3 : decode cL_as 3 = .ok (.iload_n 1, 1) := by decide +kernel
theorem dL_as_4 : decode cL_as 4 = .ok (.iload_n 2, 1) := by decide +kernel
theorem dL_as_5 : decode cL_as 5 = .ok (.invokevirtual 32, 3) := by decide +kernel
theorem dL_as_8 : decode cL_as 8 = .ok (.i2l, 1) := by decide +kernel
theorem dL_as_9 : decode cL_as 9 = .ok (.lastore, 1) := by decide +kernel
theorem dL_as_10 : decode cL_as 10 = .ok (.goto 7, 3) := by decide +kernel
theorem dL_as_13 : decode cL_as 13 = .ok (.astore 4, 2) := by decide +kernel
theorem dL_as_15 : decode cL_as 15 = .ok (.iconst 1, 1) := by decide +kernel
theorem dL_as_16 : decode cL_as 16 = .ok (.ireturn, 1) := by decide +kernel
theorem dL_as_17 : decode cL_as 17 = .ok (.iconst 0, 1) := by decide +kernel
theorem dL_as_18 : decode cL_as 18 = .ok (.ireturn, 1) := by decide +kernel
theorem dL_led_0 : decode cL_led 0 = .ok (.aload_n 3, 1) := by decide +kernel
theorem dL_led_1 : decode cL_led 1 = .ok (.iconst 0, 1) := by decide +kernel
theorem dL_led_2 : decode cL_led 2 = .ok (.aload_n 0, 1) := by decide +kernel
theorem dL_led_3 : decode cL_led 3 = .ok (.iload_n 1, 1) := by decide +kernel
theorem dL_led_4 : decode cL_led 4 = .ok (.iload_n 2, 1) := by decide +kernel
theorem dL_led_5 : decode cL_led 5 = .ok (.invokevirtual 35, 3) := by decide +kernel
theorem dL_led_8 : decode cL_led 8 = .ok (.i2l, 1) := by decide +kernel
theorem dL_led_9 : decode cL_led 9 = .ok (.lastore, 1) := by decide +kernel
theorem dL_led_10 : decode cL_led 10 = .ok (.goto 7, 3) := by decide +kernel
theorem dL_led_13 : decode cL_led 13 = .ok (.astore 4, 2) := by decide +kernel
theorem dL_led_15 : decode cL_led 15 = .ok (.iconst 1, 1) := by decide +kernel
theorem dL_led_16 : decode cL_led 16 = .ok (.ireturn, 1) := by decide +kernel
theorem dL_led_17 : decode cL_led 17 = .ok (.iconst 0, 1) := by decide +kernel
theorem dL_led_18 : decode cL_led 18 = .ok (.ireturn, 1) := by decide +kernel
theorem dL_job_0 : decode cL_job 0 = .ok (.aload 6, 2) := by decide +kernel
theorem dL_job_2 : decode cL_job 2 = .ok (.iconst 0, 1) := by decide +kernel
theorem dL_job_3 : decode cL_job 3 = .ok (.aload_n 0, 1) := by decide +kernel
theorem dL_job_4 : decode cL_job 4 = .ok (.iload_n 1, 1) := by decide +kernel
theorem dL_job_5 : decode cL_job 5 = .ok (.iload_n 2, 1) := by decide +kernel
theorem dL_job_6 : decode cL_job 6 = .ok (.iload_n 3, 1) := by decide +kernel
theorem dL_job_7 : decode cL_job 7 = .ok (.iload 4, 2) := by decide +kernel
theorem dL_job_9 : decode cL_job 9 = .ok (.iload 5, 2) := by decide +kernel
theorem dL_job_11 : decode cL_job 11 = .ok (.invokevirtual 38, 3) := by decide +kernel
theorem dL_job_14 : decode cL_job 14 = .ok (.i2l, 1) := by decide +kernel
theorem dL_job_15 : decode cL_job 15 = .ok (.lastore, 1) := by decide +kernel
theorem dL_job_16 : decode cL_job 16 = .ok (.goto 11, 3) := by decide +kernel
theorem dL_job_19 : decode cL_job 19 = .ok (.astore 7, 2) := by decide +kernel
theorem dL_job_21 : decode cL_job 21 = .ok (.iconst 1, 1) := by decide +kernel
theorem dL_job_22 : decode cL_job 22 = .ok (.ireturn, 1) := by decide +kernel
theorem dL_job_23 : decode cL_job 23 = .ok (.astore 7, 2) := by decide +kernel
theorem dL_job_25 : decode cL_job 25 = .ok (.iconst 2, 1) := by decide +kernel
theorem dL_job_26 : decode cL_job 26 = .ok (.ireturn, 1) := by decide +kernel
theorem dL_job_27 : decode cL_job 27 = .ok (.iconst 0, 1) := by decide +kernel
theorem dL_job_28 : decode cL_job 28 = .ok (.ireturn, 1) := by decide +kernel
theorem dL_shorter_0 : decode cL_shorter 0 = .ok (.aload_n 0, 1) := by decide +kernel
theorem dL_shorter_1 : decode cL_shorter 1 = .ok (.iload_n 1, 1) := by decide +kernel
theorem dL_shorter_2 : decode cL_shorter 2 = .ok (.iload_n 2, 1) := by decide +kernel
theorem dL_shorter_3 : decode cL_shorter 3 = .ok (.iload_n 3, 1) := by decide +kernel
theorem dL_shorter_4 : decode cL_shorter 4 = .ok (.iload 4, 2) := by decide +kernel
theorem dL_shorter_6 : decode cL_shorter 6 = .ok (.invokevirtual 44, 3) := by decide +kernel
theorem dL_shorter_9 : decode cL_shorter 9 = .ok (.goto 11, 3) := by decide +kernel
theorem dL_shorter_12 : decode cL_shorter 12 = .ok (.astore 5, 2) := by decide +kernel
theorem dL_shorter_14 : decode cL_shorter 14 = .ok (.iconst 1, 1) := by decide +kernel
theorem dL_shorter_15 : decode cL_shorter 15 = .ok (.ireturn, 1) := by decide +kernel
theorem dL_shorter_16 : decode cL_shorter 16 = .ok (.astore 5, 2) := by decide +kernel
theorem dL_shorter_18 : decode cL_shorter 18 = .ok (.iconst 2, 1) := by decide +kernel
theorem dL_shorter_19 : decode cL_shorter 19 = .ok (.ireturn, 1) := by decide +kernel
theorem dL_shorter_20 : decode cL_shorter 20 = .ok (.iconst 0, 1) := by decide +kernel
theorem dL_shorter_21 : decode cL_shorter 21 = .ok (.ireturn, 1) := by decide +kernel
theorem dL_words_0 : decode cL_words 0 = .ok (.aload_n 3, 1) := by decide +kernel
theorem dL_words_1 : decode cL_words 1 = .ok (.iconst 0, 1) := by decide +kernel
theorem dL_words_2 : decode cL_words 2 = .ok (.aload_n 0, 1) := by decide +kernel
theorem dL_words_3 : decode cL_words 3 = .ok (.iload_n 1, 1) := by decide +kernel
theorem dL_words_4 : decode cL_words 4 = .ok (.iload_n 2, 1) := by decide +kernel
theorem dL_words_5 : decode cL_words 5 = .ok (.invokevirtual 48, 3) := by decide +kernel
theorem dL_words_8 : decode cL_words 8 = .ok (.lastore, 1) := by decide +kernel
theorem dL_words_9 : decode cL_words 9 = .ok (.goto 7, 3) := by decide +kernel
theorem dL_words_12 : decode cL_words 12 = .ok (.astore 4, 2) := by decide +kernel
theorem dL_words_14 : decode cL_words 14 = .ok (.iconst 1, 1) := by decide +kernel
theorem dL_words_15 : decode cL_words 15 = .ok (.ireturn, 1) := by decide +kernel
theorem dL_words_16 : decode cL_words 16 = .ok (.iconst 0, 1) := by decide +kernel
theorem dL_words_17 : decode cL_words 17 = .ok (.ireturn, 1) := by decide +kernel
theorem dL_leans_0 : decode cL_leans 0 = .ok (.aload_n 2, 1) := by decide +kernel
theorem dL_leans_1 : decode cL_leans 1 = .ok (.iconst 0, 1) := by decide +kernel
theorem dL_leans_2 : decode cL_leans 2 = .ok (.aload_n 0, 1) := by decide +kernel
theorem dL_leans_3 : decode cL_leans 3 = .ok (.iload_n 1, 1) := by decide +kernel
theorem dL_leans_4 : decode cL_leans 4 = .ok (.invokevirtual 52, 3) := by decide +kernel
theorem dL_leans_7 : decode cL_leans 7 = .ok (.i2l, 1) := by decide +kernel
theorem dL_leans_8 : decode cL_leans 8 = .ok (.lastore, 1) := by decide +kernel
theorem dL_leans_9 : decode cL_leans 9 = .ok (.goto 6, 3) := by decide +kernel
theorem dL_leans_12 : decode cL_leans 12 = .ok (.astore_n 3, 1) := by decide +kernel
theorem dL_leans_13 : decode cL_leans 13 = .ok (.iconst 1, 1) := by decide +kernel
theorem dL_leans_14 : decode cL_leans 14 = .ok (.ireturn, 1) := by decide +kernel
theorem dL_leans_15 : decode cL_leans 15 = .ok (.iconst 0, 1) := by decide +kernel
theorem dL_leans_16 : decode cL_leans 16 = .ok (.ireturn, 1) := by decide +kernel
theorem dL_way_0 : decode cL_way 0 = .ok (.aload_n 3, 1) := by decide +kernel
theorem dL_way_1 : decode cL_way 1 = .ok (.iconst 0, 1) := by decide +kernel
theorem dL_way_2 : decode cL_way 2 = .ok (.aload_n 0, 1) := by decide +kernel
theorem dL_way_3 : decode cL_way 3 = .ok (.iload_n 1, 1) := by decide +kernel
theorem dL_way_4 : decode cL_way 4 = .ok (.iload_n 2, 1) := by decide +kernel
theorem dL_way_5 : decode cL_way 5 = .ok (.invokevirtual 55, 3) := by decide +kernel
theorem dL_way_8 : decode cL_way 8 = .ok (.ifCond .eq 7, 3) := by decide +kernel
theorem dL_way_11 : decode cL_way 11 = .ok (.lconst 1, 1) := by decide +kernel
theorem dL_way_12 : decode cL_way 12 = .ok (.goto 4, 3) := by decide +kernel
theorem dL_way_15 : decode cL_way 15 = .ok (.lconst 0, 1) := by decide +kernel
theorem dL_way_16 : decode cL_way 16 = .ok (.lastore, 1) := by decide +kernel
theorem dL_way_17 : decode cL_way 17 = .ok (.goto 11, 3) := by decide +kernel
theorem dL_way_20 : decode cL_way 20 = .ok (.astore 4, 2) := by decide +kernel
theorem dL_way_22 : decode cL_way 22 = .ok (.iconst 1, 1) := by decide +kernel
theorem dL_way_23 : decode cL_way 23 = .ok (.ireturn, 1) := by decide +kernel
theorem dL_way_24 : decode cL_way 24 = .ok (.astore 4, 2) := by decide +kernel
theorem dL_way_26 : decode cL_way 26 = .ok (.iconst 2, 1) := by decide +kernel
theorem dL_way_27 : decode cL_way 27 = .ok (.ireturn, 1) := by decide +kernel
theorem dL_way_28 : decode cL_way 28 = .ok (.iconst 0, 1) := by decide +kernel
theorem dL_way_29 : decode cL_way 29 = .ok (.ireturn, 1) := by decide +kernel
theorem dL_drop_0 : decode cL_drop 0 = .ok (.aload_n 2, 1) := by decide +kernel
theorem dL_drop_1 : decode cL_drop 1 = .ok (.iconst 0, 1) := by decide +kernel
theorem dL_drop_2 : decode cL_drop 2 = .ok (.aload_n 0, 1) := by decide +kernel
theorem dL_drop_3 : decode cL_drop 3 = .ok (.iload_n 1, 1) := by decide +kernel
theorem dL_drop_4 : decode cL_drop 4 = .ok (.invokevirtual 59, 3) := by decide +kernel
theorem dL_drop_7 : decode cL_drop 7 = .ok (.ifCond .eq 7, 3) := by decide +kernel
theorem dL_drop_10 : decode cL_drop 10 = .ok (.lconst 1, 1) := by decide +kernel
theorem dL_drop_11 : decode cL_drop 11 = .ok (.goto 4, 3) := by decide +kernel
theorem dL_drop_14 : decode cL_drop 14 = .ok (.lconst 0, 1) := by decide +kernel
theorem dL_drop_15 : decode cL_drop 15 = .ok (.lastore, 1) := by decide +kernel
theorem dL_drop_16 : decode cL_drop 16 = .ok (.goto 6, 3) := by decide +kernel
theorem dL_drop_19 : decode cL_drop 19 = .ok (.astore_n 3, 1) := by decide +kernel
theorem dL_drop_20 : decode cL_drop 20 = .ok (.iconst 1, 1) := by decide +kernel
theorem dL_drop_21 : decode cL_drop 21 = .ok (.ireturn, 1) := by decide +kernel
theorem dL_drop_22 : decode cL_drop 22 = .ok (.iconst 0, 1) := by decide +kernel
theorem dL_drop_23 : decode cL_drop 23 = .ok (.ireturn, 1) := by decide +kernel
theorem dL_again_0 : decode cL_again 0 = .ok (.aload_n 2, 1) := by decide +kernel
theorem dL_again_1 : decode cL_again 1 = .ok (.iconst 0, 1) := by decide +kernel
theorem dL_again_2 : decode cL_again 2 = .ok (.aload_n 0, 1) := by decide +kernel
theorem dL_again_3 : decode cL_again 3 = .ok (.iload_n 1, 1) := by decide +kernel
theorem dL_again_4 : decode cL_again 4 = .ok (.invokevirtual 63, 3) := by decide +kernel
theorem dL_again_7 : decode cL_again 7 = .ok (.ifCond .eq 7, 3) := by decide +kernel
theorem dL_again_10 : decode cL_again 10 = .ok (.lconst 1, 1) := by decide +kernel
theorem dL_again_11 : decode cL_again 11 = .ok (.goto 4, 3) := by decide +kernel
theorem dL_again_14 : decode cL_again 14 = .ok (.lconst 0, 1) := by decide +kernel
theorem dL_again_15 : decode cL_again 15 = .ok (.lastore, 1) := by decide +kernel
theorem dL_again_16 : decode cL_again 16 = .ok (.goto 6, 3) := by decide +kernel
theorem dL_again_19 : decode cL_again 19 = .ok (.astore_n 3, 1) := by decide +kernel
theorem dL_again_20 : decode cL_again 20 = .ok (.iconst 1, 1) := by decide +kernel
theorem dL_again_21 : decode cL_again 21 = .ok (.ireturn, 1) := by decide +kernel
theorem dL_again_22 : decode cL_again 22 = .ok (.iconst 0, 1) := by decide +kernel
theorem dL_again_23 : decode cL_again 23 = .ok (.ireturn, 1) := by decide +kernel
theorem dL_out_0 : decode cL_out 0 = .ok (.aload_n 2, 1) := by decide +kernel
theorem dL_out_1 : decode cL_out 1 = .ok (.iconst 0, 1) := by decide +kernel
theorem dL_out_2 : decode cL_out 2 = .ok (.aload_n 0, 1) := by decide +kernel
theorem dL_out_3 : decode cL_out 3 = .ok (.iload_n 1, 1) := by decide +kernel
theorem dL_out_4 : decode cL_out 4 = .ok (.invokevirtual 66, 3) := by decide +kernel
theorem dL_out_7 : decode cL_out 7 = .ok (.i2l, 1) := by decide +kernel
theorem dL_out_8 : decode cL_out 8 = .ok (.lastore, 1) := by decide +kernel
theorem dL_out_9 : decode cL_out 9 = .ok (.goto 9, 3) := by decide +kernel
theorem dL_out_12 : decode cL_out 12 = .ok (.astore_n 3, 1) := by decide +kernel
theorem dL_out_13 : decode cL_out 13 = .ok (.iconst 1, 1) := by decide +kernel
theorem dL_out_14 : decode cL_out 14 = .ok (.ireturn, 1) := by decide +kernel
theorem dL_out_15 : decode cL_out 15 = .ok (.astore_n 3, 1) := by decide +kernel
theorem dL_out_16 : decode cL_out 16 = .ok (.iconst 2, 1) := by decide +kernel
theorem dL_out_17 : decode cL_out 17 = .ok (.ireturn, 1) := by decide +kernel
theorem dL_out_18 : decode cL_out 18 = .ok (.iconst 0, 1) := by decide +kernel
theorem dL_out_19 : decode cL_out 19 = .ok (.ireturn, 1) := by decide +kernel
theorem dL_minutes_0 : decode cL_minutes 0 = .ok (.aload_n 2, 1) := by decide +kernel
theorem dL_minutes_1 : decode cL_minutes 1 = .ok (.iconst 0, 1) := by decide +kernel
theorem dL_minutes_2 : decode cL_minutes 2 = .ok (.aload_n 0, 1) := by decide +kernel
theorem dL_minutes_3 : decode cL_minutes 3 = .ok (.iload_n 1, 1) := by decide +kernel
theorem dL_minutes_4 : decode cL_minutes 4 = .ok (.invokevirtual 71, 3) := by decide +kernel
theorem dL_minutes_7 : decode cL_minutes 7 = .ok (.i2l, 1) := by decide +kernel
theorem dL_minutes_8 : decode cL_minutes 8 = .ok (.lastore, 1) := by decide +kernel
theorem dL_minutes_9 : decode cL_minutes 9 = .ok (.goto 6, 3) := by decide +kernel
theorem dL_minutes_12 : decode cL_minutes 12 = .ok (.astore_n 3, 1) := by decide +kernel
theorem dL_minutes_13 : decode cL_minutes 13 = .ok (.iconst 1, 1) := by decide +kernel
theorem dL_minutes_14 : decode cL_minutes 14 = .ok (.ireturn, 1) := by decide +kernel
theorem dL_minutes_15 : decode cL_minutes 15 = .ok (.iconst 0, 1) := by decide +kernel
theorem dL_minutes_16 : decode cL_minutes 16 = .ok (.ireturn, 1) := by decide +kernel
theorem dL_look_0 : decode cL_look 0 = .ok (.aload_n 3, 1) := by decide +kernel
theorem dL_look_1 : decode cL_look 1 = .ok (.iconst 0, 1) := by decide +kernel
theorem dL_look_2 : decode cL_look 2 = .ok (.aload_n 0, 1) := by decide +kernel
theorem dL_look_3 : decode cL_look 3 = .ok (.iload_n 1, 1) := by decide +kernel
theorem dL_look_4 : decode cL_look 4 = .ok (.iload_n 2, 1) := by decide +kernel
theorem dL_look_5 : decode cL_look 5 = .ok (.invokevirtual 74, 3) := by decide +kernel
theorem dL_look_8 : decode cL_look 8 = .ok (.i2l, 1) := by decide +kernel
theorem dL_look_9 : decode cL_look 9 = .ok (.lastore, 1) := by decide +kernel
theorem dL_look_10 : decode cL_look 10 = .ok (.goto 11, 3) := by decide +kernel
theorem dL_look_13 : decode cL_look 13 = .ok (.astore 4, 2) := by decide +kernel
theorem dL_look_15 : decode cL_look 15 = .ok (.iconst 1, 1) := by decide +kernel
theorem dL_look_16 : decode cL_look 16 = .ok (.ireturn, 1) := by decide +kernel
theorem dL_look_17 : decode cL_look 17 = .ok (.astore 4, 2) := by decide +kernel
theorem dL_look_19 : decode cL_look 19 = .ok (.iconst 2, 1) := by decide +kernel
theorem dL_look_20 : decode cL_look 20 = .ok (.ireturn, 1) := by decide +kernel
theorem dL_look_21 : decode cL_look 21 = .ok (.iconst 0, 1) := by decide +kernel
theorem dL_look_22 : decode cL_look 22 = .ok (.ireturn, 1) := by decide +kernel
theorem dL_lamp_0 : decode cL_lamp 0 = .ok (.aload 4, 2) := by decide +kernel
theorem dL_lamp_2 : decode cL_lamp 2 = .ok (.iconst 0, 1) := by decide +kernel
theorem dL_lamp_3 : decode cL_lamp 3 = .ok (.aload_n 0, 1) := by decide +kernel
theorem dL_lamp_4 : decode cL_lamp 4 = .ok (.iload_n 1, 1) := by decide +kernel
theorem dL_lamp_5 : decode cL_lamp 5 = .ok (.iload_n 2, 1) := by decide +kernel
theorem dL_lamp_6 : decode cL_lamp 6 = .ok (.iload_n 3, 1) := by decide +kernel
theorem dL_lamp_7 : decode cL_lamp 7 = .ok (.invokevirtual 79, 3) := by decide +kernel
theorem dL_lamp_10 : decode cL_lamp 10 = .ok (.ifCond .eq 7, 3) := by decide +kernel
theorem dL_lamp_13 : decode cL_lamp 13 = .ok (.lconst 1, 1) := by decide +kernel
theorem dL_lamp_14 : decode cL_lamp 14 = .ok (.goto 4, 3) := by decide +kernel
theorem dL_lamp_17 : decode cL_lamp 17 = .ok (.lconst 0, 1) := by decide +kernel
theorem dL_lamp_18 : decode cL_lamp 18 = .ok (.lastore, 1) := by decide +kernel
theorem dL_lamp_19 : decode cL_lamp 19 = .ok (.goto 11, 3) := by decide +kernel
theorem dL_lamp_22 : decode cL_lamp 22 = .ok (.astore 5, 2) := by decide +kernel
theorem dL_lamp_24 : decode cL_lamp 24 = .ok (.iconst 1, 1) := by decide +kernel
theorem dL_lamp_25 : decode cL_lamp 25 = .ok (.ireturn, 1) := by decide +kernel
theorem dL_lamp_26 : decode cL_lamp 26 = .ok (.astore 5, 2) := by decide +kernel
theorem dL_lamp_28 : decode cL_lamp 28 = .ok (.iconst 2, 1) := by decide +kernel
theorem dL_lamp_29 : decode cL_lamp 29 = .ok (.ireturn, 1) := by decide +kernel
theorem dL_lamp_30 : decode cL_lamp 30 = .ok (.iconst 0, 1) := by decide +kernel
theorem dL_lamp_31 : decode cL_lamp 31 = .ok (.ireturn, 1) := by decide +kernel
theorem dL_test_0 : decode cL_test 0 = .ok (.aload_n 3, 1) := by decide +kernel
theorem dL_test_1 : decode cL_test 1 = .ok (.iconst 0, 1) := by decide +kernel
theorem dL_test_2 : decode cL_test 2 = .ok (.aload_n 0, 1) := by decide +kernel
theorem dL_test_3 : decode cL_test 3 = .ok (.iload_n 1, 1) := by decide +kernel
theorem dL_test_4 : decode cL_test 4 = .ok (.iload_n 2, 1) := by decide +kernel
theorem dL_test_5 : decode cL_test 5 = .ok (.invokevirtual 83, 3) := by decide +kernel
theorem dL_test_8 : decode cL_test 8 = .ok (.i2l, 1) := by decide +kernel
theorem dL_test_9 : decode cL_test 9 = .ok (.lastore, 1) := by decide +kernel
theorem dL_test_10 : decode cL_test 10 = .ok (.goto 11, 3) := by decide +kernel
theorem dL_test_13 : decode cL_test 13 = .ok (.astore 4, 2) := by decide +kernel
theorem dL_test_15 : decode cL_test 15 = .ok (.iconst 1, 1) := by decide +kernel
theorem dL_test_16 : decode cL_test 16 = .ok (.ireturn, 1) := by decide +kernel
theorem dL_test_17 : decode cL_test 17 = .ok (.astore 4, 2) := by decide +kernel
theorem dL_test_19 : decode cL_test 19 = .ok (.iconst 2, 1) := by decide +kernel
theorem dL_test_20 : decode cL_test 20 = .ok (.ireturn, 1) := by decide +kernel
theorem dL_test_21 : decode cL_test 21 = .ok (.iconst 0, 1) := by decide +kernel
theorem dL_test_22 : decode cL_test 22 = .ok (.ireturn, 1) := by decide +kernel
theorem dL_doubt_0 : decode cL_doubt 0 = .ok (.aload_n 3, 1) := by decide +kernel
theorem dL_doubt_1 : decode cL_doubt 1 = .ok (.iconst 0, 1) := by decide +kernel
theorem dL_doubt_2 : decode cL_doubt 2 = .ok (.aload_n 0, 1) := by decide +kernel
theorem dL_doubt_3 : decode cL_doubt 3 = .ok (.iload_n 1, 1) := by decide +kernel
theorem dL_doubt_4 : decode cL_doubt 4 = .ok (.iload_n 2, 1) := by decide +kernel
theorem dL_doubt_5 : decode cL_doubt 5 = .ok (.invokevirtual 86, 3) := by decide +kernel
theorem dL_doubt_8 : decode cL_doubt 8 = .ok (.ifCond .eq 7, 3) := by decide +kernel
theorem dL_doubt_11 : decode cL_doubt 11 = .ok (.lconst 1, 1) := by decide +kernel
theorem dL_doubt_12 : decode cL_doubt 12 = .ok (.goto 4, 3) := by decide +kernel
theorem dL_doubt_15 : decode cL_doubt 15 = .ok (.lconst 0, 1) := by decide +kernel
theorem dL_doubt_16 : decode cL_doubt 16 = .ok (.lastore, 1) := by decide +kernel
theorem dL_doubt_17 : decode cL_doubt 17 = .ok (.goto 11, 3) := by decide +kernel
theorem dL_doubt_20 : decode cL_doubt 20 = .ok (.astore 4, 2) := by decide +kernel
theorem dL_doubt_22 : decode cL_doubt 22 = .ok (.iconst 1, 1) := by decide +kernel
theorem dL_doubt_23 : decode cL_doubt 23 = .ok (.ireturn, 1) := by decide +kernel
theorem dL_doubt_24 : decode cL_doubt 24 = .ok (.astore 4, 2) := by decide +kernel
theorem dL_doubt_26 : decode cL_doubt 26 = .ok (.iconst 2, 1) := by decide +kernel
theorem dL_doubt_27 : decode cL_doubt 27 = .ok (.ireturn, 1) := by decide +kernel
theorem dL_doubt_28 : decode cL_doubt 28 = .ok (.iconst 0, 1) := by decide +kernel
theorem dL_doubt_29 : decode cL_doubt 29 = .ok (.ireturn, 1) := by decide +kernel
theorem dL_wanted_0 : decode cL_wanted 0 = .ok (.aload 6, 2) := by decide +kernel
theorem dL_wanted_2 : decode cL_wanted 2 = .ok (.iconst 0, 1) := by decide +kernel
theorem dL_wanted_3 : decode cL_wanted 3 = .ok (.aload_n 0, 1) := by decide +kernel
theorem dL_wanted_4 : decode cL_wanted 4 = .ok (.iload_n 1, 1) := by decide +kernel
theorem dL_wanted_5 : decode cL_wanted 5 = .ok (.iload_n 2, 1) := by decide +kernel
theorem dL_wanted_6 : decode cL_wanted 6 = .ok (.iload_n 3, 1) := by decide +kernel
theorem dL_wanted_7 : decode cL_wanted 7 = .ok (.iload 4, 2) := by decide +kernel
theorem dL_wanted_9 : decode cL_wanted 9 = .ok (.iload 5, 2) := by decide +kernel
theorem dL_wanted_11 : decode cL_wanted 11 = .ok (.invokevirtual 89, 3) := by decide +kernel
theorem dL_wanted_14 : decode cL_wanted 14 = .ok (.i2l, 1) := by decide +kernel
theorem dL_wanted_15 : decode cL_wanted 15 = .ok (.lastore, 1) := by decide +kernel
theorem dL_wanted_16 : decode cL_wanted 16 = .ok (.goto 11, 3) := by decide +kernel
theorem dL_wanted_19 : decode cL_wanted 19 = .ok (.astore 7, 2) := by decide +kernel
theorem dL_wanted_21 : decode cL_wanted 21 = .ok (.iconst 1, 1) := by decide +kernel
theorem dL_wanted_22 : decode cL_wanted 22 = .ok (.ireturn, 1) := by decide +kernel
theorem dL_wanted_23 : decode cL_wanted 23 = .ok (.astore 7, 2) := by decide +kernel
theorem dL_wanted_25 : decode cL_wanted 25 = .ok (.iconst 2, 1) := by decide +kernel
theorem dL_wanted_26 : decode cL_wanted 26 = .ok (.ireturn, 1) := by decide +kernel
theorem dL_wanted_27 : decode cL_wanted 27 = .ok (.iconst 0, 1) := by decide +kernel
theorem dL_wanted_28 : decode cL_wanted 28 = .ok (.ireturn, 1) := by decide +kernel
theorem dL_foretell_0 : decode cL_foretell 0 = .ok (.aload 4, 2) := by decide +kernel
theorem dL_foretell_2 : decode cL_foretell 2 = .ok (.iconst 0, 1) := by decide +kernel
theorem dL_foretell_3 : decode cL_foretell 3 = .ok (.aload_n 0, 1) := by decide +kernel
theorem dL_foretell_4 : decode cL_foretell 4 = .ok (.iload_n 1, 1) := by decide +kernel
theorem dL_foretell_5 : decode cL_foretell 5 = .ok (.iload_n 2, 1) := by decide +kernel
theorem dL_foretell_6 : decode cL_foretell 6 = .ok (.iload_n 3, 1) := by decide +kernel
theorem dL_foretell_7 : decode cL_foretell 7 = .ok (.invokevirtual 93, 3) := by decide +kernel
theorem dL_foretell_10 : decode cL_foretell 10 = .ok (.i2l, 1) := by decide +kernel
theorem dL_foretell_11 : decode cL_foretell 11 = .ok (.lastore, 1) := by decide +kernel
theorem dL_foretell_12 : decode cL_foretell 12 = .ok (.goto 11, 3) := by decide +kernel
theorem dL_foretell_15 : decode cL_foretell 15 = .ok (.astore 5, 2) := by decide +kernel
theorem dL_foretell_17 : decode cL_foretell 17 = .ok (.iconst 1, 1) := by decide +kernel
theorem dL_foretell_18 : decode cL_foretell 18 = .ok (.ireturn, 1) := by decide +kernel
theorem dL_foretell_19 : decode cL_foretell 19 = .ok (.astore 5, 2) := by decide +kernel
theorem dL_foretell_21 : decode cL_foretell 21 = .ok (.iconst 2, 1) := by decide +kernel
theorem dL_foretell_22 : decode cL_foretell 22 = .ok (.ireturn, 1) := by decide +kernel
theorem dL_foretell_23 : decode cL_foretell 23 = .ok (.iconst 0, 1) := by decide +kernel
theorem dL_foretell_24 : decode cL_foretell 24 = .ok (.ireturn, 1) := by decide +kernel
theorem dL_far_0 : decode cL_far 0 = .ok (.aload_n 3, 1) := by decide +kernel
theorem dL_far_1 : decode cL_far 1 = .ok (.iconst 0, 1) := by decide +kernel
theorem dL_far_2 : decode cL_far 2 = .ok (.aload_n 0, 1) := by decide +kernel
theorem dL_far_3 : decode cL_far 3 = .ok (.iload_n 1, 1) := by decide +kernel
theorem dL_far_4 : decode cL_far 4 = .ok (.iload_n 2, 1) := by decide +kernel
theorem dL_far_5 : decode cL_far 5 = .ok (.invokevirtual 96, 3) := by decide +kernel
theorem dL_far_8 : decode cL_far 8 = .ok (.ifCond .eq 7, 3) := by decide +kernel
theorem dL_far_11 : decode cL_far 11 = .ok (.lconst 1, 1) := by decide +kernel
theorem dL_far_12 : decode cL_far 12 = .ok (.goto 4, 3) := by decide +kernel
theorem dL_far_15 : decode cL_far 15 = .ok (.lconst 0, 1) := by decide +kernel
theorem dL_far_16 : decode cL_far 16 = .ok (.lastore, 1) := by decide +kernel
theorem dL_far_17 : decode cL_far 17 = .ok (.goto 7, 3) := by decide +kernel
theorem dL_far_20 : decode cL_far 20 = .ok (.astore 4, 2) := by decide +kernel
theorem dL_far_22 : decode cL_far 22 = .ok (.iconst 1, 1) := by decide +kernel
theorem dL_far_23 : decode cL_far 23 = .ok (.ireturn, 1) := by decide +kernel
theorem dL_far_24 : decode cL_far 24 = .ok (.iconst 0, 1) := by decide +kernel
theorem dL_far_25 : decode cL_far 25 = .ok (.ireturn, 1) := by decide +kernel
theorem dL_good_0 : decode cL_good 0 = .ok (.aload_n 0, 1) := by decide +kernel
theorem dL_good_1 : decode cL_good 1 = .ok (.iload_n 1, 1) := by decide +kernel
theorem dL_good_2 : decode cL_good 2 = .ok (.iload_n 2, 1) := by decide +kernel
theorem dL_good_3 : decode cL_good 3 = .ok (.iload_n 3, 1) := by decide +kernel
theorem dL_good_4 : decode cL_good 4 = .ok (.iload 4, 2) := by decide +kernel
theorem dL_good_6 : decode cL_good 6 = .ok (.iload 5, 2) := by decide +kernel
theorem dL_good_8 : decode cL_good 8 = .ok (.invokevirtual 99, 3) := by decide +kernel
theorem dL_good_11 : decode cL_good 11 = .ok (.goto 11, 3) := by decide +kernel
theorem dL_good_14 : decode cL_good 14 = .ok (.astore 6, 2) := by decide +kernel
theorem dL_good_16 : decode cL_good 16 = .ok (.iconst 1, 1) := by decide +kernel
theorem dL_good_17 : decode cL_good 17 = .ok (.ireturn, 1) := by decide +kernel
theorem dL_good_18 : decode cL_good 18 = .ok (.astore 6, 2) := by decide +kernel
theorem dL_good_20 : decode cL_good 20 = .ok (.iconst 2, 1) := by decide +kernel
theorem dL_good_21 : decode cL_good 21 = .ok (.ireturn, 1) := by decide +kernel
theorem dL_good_22 : decode cL_good 22 = .ok (.iconst 0, 1) := by decide +kernel
theorem dL_good_23 : decode cL_good 23 = .ok (.ireturn, 1) := by decide +kernel
theorem dL_fleet_0 : decode cL_fleet 0 = .ok (.aload_n 0, 1) := by decide +kernel
theorem dL_fleet_1 : decode cL_fleet 1 = .ok (.iload_n 1, 1) := by decide +kernel
theorem dL_fleet_2 : decode cL_fleet 2 = .ok (.iload_n 2, 1) := by decide +kernel
theorem dL_fleet_3 : decode cL_fleet 3 = .ok (.iload_n 3, 1) := by decide +kernel
theorem dL_fleet_4 : decode cL_fleet 4 = .ok (.iload 4, 2) := by decide +kernel
theorem dL_fleet_6 : decode cL_fleet 6 = .ok (.iload 5, 2) := by decide +kernel
theorem dL_fleet_8 : decode cL_fleet 8 = .ok (.invokevirtual 103, 3) := by decide +kernel
theorem dL_fleet_11 : decode cL_fleet 11 = .ok (.goto 7, 3) := by decide +kernel
theorem dL_fleet_14 : decode cL_fleet 14 = .ok (.astore 6, 2) := by decide +kernel
theorem dL_fleet_16 : decode cL_fleet 16 = .ok (.iconst 1, 1) := by decide +kernel
theorem dL_fleet_17 : decode cL_fleet 17 = .ok (.ireturn, 1) := by decide +kernel
theorem dL_fleet_18 : decode cL_fleet 18 = .ok (.iconst 0, 1) := by decide +kernel
theorem dL_fleet_19 : decode cL_fleet 19 = .ok (.ireturn, 1) := by decide +kernel
theorem dL_cost_0 : decode cL_cost 0 = .ok (.aload_n 2, 1) := by decide +kernel
theorem dL_cost_1 : decode cL_cost 1 = .ok (.iconst 0, 1) := by decide +kernel
theorem dL_cost_2 : decode cL_cost 2 = .ok (.aload_n 0, 1) := by decide +kernel
theorem dL_cost_3 : decode cL_cost 3 = .ok (.iload_n 1, 1) := by decide +kernel
theorem dL_cost_4 : decode cL_cost 4 = .ok (.invokevirtual 106, 3) := by decide +kernel
theorem dL_cost_7 : decode cL_cost 7 = .ok (.lastore, 1) := by decide +kernel
theorem dL_cost_8 : decode cL_cost 8 = .ok (.goto 6, 3) := by decide +kernel
theorem dL_cost_11 : decode cL_cost 11 = .ok (.astore_n 3, 1) := by decide +kernel
theorem dL_cost_12 : decode cL_cost 12 = .ok (.iconst 1, 1) := by decide +kernel
theorem dL_cost_13 : decode cL_cost 13 = .ok (.ireturn, 1) := by decide +kernel
theorem dL_cost_14 : decode cL_cost 14 = .ok (.iconst 0, 1) := by decide +kernel
theorem dL_cost_15 : decode cL_cost 15 = .ok (.ireturn, 1) := by decide +kernel
theorem dL_worker_0 : decode cL_worker 0 = .ok (.aload_n 3, 1) := by decide +kernel
theorem dL_worker_1 : decode cL_worker 1 = .ok (.iconst 0, 1) := by decide +kernel
theorem dL_worker_2 : decode cL_worker 2 = .ok (.aload_n 0, 1) := by decide +kernel
theorem dL_worker_3 : decode cL_worker 3 = .ok (.iload_n 1, 1) := by decide +kernel
theorem dL_worker_4 : decode cL_worker 4 = .ok (.iload_n 2, 1) := by decide +kernel
theorem dL_worker_5 : decode cL_worker 5 = .ok (.invokevirtual 110, 3) := by decide +kernel
theorem dL_worker_8 : decode cL_worker 8 = .ok (.i2l, 1) := by decide +kernel
theorem dL_worker_9 : decode cL_worker 9 = .ok (.lastore, 1) := by decide +kernel
theorem dL_worker_10 : decode cL_worker 10 = .ok (.goto 11, 3) := by decide +kernel
theorem dL_worker_13 : decode cL_worker 13 = .ok (.astore 4, 2) := by decide +kernel
theorem dL_worker_15 : decode cL_worker 15 = .ok (.iconst 1, 1) := by decide +kernel
theorem dL_worker_16 : decode cL_worker 16 = .ok (.ireturn, 1) := by decide +kernel
theorem dL_worker_17 : decode cL_worker 17 = .ok (.astore 4, 2) := by decide +kernel
theorem dL_worker_19 : decode cL_worker 19 = .ok (.iconst 2, 1) := by decide +kernel
theorem dL_worker_20 : decode cL_worker 20 = .ok (.ireturn, 1) := by decide +kernel
theorem dL_worker_21 : decode cL_worker 21 = .ok (.iconst 0, 1) := by decide +kernel
theorem dL_worker_22 : decode cL_worker 22 = .ok (.ireturn, 1) := by decide +kernel
theorem dL_alter_0 : decode cL_alter 0 = .ok (.aload 4, 2) := by decide +kernel
theorem dL_alter_2 : decode cL_alter 2 = .ok (.iconst 0, 1) := by decide +kernel
theorem dL_alter_3 : decode cL_alter 3 = .ok (.aload_n 0, 1) := by decide +kernel
theorem dL_alter_4 : decode cL_alter 4 = .ok (.iload_n 1, 1) := by decide +kernel
theorem dL_alter_5 : decode cL_alter 5 = .ok (.iload_n 2, 1) := by decide +kernel
theorem dL_alter_6 : decode cL_alter 6 = .ok (.iload_n 3, 1) := by decide +kernel
theorem dL_alter_7 : decode cL_alter 7 = .ok (.invokevirtual 113, 3) := by decide +kernel
theorem dL_alter_10 : decode cL_alter 10 = .ok (.ifCond .eq 7, 3) := by decide +kernel
theorem dL_alter_13 : decode cL_alter 13 = .ok (.lconst 1, 1) := by decide +kernel
theorem dL_alter_14 : decode cL_alter 14 = .ok (.goto 4, 3) := by decide +kernel
theorem dL_alter_17 : decode cL_alter 17 = .ok (.lconst 0, 1) := by decide +kernel
theorem dL_alter_18 : decode cL_alter 18 = .ok (.lastore, 1) := by decide +kernel
theorem dL_alter_19 : decode cL_alter 19 = .ok (.goto 15, 3) := by decide +kernel
theorem dL_alter_22 : decode cL_alter 22 = .ok (.astore 5, 2) := by decide +kernel
theorem dL_alter_24 : decode cL_alter 24 = .ok (.iconst 1, 1) := by decide +kernel
theorem dL_alter_25 : decode cL_alter 25 = .ok (.ireturn, 1) := by decide +kernel
theorem dL_alter_26 : decode cL_alter 26 = .ok (.astore 5, 2) := by decide +kernel
theorem dL_alter_28 : decode cL_alter 28 = .ok (.iconst 2, 1) := by decide +kernel
theorem dL_alter_29 : decode cL_alter 29 = .ok (.ireturn, 1) := by decide +kernel
theorem dL_alter_30 : decode cL_alter 30 = .ok (.astore 5, 2) := by decide +kernel
theorem dL_alter_32 : decode cL_alter 32 = .ok (.iconst 3, 1) := by decide +kernel
theorem dL_alter_33 : decode cL_alter 33 = .ok (.ireturn, 1) := by decide +kernel
theorem dL_alter_34 : decode cL_alter 34 = .ok (.iconst 0, 1) := by decide +kernel
theorem dL_alter_35 : decode cL_alter 35 = .ok (.ireturn, 1) := by decide +kernel
theorem dL_pay_0 : decode cL_pay 0 = .ok (.aload_n 3, 1) := by decide +kernel
theorem dL_pay_1 : decode cL_pay 1 = .ok (.iconst 0, 1) := by decide +kernel
theorem dL_pay_2 : decode cL_pay 2 = .ok (.aload_n 0, 1) := by decide +kernel
theorem dL_pay_3 : decode cL_pay 3 = .ok (.iload_n 1, 1) := by decide +kernel
theorem dL_pay_4 : decode cL_pay 4 = .ok (.iload_n 2, 1) := by decide +kernel
theorem dL_pay_5 : decode cL_pay 5 = .ok (.invokevirtual 116, 3) := by decide +kernel
theorem dL_pay_8 : decode cL_pay 8 = .ok (.i2l, 1) := by decide +kernel
theorem dL_pay_9 : decode cL_pay 9 = .ok (.lastore, 1) := by decide +kernel
theorem dL_pay_10 : decode cL_pay 10 = .ok (.goto 11, 3) := by decide +kernel
theorem dL_pay_13 : decode cL_pay 13 = .ok (.astore 4, 2) := by decide +kernel
theorem dL_pay_15 : decode cL_pay 15 = .ok (.iconst 1, 1) := by decide +kernel
theorem dL_pay_16 : decode cL_pay 16 = .ok (.ireturn, 1) := by decide +kernel
theorem dL_pay_17 : decode cL_pay 17 = .ok (.astore 4, 2) := by decide +kernel
theorem dL_pay_19 : decode cL_pay 19 = .ok (.iconst 2, 1) := by decide +kernel
theorem dL_pay_20 : decode cL_pay 20 = .ok (.ireturn, 1) := by decide +kernel
theorem dL_pay_21 : decode cL_pay 21 = .ok (.iconst 0, 1) := by decide +kernel
theorem dL_pay_22 : decode cL_pay 22 = .ok (.ireturn, 1) := by decide +kernel
theorem dL_plan_0 : decode cL_plan 0 = .ok (.aload_n 3, 1) := by decide +kernel
theorem dL_plan_1 : decode cL_plan 1 = .ok (.iconst 0, 1) := by decide +kernel
theorem dL_plan_2 : decode cL_plan 2 = .ok (.aload_n 0, 1) := by decide +kernel
theorem dL_plan_3 : decode cL_plan 3 = .ok (.iload_n 1, 1) := by decide +kernel
theorem dL_plan_4 : decode cL_plan 4 = .ok (.iload_n 2, 1) := by decide +kernel
theorem dL_plan_5 : decode cL_plan 5 = .ok (.invokevirtual 119, 3) := by decide +kernel
theorem dL_plan_8 : decode cL_plan 8 = .ok (.i2l, 1) := by decide +kernel
theorem dL_plan_9 : decode cL_plan 9 = .ok (.lastore, 1) := by decide +kernel
theorem dL_plan_10 : decode cL_plan 10 = .ok (.goto 7, 3) := by decide +kernel
theorem dL_plan_13 : decode cL_plan 13 = .ok (.astore 4, 2) := by decide +kernel
theorem dL_plan_15 : decode cL_plan 15 = .ok (.iconst 1, 1) := by decide +kernel
theorem dL_plan_16 : decode cL_plan 16 = .ok (.ireturn, 1) := by decide +kernel
theorem dL_plan_17 : decode cL_plan 17 = .ok (.iconst 0, 1) := by decide +kernel
theorem dL_plan_18 : decode cL_plan 18 = .ok (.ireturn, 1) := by decide +kernel
theorem dL_which_0 : decode cL_which 0 = .ok (.aload 4, 2) := by decide +kernel
theorem dL_which_2 : decode cL_which 2 = .ok (.iconst 0, 1) := by decide +kernel
theorem dL_which_3 : decode cL_which 3 = .ok (.aload_n 0, 1) := by decide +kernel
theorem dL_which_4 : decode cL_which 4 = .ok (.iload_n 1, 1) := by decide +kernel
theorem dL_which_5 : decode cL_which 5 = .ok (.iload_n 2, 1) := by decide +kernel
theorem dL_which_6 : decode cL_which 6 = .ok (.iload_n 3, 1) := by decide +kernel
theorem dL_which_7 : decode cL_which 7 = .ok (.invokevirtual 122, 3) := by decide +kernel
theorem dL_which_10 : decode cL_which 10 = .ok (.i2l, 1) := by decide +kernel
theorem dL_which_11 : decode cL_which 11 = .ok (.lastore, 1) := by decide +kernel
theorem dL_which_12 : decode cL_which 12 = .ok (.goto 11, 3) := by decide +kernel
theorem dL_which_15 : decode cL_which 15 = .ok (.astore 5, 2) := by decide +kernel
theorem dL_which_17 : decode cL_which 17 = .ok (.iconst 1, 1) := by decide +kernel
theorem dL_which_18 : decode cL_which 18 = .ok (.ireturn, 1) := by decide +kernel
theorem dL_which_19 : decode cL_which 19 = .ok (.astore 5, 2) := by decide +kernel
theorem dL_which_21 : decode cL_which 21 = .ok (.iconst 2, 1) := by decide +kernel
theorem dL_which_22 : decode cL_which 22 = .ok (.ireturn, 1) := by decide +kernel
theorem dL_which_23 : decode cL_which 23 = .ok (.iconst 0, 1) := by decide +kernel
theorem dL_which_24 : decode cL_which 24 = .ok (.ireturn, 1) := by decide +kernel
theorem dL_tear_0 : decode cL_tear 0 = .ok (.aload_n 3, 1) := by decide +kernel
theorem dL_tear_1 : decode cL_tear 1 = .ok (.iconst 0, 1) := by decide +kernel
theorem dL_tear_2 : decode cL_tear 2 = .ok (.aload_n 0, 1) := by decide +kernel
theorem dL_tear_3 : decode cL_tear 3 = .ok (.iload_n 1, 1) := by decide +kernel
theorem dL_tear_4 : decode cL_tear 4 = .ok (.iload_n 2, 1) := by decide +kernel
theorem dL_tear_5 : decode cL_tear 5 = .ok (.invokevirtual 125, 3) := by decide +kernel
theorem dL_tear_8 : decode cL_tear 8 = .ok (.i2l, 1) := by decide +kernel
theorem dL_tear_9 : decode cL_tear 9 = .ok (.lastore, 1) := by decide +kernel
theorem dL_tear_10 : decode cL_tear 10 = .ok (.goto 7, 3) := by decide +kernel
theorem dL_tear_13 : decode cL_tear 13 = .ok (.astore 4, 2) := by decide +kernel
theorem dL_tear_15 : decode cL_tear 15 = .ok (.iconst 1, 1) := by decide +kernel
theorem dL_tear_16 : decode cL_tear 16 = .ok (.ireturn, 1) := by decide +kernel
theorem dL_tear_17 : decode cL_tear 17 = .ok (.iconst 0, 1) := by decide +kernel
theorem dL_tear_18 : decode cL_tear 18 = .ok (.ireturn, 1) := by decide +kernel
theorem dL_law_0 : decode cL_law 0 = .ok (.new 8, 3) := by decide +kernel
theorem dL_law_3 : decode cL_law 3 = .ok (.dup, 1) := by decide +kernel
theorem dL_law_4 : decode cL_law 4 = .ok (.invokespecial 128, 3) := by decide +kernel
theorem dL_law_7 : decode cL_law 7 = .ok (.astore_n 1, 1) := by decide +kernel
theorem dL_law_8 : decode cL_law 8 = .ok (.new 129, 3) := by decide +kernel
theorem dL_law_11 : decode cL_law 11 = .ok (.dup, 1) := by decide +kernel
theorem dL_law_12 : decode cL_law 12 = .ok (.invokespecial 131, 3) := by decide +kernel
theorem dL_law_15 : decode cL_law 15 = .ok (.astore_n 2, 1) := by decide +kernel
theorem dL_law_16 : decode cL_law 16 = .ok (.iconst 1, 1) := by decide +kernel
theorem dL_law_17 : decode cL_law 17 = .ok (.newarray .long, 2) := by decide +kernel
theorem dL_law_19 : decode cL_law 19 = .ok (.astore_n 3, 1) := by decide +kernel
theorem dL_law_20 : decode cL_law 20 = .ok (.iconst 0, 1) := by decide +kernel
theorem dL_law_21 : decode cL_law 21 = .ok (.istore 4, 2) := by decide +kernel
theorem dL_law_23 : decode cL_law 23 = .ok (.iload 4, 2) := by decide +kernel
theorem dL_law_25 : decode cL_law 25 = .ok (.aload_n 0, 1) := by decide +kernel
theorem dL_law_26 : decode cL_law 26 = .ok (.arraylength, 1) := by decide +kernel
theorem dL_law_27 : decode cL_law 27 = .ok (.bipush 6, 2) := by decide +kernel
theorem dL_law_29 : decode cL_law 29 = .ok (.isub, 1) := by decide +kernel
theorem dL_law_30 : decode cL_law 30 = .ok (.if_icmp .gt 2844, 3) := by decide +kernel
theorem dL_law_33 : decode cL_law 33 = .ok (.aload_n 0, 1) := by decide +kernel
theorem dL_law_34 : decode cL_law 34 = .ok (.iload 4, 2) := by decide +kernel
theorem dL_law_36 : decode cL_law 36 = .ok (.iaload, 1) := by decide +kernel
theorem dL_law_37 : decode cL_law 37 = .ok (.bipush 63, 2) := by decide +kernel
theorem dL_law_39 : decode cL_law 39 = .ok (.iand, 1) := by decide +kernel
theorem dL_law_40 : decode cL_law 40 = .ok (.tableswitch 2828 0 44 #[196, 269, 294, 342, 390, 470, 538, 594, 662, 730, 850, 863, 935, 1018, 1074, 1099, 1124, 1199, 1262, 1325, 1381, 1437, 1505, 1592, 1660, 1674, 1749, 1853, 1933, 2008, 2092, 2176, 2218, 2273, 2341, 2428, 2496, 2509, 2577, 2657, 2698, 2766, 2779, 2790, 2803], 196) := by decide +kernel
theorem dL_law_236 : decode cL_law 236 = .ok (.aload_n 1, 1) := by decide +kernel
theorem dL_law_237 : decode cL_law 237 = .ok (.aload_n 0, 1) := by decide +kernel
theorem dL_law_238 : decode cL_law 238 = .ok (.iload 4, 2) := by decide +kernel
theorem dL_law_240 : decode cL_law 240 = .ok (.iconst 1, 1) := by decide +kernel
theorem dL_law_241 : decode cL_law 241 = .ok (.iadd, 1) := by decide +kernel
theorem dL_law_242 : decode cL_law 242 = .ok (.iaload, 1) := by decide +kernel
theorem dL_law_243 : decode cL_law 243 = .ok (.aload_n 0, 1) := by decide +kernel
theorem dL_law_244 : decode cL_law 244 = .ok (.iload 4, 2) := by decide +kernel
theorem dL_law_246 : decode cL_law 246 = .ok (.iconst 2, 1) := by decide +kernel
theorem dL_law_247 : decode cL_law 247 = .ok (.iadd, 1) := by decide +kernel
theorem dL_law_248 : decode cL_law 248 = .ok (.iaload, 1) := by decide +kernel
theorem dL_law_249 : decode cL_law 249 = .ok (.aload_n 0, 1) := by decide +kernel
theorem dL_law_250 : decode cL_law 250 = .ok (.iload 4, 2) := by decide +kernel
theorem dL_law_252 : decode cL_law 252 = .ok (.iconst 3, 1) := by decide +kernel
theorem dL_law_253 : decode cL_law 253 = .ok (.iadd, 1) := by decide +kernel
theorem dL_law_254 : decode cL_law 254 = .ok (.iaload, 1) := by decide +kernel
theorem dL_law_255 : decode cL_law 255 = .ok (.aload_n 0, 1) := by decide +kernel
theorem dL_law_256 : decode cL_law 256 = .ok (.iload 4, 2) := by decide +kernel
theorem dL_law_258 : decode cL_law 258 = .ok (.iconst 4, 1) := by decide +kernel
theorem dL_law_259 : decode cL_law 259 = .ok (.iadd, 1) := by decide +kernel
theorem dL_law_260 : decode cL_law 260 = .ok (.iaload, 1) := by decide +kernel
theorem dL_law_261 : decode cL_law 261 = .ok (.aload_n 0, 1) := by decide +kernel
theorem dL_law_262 : decode cL_law 262 = .ok (.iload 4, 2) := by decide +kernel
theorem dL_law_264 : decode cL_law 264 = .ok (.iconst 5, 1) := by decide +kernel
theorem dL_law_265 : decode cL_law 265 = .ok (.iadd, 1) := by decide +kernel
theorem dL_law_266 : decode cL_law 266 = .ok (.iaload, 1) := by decide +kernel
theorem dL_law_267 : decode cL_law 267 = .ok (.invokevirtual 132, 3) := by decide +kernel
theorem dL_law_270 : decode cL_law 270 = .ok (.aload_n 2, 1) := by decide +kernel
theorem dL_law_271 : decode cL_law 271 = .ok (.aload_n 0, 1) := by decide +kernel
theorem dL_law_272 : decode cL_law 272 = .ok (.iload 4, 2) := by decide +kernel
theorem dL_law_274 : decode cL_law 274 = .ok (.iconst 1, 1) := by decide +kernel
theorem dL_law_275 : decode cL_law 275 = .ok (.iadd, 1) := by decide +kernel
theorem dL_law_276 : decode cL_law 276 = .ok (.iaload, 1) := by decide +kernel
theorem dL_law_277 : decode cL_law 277 = .ok (.aload_n 0, 1) := by decide +kernel
theorem dL_law_278 : decode cL_law 278 = .ok (.iload 4, 2) := by decide +kernel
theorem dL_law_280 : decode cL_law 280 = .ok (.iconst 2, 1) := by decide +kernel
theorem dL_law_281 : decode cL_law 281 = .ok (.iadd, 1) := by decide +kernel
theorem dL_law_282 : decode cL_law 282 = .ok (.iaload, 1) := by decide +kernel
theorem dL_law_283 : decode cL_law 283 = .ok (.aload_n 0, 1) := by decide +kernel
theorem dL_law_284 : decode cL_law 284 = .ok (.iload 4, 2) := by decide +kernel
theorem dL_law_286 : decode cL_law 286 = .ok (.iconst 3, 1) := by decide +kernel
theorem dL_law_287 : decode cL_law 287 = .ok (.iadd, 1) := by decide +kernel
theorem dL_law_288 : decode cL_law 288 = .ok (.iaload, 1) := by decide +kernel
theorem dL_law_289 : decode cL_law 289 = .ok (.aload_n 0, 1) := by decide +kernel
theorem dL_law_290 : decode cL_law 290 = .ok (.iload 4, 2) := by decide +kernel
theorem dL_law_292 : decode cL_law 292 = .ok (.iconst 4, 1) := by decide +kernel
theorem dL_law_293 : decode cL_law 293 = .ok (.iadd, 1) := by decide +kernel
theorem dL_law_294 : decode cL_law 294 = .ok (.iaload, 1) := by decide +kernel
theorem dL_law_295 : decode cL_law 295 = .ok (.aload_n 0, 1) := by decide +kernel
theorem dL_law_296 : decode cL_law 296 = .ok (.iload 4, 2) := by decide +kernel
theorem dL_law_298 : decode cL_law 298 = .ok (.iconst 5, 1) := by decide +kernel
theorem dL_law_299 : decode cL_law 299 = .ok (.iadd, 1) := by decide +kernel
theorem dL_law_300 : decode cL_law 300 = .ok (.iaload, 1) := by decide +kernel
theorem dL_law_301 : decode cL_law 301 = .ok (.invokevirtual 135, 3) := by decide +kernel
theorem dL_law_304 : decode cL_law 304 = .ok (.if_icmp .eq 2564, 3) := by decide +kernel
theorem dL_law_307 : decode cL_law 307 = .ok (.iconst 0, 1) := by decide +kernel
theorem dL_law_308 : decode cL_law 308 = .ok (.ireturn, 1) := by decide +kernel
theorem dL_law_309 : decode cL_law 309 = .ok (.aload_n 1, 1) := by decide +kernel
theorem dL_law_310 : decode cL_law 310 = .ok (.aload_n 0, 1) := by decide +kernel
theorem dL_law_311 : decode cL_law 311 = .ok (.iload 4, 2) := by decide +kernel
theorem dL_law_313 : decode cL_law 313 = .ok (.iconst 1, 1) := by decide +kernel
theorem dL_law_314 : decode cL_law 314 = .ok (.iadd, 1) := by decide +kernel
theorem dL_law_315 : decode cL_law 315 = .ok (.iaload, 1) := by decide +kernel
theorem dL_law_316 : decode cL_law 316 = .ok (.invokevirtual 136, 3) := by decide +kernel
theorem dL_law_319 : decode cL_law 319 = .ok (.aload_n 2, 1) := by decide +kernel
theorem dL_law_320 : decode cL_law 320 = .ok (.aload_n 0, 1) := by decide +kernel
theorem dL_law_321 : decode cL_law 321 = .ok (.iload 4, 2) := by decide +kernel
theorem dL_law_323 : decode cL_law 323 = .ok (.iconst 1, 1) := by decide +kernel
theorem dL_law_324 : decode cL_law 324 = .ok (.iadd, 1) := by decide +kernel
theorem dL_law_325 : decode cL_law 325 = .ok (.iaload, 1) := by decide +kernel
theorem dL_law_326 : decode cL_law 326 = .ok (.invokevirtual 139, 3) := by decide +kernel
theorem dL_law_329 : decode cL_law 329 = .ok (.if_icmp .eq 2539, 3) := by decide +kernel
theorem dL_law_332 : decode cL_law 332 = .ok (.iconst 0, 1) := by decide +kernel
theorem dL_law_333 : decode cL_law 333 = .ok (.ireturn, 1) := by decide +kernel
theorem dL_law_334 : decode cL_law 334 = .ok (.aload_n 1, 1) := by decide +kernel
theorem dL_law_335 : decode cL_law 335 = .ok (.aload_n 0, 1) := by decide +kernel
theorem dL_law_336 : decode cL_law 336 = .ok (.iload 4, 2) := by decide +kernel
theorem dL_law_338 : decode cL_law 338 = .ok (.iconst 1, 1) := by decide +kernel
theorem dL_law_339 : decode cL_law 339 = .ok (.iadd, 1) := by decide +kernel
theorem dL_law_340 : decode cL_law 340 = .ok (.iaload, 1) := by decide +kernel
theorem dL_law_341 : decode cL_law 341 = .ok (.aload_n 0, 1) := by decide +kernel
theorem dL_law_342 : decode cL_law 342 = .ok (.iload 4, 2) := by decide +kernel
theorem dL_law_344 : decode cL_law 344 = .ok (.iconst 2, 1) := by decide +kernel
theorem dL_law_345 : decode cL_law 345 = .ok (.iadd, 1) := by decide +kernel
theorem dL_law_346 : decode cL_law 346 = .ok (.iaload, 1) := by decide +kernel
theorem dL_law_347 : decode cL_law 347 = .ok (.invokestatic 140, 3) := by decide +kernel
theorem dL_law_350 : decode cL_law 350 = .ok (.istore 5, 2) := by decide +kernel
theorem dL_law_352 : decode cL_law 352 = .ok (.aload_n 2, 1) := by decide +kernel
theorem dL_law_353 : decode cL_law 353 = .ok (.aload_n 0, 1) := by decide +kernel
theorem dL_law_354 : decode cL_law 354 = .ok (.iload 4, 2) := by decide +kernel
theorem dL_law_356 : decode cL_law 356 = .ok (.iconst 1, 1) := by decide +kernel
theorem dL_law_357 : decode cL_law 357 = .ok (.iadd, 1) := by decide +kernel
theorem dL_law_358 : decode cL_law 358 = .ok (.iaload, 1) := by decide +kernel
theorem dL_law_359 : decode cL_law 359 = .ok (.aload_n 0, 1) := by decide +kernel
theorem dL_law_360 : decode cL_law 360 = .ok (.iload 4, 2) := by decide +kernel
theorem dL_law_362 : decode cL_law 362 = .ok (.iconst 2, 1) := by decide +kernel
theorem dL_law_363 : decode cL_law 363 = .ok (.iadd, 1) := by decide +kernel
theorem dL_law_364 : decode cL_law 364 = .ok (.iaload, 1) := by decide +kernel
theorem dL_law_365 : decode cL_law 365 = .ok (.invokevirtual 145, 3) := by decide +kernel
theorem dL_law_368 : decode cL_law 368 = .ok (.aload_n 2, 1) := by decide +kernel
theorem dL_law_369 : decode cL_law 369 = .ok (.invokevirtual 146, 3) := by decide +kernel
theorem dL_law_372 : decode cL_law 372 = .ok (.iload 5, 2) := by decide +kernel
theorem dL_law_374 : decode cL_law 374 = .ok (.if_icmp .eq 5, 3) := by decide +kernel
theorem dL_law_377 : decode cL_law 377 = .ok (.iconst 0, 1) := by decide +kernel
theorem dL_law_378 : decode cL_law 378 = .ok (.ireturn, 1) := by decide +kernel
theorem dL_law_379 : decode cL_law 379 = .ok (.goto 2489, 3) := by decide +kernel
theorem dL_law_382 : decode cL_law 382 = .ok (.aload_n 1, 1) := by decide +kernel
theorem dL_law_383 : decode cL_law 383 = .ok (.aload_n 0, 1) := by decide +kernel
theorem dL_law_384 : decode cL_law 384 = .ok (.iload 4, 2) := by decide +kernel
theorem dL_law_386 : decode cL_law 386 = .ok (.iconst 1, 1) := by decide +kernel
theorem dL_law_387 : decode cL_law 387 = .ok (.iadd, 1) := by decide +kernel
theorem dL_law_388 : decode cL_law 388 = .ok (.iaload, 1) := by decide +kernel
theorem dL_law_389 : decode cL_law 389 = .ok (.aload_n 0, 1) := by decide +kernel
theorem dL_law_390 : decode cL_law 390 = .ok (.iload 4, 2) := by decide +kernel
theorem dL_law_392 : decode cL_law 392 = .ok (.iconst 2, 1) := by decide +kernel
theorem dL_law_393 : decode cL_law 393 = .ok (.iadd, 1) := by decide +kernel
theorem dL_law_394 : decode cL_law 394 = .ok (.iaload, 1) := by decide +kernel
theorem dL_law_395 : decode cL_law 395 = .ok (.invokestatic 150, 3) := by decide +kernel
theorem dL_law_398 : decode cL_law 398 = .ok (.istore 5, 2) := by decide +kernel
theorem dL_law_400 : decode cL_law 400 = .ok (.aload_n 2, 1) := by decide +kernel
theorem dL_law_401 : decode cL_law 401 = .ok (.aload_n 0, 1) := by decide +kernel
theorem dL_law_402 : decode cL_law 402 = .ok (.iload 4, 2) := by decide +kernel
theorem dL_law_404 : decode cL_law 404 = .ok (.iconst 1, 1) := by decide +kernel
theorem dL_law_405 : decode cL_law 405 = .ok (.iadd, 1) := by decide +kernel
theorem dL_law_406 : decode cL_law 406 = .ok (.iaload, 1) := by decide +kernel
theorem dL_law_407 : decode cL_law 407 = .ok (.aload_n 0, 1) := by decide +kernel
theorem dL_law_408 : decode cL_law 408 = .ok (.iload 4, 2) := by decide +kernel
theorem dL_law_410 : decode cL_law 410 = .ok (.iconst 2, 1) := by decide +kernel
theorem dL_law_411 : decode cL_law 411 = .ok (.iadd, 1) := by decide +kernel
theorem dL_law_412 : decode cL_law 412 = .ok (.iaload, 1) := by decide +kernel
theorem dL_law_413 : decode cL_law 413 = .ok (.invokevirtual 152, 3) := by decide +kernel
theorem dL_law_416 : decode cL_law 416 = .ok (.aload_n 2, 1) := by decide +kernel
theorem dL_law_417 : decode cL_law 417 = .ok (.invokevirtual 146, 3) := by decide +kernel
theorem dL_law_420 : decode cL_law 420 = .ok (.iload 5, 2) := by decide +kernel
theorem dL_law_422 : decode cL_law 422 = .ok (.if_icmp .eq 5, 3) := by decide +kernel
theorem dL_law_425 : decode cL_law 425 = .ok (.iconst 0, 1) := by decide +kernel
theorem dL_law_426 : decode cL_law 426 = .ok (.ireturn, 1) := by decide +kernel
theorem dL_law_427 : decode cL_law 427 = .ok (.goto 2441, 3) := by decide +kernel
theorem dL_law_430 : decode cL_law 430 = .ok (.aload_n 1, 1) := by decide +kernel
theorem dL_law_431 : decode cL_law 431 = .ok (.aload_n 0, 1) := by decide +kernel
theorem dL_law_432 : decode cL_law 432 = .ok (.iload 4, 2) := by decide +kernel
theorem dL_law_434 : decode cL_law 434 = .ok (.iconst 1, 1) := by decide +kernel
theorem dL_law_435 : decode cL_law 435 = .ok (.iadd, 1) := by decide +kernel
theorem dL_law_436 : decode cL_law 436 = .ok (.iaload, 1) := by decide +kernel
theorem dL_law_437 : decode cL_law 437 = .ok (.aload_n 0, 1) := by decide +kernel
theorem dL_law_438 : decode cL_law 438 = .ok (.iload 4, 2) := by decide +kernel
theorem dL_law_440 : decode cL_law 440 = .ok (.iconst 2, 1) := by decide +kernel
theorem dL_law_441 : decode cL_law 441 = .ok (.iadd, 1) := by decide +kernel
theorem dL_law_442 : decode cL_law 442 = .ok (.iaload, 1) := by decide +kernel
theorem dL_law_443 : decode cL_law 443 = .ok (.aload_n 0, 1) := by decide +kernel
theorem dL_law_444 : decode cL_law 444 = .ok (.iload 4, 2) := by decide +kernel
theorem dL_law_446 : decode cL_law 446 = .ok (.iconst 3, 1) := by decide +kernel
theorem dL_law_447 : decode cL_law 447 = .ok (.iadd, 1) := by decide +kernel
theorem dL_law_448 : decode cL_law 448 = .ok (.iaload, 1) := by decide +kernel
theorem dL_law_449 : decode cL_law 449 = .ok (.aload_n 3, 1) := by decide +kernel
theorem dL_law_450 : decode cL_law 450 = .ok (.invokestatic 153, 3) := by decide +kernel
theorem dL_law_453 : decode cL_law 453 = .ok (.istore 5, 2) := by decide +kernel
theorem dL_law_455 : decode cL_law 455 = .ok (.aload_n 2, 1) := by decide +kernel
theorem dL_law_456 : decode cL_law 456 = .ok (.aload_n 0, 1) := by decide +kernel
theorem dL_law_457 : decode cL_law 457 = .ok (.iload 4, 2) := by decide +kernel
theorem dL_law_459 : decode cL_law 459 = .ok (.iconst 1, 1) := by decide +kernel
theorem dL_law_460 : decode cL_law 460 = .ok (.iadd, 1) := by decide +kernel
theorem dL_law_461 : decode cL_law 461 = .ok (.iaload, 1) := by decide +kernel
theorem dL_law_462 : decode cL_law 462 = .ok (.aload_n 0, 1) := by decide +kernel
theorem dL_law_463 : decode cL_law 463 = .ok (.iload 4, 2) := by decide +kernel
theorem dL_law_465 : decode cL_law 465 = .ok (.iconst 2, 1) := by decide +kernel
theorem dL_law_466 : decode cL_law 466 = .ok (.iadd, 1) := by decide +kernel
theorem dL_law_467 : decode cL_law 467 = .ok (.iaload, 1) := by decide +kernel
theorem dL_law_468 : decode cL_law 468 = .ok (.aload_n 0, 1) := by decide +kernel
theorem dL_law_469 : decode cL_law 469 = .ok (.iload 4, 2) := by decide +kernel
theorem dL_law_471 : decode cL_law 471 = .ok (.iconst 3, 1) := by decide +kernel
theorem dL_law_472 : decode cL_law 472 = .ok (.iadd, 1) := by decide +kernel
theorem dL_law_473 : decode cL_law 473 = .ok (.iaload, 1) := by decide +kernel
theorem dL_law_474 : decode cL_law 474 = .ok (.invokevirtual 156, 3) := by decide +kernel
theorem dL_law_477 : decode cL_law 477 = .ok (.istore 6, 2) := by decide +kernel
theorem dL_law_479 : decode cL_law 479 = .ok (.aload_n 2, 1) := by decide +kernel
theorem dL_law_480 : decode cL_law 480 = .ok (.invokevirtual 146, 3) := by decide +kernel
theorem dL_law_483 : decode cL_law 483 = .ok (.iload 5, 2) := by decide +kernel
theorem dL_law_485 : decode cL_law 485 = .ok (.if_icmp .eq 5, 3) := by decide +kernel
theorem dL_law_488 : decode cL_law 488 = .ok (.iconst 0, 1) := by decide +kernel
theorem dL_law_489 : decode cL_law 489 = .ok (.ireturn, 1) := by decide +kernel
theorem dL_law_490 : decode cL_law 490 = .ok (.iload 5, 2) := by decide +kernel
theorem dL_law_492 : decode cL_law 492 = .ok (.ifCond .ne 15, 3) := by decide +kernel
theorem dL_law_495 : decode cL_law 495 = .ok (.aload_n 3, 1) := by decide +kernel
theorem dL_law_496 : decode cL_law 496 = .ok (.iconst 0, 1) := by decide +kernel
theorem dL_law_497 : decode cL_law 497 = .ok (.laload, 1) := by decide +kernel
theorem dL_law_498 : decode cL_law 498 = .ok (.iload 6, 2) := by decide +kernel
theorem dL_law_500 : decode cL_law 500 = .ok (.i2l, 1) := by decide +kernel
theorem dL_law_501 : decode cL_law 501 = .ok (.lcmp, 1) := by decide +kernel
theorem dL_law_502 : decode cL_law 502 = .ok (.ifCond .eq 5, 3) := by decide +kernel
theorem dL_law_505 : decode cL_law 505 = .ok (.iconst 0, 1) := by decide +kernel
theorem dL_law_506 : decode cL_law 506 = .ok (.ireturn, 1) := by decide +kernel
theorem dL_law_507 : decode cL_law 507 = .ok (.goto 2361, 3) := by decide +kernel
theorem dL_law_510 : decode cL_law 510 = .ok (.aload_n 1, 1) := by decide +kernel
theorem dL_law_511 : decode cL_law 511 = .ok (.aload_n 0, 1) := by decide +kernel
theorem dL_law_512 : decode cL_law 512 = .ok (.iload 4, 2) := by decide +kernel
theorem dL_law_514 : decode cL_law 514 = .ok (.iconst 1, 1) := by decide +kernel
theorem dL_law_515 : decode cL_law 515 = .ok (.iadd, 1) := by decide +kernel
theorem dL_law_516 : decode cL_law 516 = .ok (.iaload, 1) := by decide +kernel
theorem dL_law_517 : decode cL_law 517 = .ok (.aload_n 0, 1) := by decide +kernel
theorem dL_law_518 : decode cL_law 518 = .ok (.iload 4, 2) := by decide +kernel
theorem dL_law_520 : decode cL_law 520 = .ok (.iconst 2, 1) := by decide +kernel
theorem dL_law_521 : decode cL_law 521 = .ok (.iadd, 1) := by decide +kernel
theorem dL_law_522 : decode cL_law 522 = .ok (.iaload, 1) := by decide +kernel
theorem dL_law_523 : decode cL_law 523 = .ok (.aload_n 3, 1) := by decide +kernel
theorem dL_law_524 : decode cL_law 524 = .ok (.invokestatic 157, 3) := by decide +kernel
theorem dL_law_527 : decode cL_law 527 = .ok (.istore 5, 2) := by decide +kernel
theorem dL_law_529 : decode cL_law 529 = .ok (.aload_n 2, 1) := by decide +kernel
theorem dL_law_530 : decode cL_law 530 = .ok (.aload_n 0, 1) := by decide +kernel
theorem dL_law_531 : decode cL_law 531 = .ok (.iload 4, 2) := by decide +kernel
theorem dL_law_533 : decode cL_law 533 = .ok (.iconst 1, 1) := by decide +kernel
theorem dL_law_534 : decode cL_law 534 = .ok (.iadd, 1) := by decide +kernel
theorem dL_law_535 : decode cL_law 535 = .ok (.iaload, 1) := by decide +kernel
theorem dL_law_536 : decode cL_law 536 = .ok (.aload_n 0, 1) := by decide +kernel
theorem dL_law_537 : decode cL_law 537 = .ok (.iload 4, 2) := by decide +kernel
theorem dL_law_539 : decode cL_law 539 = .ok (.iconst 2, 1) := by decide +kernel
theorem dL_law_540 : decode cL_law 540 = .ok (.iadd, 1) := by decide +kernel
theorem dL_law_541 : decode cL_law 541 = .ok (.iaload, 1) := by decide +kernel
theorem dL_law_542 : decode cL_law 542 = .ok (.invokevirtual 160, 3) := by decide +kernel
theorem dL_law_545 : decode cL_law 545 = .ok (.istore 6, 2) := by decide +kernel
theorem dL_law_547 : decode cL_law 547 = .ok (.aload_n 2, 1) := by decide +kernel
theorem dL_law_548 : decode cL_law 548 = .ok (.invokevirtual 146, 3) := by decide +kernel
theorem dL_law_551 : decode cL_law 551 = .ok (.iload 5, 2) := by decide +kernel
theorem dL_law_553 : decode cL_law 553 = .ok (.if_icmp .eq 5, 3) := by decide +kernel
theorem dL_law_556 : decode cL_law 556 = .ok (.iconst 0, 1) := by decide +kernel
theorem dL_law_557 : decode cL_law 557 = .ok (.ireturn, 1) := by decide +kernel
theorem dL_law_558 : decode cL_law 558 = .ok (.iload 5, 2) := by decide +kernel
theorem dL_law_560 : decode cL_law 560 = .ok (.ifCond .ne 15, 3) := by decide +kernel
theorem dL_law_563 : decode cL_law 563 = .ok (.aload_n 3, 1) := by decide +kernel
theorem dL_law_564 : decode cL_law 564 = .ok (.iconst 0, 1) := by decide +kernel
theorem dL_law_565 : decode cL_law 565 = .ok (.laload, 1) := by decide +kernel
theorem dL_law_566 : decode cL_law 566 = .ok (.iload 6, 2) := by decide +kernel
theorem dL_law_568 : decode cL_law 568 = .ok (.i2l, 1) := by decide +kernel
theorem dL_law_569 : decode cL_law 569 = .ok (.lcmp, 1) := by decide +kernel
theorem dL_law_570 : decode cL_law 570 = .ok (.ifCond .eq 5, 3) := by decide +kernel
theorem dL_law_573 : decode cL_law 573 = .ok (.iconst 0, 1) := by decide +kernel
theorem dL_law_574 : decode cL_law 574 = .ok (.ireturn, 1) := by decide +kernel
theorem dL_law_575 : decode cL_law 575 = .ok (.goto 2293, 3) := by decide +kernel
theorem dL_law_578 : decode cL_law 578 = .ok (.aload_n 1, 1) := by decide +kernel
theorem dL_law_579 : decode cL_law 579 = .ok (.aload_n 0, 1) := by decide +kernel
theorem dL_law_580 : decode cL_law 580 = .ok (.iload 4, 2) := by decide +kernel
theorem dL_law_582 : decode cL_law 582 = .ok (.iconst 1, 1) := by decide +kernel
theorem dL_law_583 : decode cL_law 583 = .ok (.iadd, 1) := by decide +kernel
theorem dL_law_584 : decode cL_law 584 = .ok (.iaload, 1) := by decide +kernel
theorem dL_law_585 : decode cL_law 585 = .ok (.aload_n 3, 1) := by decide +kernel
theorem dL_law_586 : decode cL_law 586 = .ok (.invokestatic 161, 3) := by decide +kernel
theorem dL_law_589 : decode cL_law 589 = .ok (.istore 5, 2) := by decide +kernel
theorem dL_law_591 : decode cL_law 591 = .ok (.aload_n 2, 1) := by decide +kernel
theorem dL_law_592 : decode cL_law 592 = .ok (.aload_n 0, 1) := by decide +kernel
theorem dL_law_593 : decode cL_law 593 = .ok (.iload 4, 2) := by decide +kernel
theorem dL_law_595 : decode cL_law 595 = .ok (.iconst 1, 1) := by decide +kernel
theorem dL_law_596 : decode cL_law 596 = .ok (.iadd, 1) := by decide +kernel
theorem dL_law_597 : decode cL_law 597 = .ok (.iaload, 1) := by decide +kernel
theorem dL_law_598 : decode cL_law 598 = .ok (.invokevirtual 164, 3) := by decide +kernel
theorem dL_law_601 : decode cL_law 601 = .ok (.istore 6, 2) := by decide +kernel
theorem dL_law_603 : decode cL_law 603 = .ok (.aload_n 2, 1) := by decide +kernel
theorem dL_law_604 : decode cL_law 604 = .ok (.invokevirtual 146, 3) := by decide +kernel
theorem dL_law_607 : decode cL_law 607 = .ok (.iload 5, 2) := by decide +kernel
theorem dL_law_609 : decode cL_law 609 = .ok (.if_icmp .eq 5, 3) := by decide +kernel
theorem dL_law_612 : decode cL_law 612 = .ok (.iconst 0, 1) := by decide +kernel
theorem dL_law_613 : decode cL_law 613 = .ok (.ireturn, 1) := by decide +kernel
theorem dL_law_614 : decode cL_law 614 = .ok (.iload 5, 2) := by decide +kernel
theorem dL_law_616 : decode cL_law 616 = .ok (.ifCond .ne 15, 3) := by decide +kernel
theorem dL_law_619 : decode cL_law 619 = .ok (.aload_n 3, 1) := by decide +kernel
theorem dL_law_620 : decode cL_law 620 = .ok (.iconst 0, 1) := by decide +kernel
theorem dL_law_621 : decode cL_law 621 = .ok (.laload, 1) := by decide +kernel
theorem dL_law_622 : decode cL_law 622 = .ok (.iload 6, 2) := by decide +kernel
theorem dL_law_624 : decode cL_law 624 = .ok (.i2l, 1) := by decide +kernel
theorem dL_law_625 : decode cL_law 625 = .ok (.lcmp, 1) := by decide +kernel
theorem dL_law_626 : decode cL_law 626 = .ok (.ifCond .eq 5, 3) := by decide +kernel
theorem dL_law_629 : decode cL_law 629 = .ok (.iconst 0, 1) := by decide +kernel
theorem dL_law_630 : decode cL_law 630 = .ok (.ireturn, 1) := by decide +kernel
theorem dL_law_631 : decode cL_law 631 = .ok (.goto 2237, 3) := by decide +kernel
theorem dL_law_634 : decode cL_law 634 = .ok (.aload_n 1, 1) := by decide +kernel
theorem dL_law_635 : decode cL_law 635 = .ok (.aload_n 0, 1) := by decide +kernel
theorem dL_law_636 : decode cL_law 636 = .ok (.iload 4, 2) := by decide +kernel
theorem dL_law_638 : decode cL_law 638 = .ok (.iconst 1, 1) := by decide +kernel
theorem dL_law_639 : decode cL_law 639 = .ok (.iadd, 1) := by decide +kernel
theorem dL_law_640 : decode cL_law 640 = .ok (.iaload, 1) := by decide +kernel
theorem dL_law_641 : decode cL_law 641 = .ok (.aload_n 0, 1) := by decide +kernel
theorem dL_law_642 : decode cL_law 642 = .ok (.iload 4, 2) := by decide +kernel
theorem dL_law_644 : decode cL_law 644 = .ok (.iconst 2, 1) := by decide +kernel
theorem dL_law_645 : decode cL_law 645 = .ok (.iadd, 1) := by decide +kernel
theorem dL_law_646 : decode cL_law 646 = .ok (.iaload, 1) := by decide +kernel
theorem dL_law_647 : decode cL_law 647 = .ok (.aload_n 3, 1) := by decide +kernel
theorem dL_law_648 : decode cL_law 648 = .ok (.invokestatic 165, 3) := by decide +kernel
theorem dL_law_651 : decode cL_law 651 = .ok (.istore 5, 2) := by decide +kernel
theorem dL_law_653 : decode cL_law 653 = .ok (.aload_n 2, 1) := by decide +kernel
theorem dL_law_654 : decode cL_law 654 = .ok (.aload_n 0, 1) := by decide +kernel
theorem dL_law_655 : decode cL_law 655 = .ok (.iload 4, 2) := by decide +kernel
theorem dL_law_657 : decode cL_law 657 = .ok (.iconst 1, 1) := by decide +kernel
theorem dL_law_658 : decode cL_law 658 = .ok (.iadd, 1) := by decide +kernel
theorem dL_law_659 : decode cL_law 659 = .ok (.iaload, 1) := by decide +kernel
theorem dL_law_660 : decode cL_law 660 = .ok (.aload_n 0, 1) := by decide +kernel
theorem dL_law_661 : decode cL_law 661 = .ok (.iload 4, 2) := by decide +kernel
theorem dL_law_663 : decode cL_law 663 = .ok (.iconst 2, 1) := by decide +kernel
theorem dL_law_664 : decode cL_law 664 = .ok (.iadd, 1) := by decide +kernel
theorem dL_law_665 : decode cL_law 665 = .ok (.iaload, 1) := by decide +kernel
theorem dL_law_666 : decode cL_law 666 = .ok (.invokevirtual 167, 3) := by decide +kernel
theorem dL_law_669 : decode cL_law 669 = .ok (.istore 6, 2) := by decide +kernel
theorem dL_law_671 : decode cL_law 671 = .ok (.aload_n 2, 1) := by decide +kernel
theorem dL_law_672 : decode cL_law 672 = .ok (.invokevirtual 146, 3) := by decide +kernel
theorem dL_law_675 : decode cL_law 675 = .ok (.iload 5, 2) := by decide +kernel
theorem dL_law_677 : decode cL_law 677 = .ok (.if_icmp .eq 5, 3) := by decide +kernel
theorem dL_law_680 : decode cL_law 680 = .ok (.iconst 0, 1) := by decide +kernel
theorem dL_law_681 : decode cL_law 681 = .ok (.ireturn, 1) := by decide +kernel
theorem dL_law_682 : decode cL_law 682 = .ok (.iload 5, 2) := by decide +kernel
theorem dL_law_684 : decode cL_law 684 = .ok (.ifCond .ne 15, 3) := by decide +kernel
theorem dL_law_687 : decode cL_law 687 = .ok (.aload_n 3, 1) := by decide +kernel
theorem dL_law_688 : decode cL_law 688 = .ok (.iconst 0, 1) := by decide +kernel
theorem dL_law_689 : decode cL_law 689 = .ok (.laload, 1) := by decide +kernel
theorem dL_law_690 : decode cL_law 690 = .ok (.iload 6, 2) := by decide +kernel
theorem dL_law_692 : decode cL_law 692 = .ok (.i2l, 1) := by decide +kernel
theorem dL_law_693 : decode cL_law 693 = .ok (.lcmp, 1) := by decide +kernel
theorem dL_law_694 : decode cL_law 694 = .ok (.ifCond .eq 5, 3) := by decide +kernel
theorem dL_law_697 : decode cL_law 697 = .ok (.iconst 0, 1) := by decide +kernel
theorem dL_law_698 : decode cL_law 698 = .ok (.ireturn, 1) := by decide +kernel
theorem dL_law_699 : decode cL_law 699 = .ok (.goto 2169, 3) := by decide +kernel
theorem dL_law_702 : decode cL_law 702 = .ok (.aload_n 1, 1) := by decide +kernel
theorem dL_law_703 : decode cL_law 703 = .ok (.aload_n 0, 1) := by decide +kernel
theorem dL_law_704 : decode cL_law 704 = .ok (.iload 4, 2) := by decide +kernel
theorem dL_law_706 : decode cL_law 706 = .ok (.iconst 1, 1) := by decide +kernel
theorem dL_law_707 : decode cL_law 707 = .ok (.iadd, 1) := by decide +kernel
theorem dL_law_708 : decode cL_law 708 = .ok (.iaload, 1) := by decide +kernel
theorem dL_law_709 : decode cL_law 709 = .ok (.aload_n 0, 1) := by decide +kernel
theorem dL_law_710 : decode cL_law 710 = .ok (.iload 4, 2) := by decide +kernel
theorem dL_law_712 : decode cL_law 712 = .ok (.iconst 2, 1) := by decide +kernel
theorem dL_law_713 : decode cL_law 713 = .ok (.iadd, 1) := by decide +kernel
theorem dL_law_714 : decode cL_law 714 = .ok (.iaload, 1) := by decide +kernel
theorem dL_law_715 : decode cL_law 715 = .ok (.aload_n 3, 1) := by decide +kernel
theorem dL_law_716 : decode cL_law 716 = .ok (.invokestatic 168, 3) := by decide +kernel
theorem dL_law_719 : decode cL_law 719 = .ok (.istore 5, 2) := by decide +kernel
theorem dL_law_721 : decode cL_law 721 = .ok (.aload_n 2, 1) := by decide +kernel
theorem dL_law_722 : decode cL_law 722 = .ok (.aload_n 0, 1) := by decide +kernel
theorem dL_law_723 : decode cL_law 723 = .ok (.iload 4, 2) := by decide +kernel
theorem dL_law_725 : decode cL_law 725 = .ok (.iconst 1, 1) := by decide +kernel
theorem dL_law_726 : decode cL_law 726 = .ok (.iadd, 1) := by decide +kernel
theorem dL_law_727 : decode cL_law 727 = .ok (.iaload, 1) := by decide +kernel
theorem dL_law_728 : decode cL_law 728 = .ok (.aload_n 0, 1) := by decide +kernel
theorem dL_law_729 : decode cL_law 729 = .ok (.iload 4, 2) := by decide +kernel
theorem dL_law_731 : decode cL_law 731 = .ok (.iconst 2, 1) := by decide +kernel
theorem dL_law_732 : decode cL_law 732 = .ok (.iadd, 1) := by decide +kernel
theorem dL_law_733 : decode cL_law 733 = .ok (.iaload, 1) := by decide +kernel
theorem dL_law_734 : decode cL_law 734 = .ok (.invokevirtual 170, 3) := by decide +kernel
theorem dL_law_737 : decode cL_law 737 = .ok (.istore 6, 2) := by decide +kernel
theorem dL_law_739 : decode cL_law 739 = .ok (.aload_n 2, 1) := by decide +kernel
theorem dL_law_740 : decode cL_law 740 = .ok (.invokevirtual 146, 3) := by decide +kernel
theorem dL_law_743 : decode cL_law 743 = .ok (.iload 5, 2) := by decide +kernel
theorem dL_law_745 : decode cL_law 745 = .ok (.if_icmp .eq 5, 3) := by decide +kernel
theorem dL_law_748 : decode cL_law 748 = .ok (.iconst 0, 1) := by decide +kernel
theorem dL_law_749 : decode cL_law 749 = .ok (.ireturn, 1) := by decide +kernel
theorem dL_law_750 : decode cL_law 750 = .ok (.iload 5, 2) := by decide +kernel
theorem dL_law_752 : decode cL_law 752 = .ok (.ifCond .ne 15, 3) := by decide +kernel
theorem dL_law_755 : decode cL_law 755 = .ok (.aload_n 3, 1) := by decide +kernel
theorem dL_law_756 : decode cL_law 756 = .ok (.iconst 0, 1) := by decide +kernel
theorem dL_law_757 : decode cL_law 757 = .ok (.laload, 1) := by decide +kernel
theorem dL_law_758 : decode cL_law 758 = .ok (.iload 6, 2) := by decide +kernel
theorem dL_law_760 : decode cL_law 760 = .ok (.i2l, 1) := by decide +kernel
theorem dL_law_761 : decode cL_law 761 = .ok (.lcmp, 1) := by decide +kernel
theorem dL_law_762 : decode cL_law 762 = .ok (.ifCond .eq 5, 3) := by decide +kernel
theorem dL_law_765 : decode cL_law 765 = .ok (.iconst 0, 1) := by decide +kernel
theorem dL_law_766 : decode cL_law 766 = .ok (.ireturn, 1) := by decide +kernel
theorem dL_law_767 : decode cL_law 767 = .ok (.goto 2101, 3) := by decide +kernel
theorem dL_law_770 : decode cL_law 770 = .ok (.aload_n 1, 1) := by decide +kernel
theorem dL_law_771 : decode cL_law 771 = .ok (.aload_n 0, 1) := by decide +kernel
theorem dL_law_772 : decode cL_law 772 = .ok (.iload 4, 2) := by decide +kernel
theorem dL_law_774 : decode cL_law 774 = .ok (.iconst 1, 1) := by decide +kernel
theorem dL_law_775 : decode cL_law 775 = .ok (.iadd, 1) := by decide +kernel
theorem dL_law_776 : decode cL_law 776 = .ok (.iaload, 1) := by decide +kernel
theorem dL_law_777 : decode cL_law 777 = .ok (.aload_n 0, 1) := by decide +kernel
theorem dL_law_778 : decode cL_law 778 = .ok (.iload 4, 2) := by decide +kernel
theorem dL_law_780 : decode cL_law 780 = .ok (.iconst 2, 1) := by decide +kernel
theorem dL_law_781 : decode cL_law 781 = .ok (.iadd, 1) := by decide +kernel
theorem dL_law_782 : decode cL_law 782 = .ok (.iaload, 1) := by decide +kernel
theorem dL_law_783 : decode cL_law 783 = .ok (.aload_n 0, 1) := by decide +kernel
theorem dL_law_784 : decode cL_law 784 = .ok (.iload 4, 2) := by decide +kernel
theorem dL_law_786 : decode cL_law 786 = .ok (.iconst 3, 1) := by decide +kernel
theorem dL_law_787 : decode cL_law 787 = .ok (.iadd, 1) := by decide +kernel
theorem dL_law_788 : decode cL_law 788 = .ok (.iaload, 1) := by decide +kernel
theorem dL_law_789 : decode cL_law 789 = .ok (.aload_n 0, 1) := by decide +kernel
theorem dL_law_790 : decode cL_law 790 = .ok (.iload 4, 2) := by decide +kernel
theorem dL_law_792 : decode cL_law 792 = .ok (.iconst 4, 1) := by decide +kernel
theorem dL_law_793 : decode cL_law 793 = .ok (.iadd, 1) := by decide +kernel
theorem dL_law_794 : decode cL_law 794 = .ok (.iaload, 1) := by decide +kernel
theorem dL_law_795 : decode cL_law 795 = .ok (.aload_n 0, 1) := by decide +kernel
theorem dL_law_796 : decode cL_law 796 = .ok (.iload 4, 2) := by decide +kernel
theorem dL_law_798 : decode cL_law 798 = .ok (.iconst 5, 1) := by decide +kernel
theorem dL_law_799 : decode cL_law 799 = .ok (.iadd, 1) := by decide +kernel
theorem dL_law_800 : decode cL_law 800 = .ok (.iaload, 1) := by decide +kernel
theorem dL_law_801 : decode cL_law 801 = .ok (.ifCond .eq 7, 3) := by decide +kernel
theorem dL_law_804 : decode cL_law 804 = .ok (.iconst 1, 1) := by decide +kernel
theorem dL_law_805 : decode cL_law 805 = .ok (.goto 4, 3) := by decide +kernel
theorem dL_law_808 : decode cL_law 808 = .ok (.iconst 0, 1) := by decide +kernel
theorem dL_law_809 : decode cL_law 809 = .ok (.aload_n 3, 1) := by decide +kernel
theorem dL_law_810 : decode cL_law 810 = .ok (.invokestatic 171, 3) := by decide +kernel
theorem dL_law_813 : decode cL_law 813 = .ok (.istore 5, 2) := by decide +kernel
theorem dL_law_815 : decode cL_law 815 = .ok (.aload_n 2, 1) := by decide +kernel
theorem dL_law_816 : decode cL_law 816 = .ok (.aload_n 0, 1) := by decide +kernel
theorem dL_law_817 : decode cL_law 817 = .ok (.iload 4, 2) := by decide +kernel
theorem dL_law_819 : decode cL_law 819 = .ok (.iconst 1, 1) := by decide +kernel
theorem dL_law_820 : decode cL_law 820 = .ok (.iadd, 1) := by decide +kernel
theorem dL_law_821 : decode cL_law 821 = .ok (.iaload, 1) := by decide +kernel
theorem dL_law_822 : decode cL_law 822 = .ok (.aload_n 0, 1) := by decide +kernel
theorem dL_law_823 : decode cL_law 823 = .ok (.iload 4, 2) := by decide +kernel
theorem dL_law_825 : decode cL_law 825 = .ok (.iconst 2, 1) := by decide +kernel
theorem dL_law_826 : decode cL_law 826 = .ok (.iadd, 1) := by decide +kernel
theorem dL_law_827 : decode cL_law 827 = .ok (.iaload, 1) := by decide +kernel
theorem dL_law_828 : decode cL_law 828 = .ok (.aload_n 0, 1) := by decide +kernel
theorem dL_law_829 : decode cL_law 829 = .ok (.iload 4, 2) := by decide +kernel
theorem dL_law_831 : decode cL_law 831 = .ok (.iconst 3, 1) := by decide +kernel
theorem dL_law_832 : decode cL_law 832 = .ok (.iadd, 1) := by decide +kernel
theorem dL_law_833 : decode cL_law 833 = .ok (.iaload, 1) := by decide +kernel
theorem dL_law_834 : decode cL_law 834 = .ok (.aload_n 0, 1) := by decide +kernel
theorem dL_law_835 : decode cL_law 835 = .ok (.iload 4, 2) := by decide +kernel
theorem dL_law_837 : decode cL_law 837 = .ok (.iconst 4, 1) := by decide +kernel
theorem dL_law_838 : decode cL_law 838 = .ok (.iadd, 1) := by decide +kernel
theorem dL_law_839 : decode cL_law 839 = .ok (.iaload, 1) := by decide +kernel
theorem dL_law_840 : decode cL_law 840 = .ok (.aload_n 0, 1) := by decide +kernel
theorem dL_law_841 : decode cL_law 841 = .ok (.iload 4, 2) := by decide +kernel
theorem dL_law_843 : decode cL_law 843 = .ok (.iconst 5, 1) := by decide +kernel
theorem dL_law_844 : decode cL_law 844 = .ok (.iadd, 1) := by decide +kernel
theorem dL_law_845 : decode cL_law 845 = .ok (.iaload, 1) := by decide +kernel
theorem dL_law_846 : decode cL_law 846 = .ok (.ifCond .eq 7, 3) := by decide +kernel
theorem dL_law_849 : decode cL_law 849 = .ok (.iconst 1, 1) := by decide +kernel
theorem dL_law_850 : decode cL_law 850 = .ok (.goto 4, 3) := by decide +kernel
theorem dL_law_853 : decode cL_law 853 = .ok (.iconst 0, 1) := by decide +kernel
theorem dL_law_854 : decode cL_law 854 = .ok (.invokevirtual 174, 3) := by decide +kernel
theorem dL_law_857 : decode cL_law 857 = .ok (.istore 6, 2) := by decide +kernel
theorem dL_law_859 : decode cL_law 859 = .ok (.aload_n 2, 1) := by decide +kernel
theorem dL_law_860 : decode cL_law 860 = .ok (.invokevirtual 146, 3) := by decide +kernel
theorem dL_law_863 : decode cL_law 863 = .ok (.iload 5, 2) := by decide +kernel
theorem dL_law_865 : decode cL_law 865 = .ok (.if_icmp .eq 5, 3) := by decide +kernel
theorem dL_law_868 : decode cL_law 868 = .ok (.iconst 0, 1) := by decide +kernel
theorem dL_law_869 : decode cL_law 869 = .ok (.ireturn, 1) := by decide +kernel
theorem dL_law_870 : decode cL_law 870 = .ok (.iload 5, 2) := by decide +kernel
theorem dL_law_872 : decode cL_law 872 = .ok (.ifCond .ne 15, 3) := by decide +kernel
theorem dL_law_875 : decode cL_law 875 = .ok (.aload_n 3, 1) := by decide +kernel
theorem dL_law_876 : decode cL_law 876 = .ok (.iconst 0, 1) := by decide +kernel
theorem dL_law_877 : decode cL_law 877 = .ok (.laload, 1) := by decide +kernel
theorem dL_law_878 : decode cL_law 878 = .ok (.iload 6, 2) := by decide +kernel
theorem dL_law_880 : decode cL_law 880 = .ok (.i2l, 1) := by decide +kernel
theorem dL_law_881 : decode cL_law 881 = .ok (.lcmp, 1) := by decide +kernel
theorem dL_law_882 : decode cL_law 882 = .ok (.ifCond .eq 5, 3) := by decide +kernel
theorem dL_law_885 : decode cL_law 885 = .ok (.iconst 0, 1) := by decide +kernel
theorem dL_law_886 : decode cL_law 886 = .ok (.ireturn, 1) := by decide +kernel
theorem dL_law_887 : decode cL_law 887 = .ok (.goto 1981, 3) := by decide +kernel
theorem dL_law_890 : decode cL_law 890 = .ok (.aload_n 1, 1) := by decide +kernel
theorem dL_law_891 : decode cL_law 891 = .ok (.invokevirtual 175, 3) := by decide +kernel
theorem dL_law_894 : decode cL_law 894 = .ok (.aload_n 2, 1) := by decide +kernel
theorem dL_law_895 : decode cL_law 895 = .ok (.invokevirtual 178, 3) := by decide +kernel
theorem dL_law_898 : decode cL_law 898 = .ok (.if_icmp .eq 1970, 3) := by decide +kernel
theorem dL_law_901 : decode cL_law 901 = .ok (.iconst 0, 1) := by decide +kernel
theorem dL_law_902 : decode cL_law 902 = .ok (.ireturn, 1) := by decide +kernel
theorem dL_law_903 : decode cL_law 903 = .ok (.aload_n 1, 1) := by decide +kernel
theorem dL_law_904 : decode cL_law 904 = .ok (.aload_n 0, 1) := by decide +kernel
theorem dL_law_905 : decode cL_law 905 = .ok (.iload 4, 2) := by decide +kernel
theorem dL_law_907 : decode cL_law 907 = .ok (.iconst 1, 1) := by decide +kernel
theorem dL_law_908 : decode cL_law 908 = .ok (.iadd, 1) := by decide +kernel
theorem dL_law_909 : decode cL_law 909 = .ok (.iaload, 1) := by decide +kernel
theorem dL_law_910 : decode cL_law 910 = .ok (.aload_n 0, 1) := by decide +kernel
theorem dL_law_911 : decode cL_law 911 = .ok (.iload 4, 2) := by decide +kernel
theorem dL_law_913 : decode cL_law 913 = .ok (.iconst 2, 1) := by decide +kernel
theorem dL_law_914 : decode cL_law 914 = .ok (.iadd, 1) := by decide +kernel
theorem dL_law_915 : decode cL_law 915 = .ok (.iaload, 1) := by decide +kernel
theorem dL_law_916 : decode cL_law 916 = .ok (.aload_n 0, 1) := by decide +kernel
theorem dL_law_917 : decode cL_law 917 = .ok (.iload 4, 2) := by decide +kernel
theorem dL_law_919 : decode cL_law 919 = .ok (.iconst 3, 1) := by decide +kernel
theorem dL_law_920 : decode cL_law 920 = .ok (.iadd, 1) := by decide +kernel
theorem dL_law_921 : decode cL_law 921 = .ok (.iaload, 1) := by decide +kernel
theorem dL_law_922 : decode cL_law 922 = .ok (.aload_n 0, 1) := by decide +kernel
theorem dL_law_923 : decode cL_law 923 = .ok (.iload 4, 2) := by decide +kernel
theorem dL_law_925 : decode cL_law 925 = .ok (.iconst 4, 1) := by decide +kernel
theorem dL_law_926 : decode cL_law 926 = .ok (.iadd, 1) := by decide +kernel
theorem dL_law_927 : decode cL_law 927 = .ok (.iaload, 1) := by decide +kernel
theorem dL_law_928 : decode cL_law 928 = .ok (.invokestatic 179, 3) := by decide +kernel
theorem dL_law_931 : decode cL_law 931 = .ok (.istore 5, 2) := by decide +kernel
theorem dL_law_933 : decode cL_law 933 = .ok (.aload_n 2, 1) := by decide +kernel
theorem dL_law_934 : decode cL_law 934 = .ok (.aload_n 0, 1) := by decide +kernel
theorem dL_law_935 : decode cL_law 935 = .ok (.iload 4, 2) := by decide +kernel
theorem dL_law_937 : decode cL_law 937 = .ok (.iconst 1, 1) := by decide +kernel
theorem dL_law_938 : decode cL_law 938 = .ok (.iadd, 1) := by decide +kernel
theorem dL_law_939 : decode cL_law 939 = .ok (.iaload, 1) := by decide +kernel
theorem dL_law_940 : decode cL_law 940 = .ok (.aload_n 0, 1) := by decide +kernel
theorem dL_law_941 : decode cL_law 941 = .ok (.iload 4, 2) := by decide +kernel
theorem dL_law_943 : decode cL_law 943 = .ok (.iconst 2, 1) := by decide +kernel
theorem dL_law_944 : decode cL_law 944 = .ok (.iadd, 1) := by decide +kernel
theorem dL_law_945 : decode cL_law 945 = .ok (.iaload, 1) := by decide +kernel
theorem dL_law_946 : decode cL_law 946 = .ok (.aload_n 0, 1) := by decide +kernel
theorem dL_law_947 : decode cL_law 947 = .ok (.iload 4, 2) := by decide +kernel
theorem dL_law_949 : decode cL_law 949 = .ok (.iconst 3, 1) := by decide +kernel
theorem dL_law_950 : decode cL_law 950 = .ok (.iadd, 1) := by decide +kernel
theorem dL_law_951 : decode cL_law 951 = .ok (.iaload, 1) := by decide +kernel
theorem dL_law_952 : decode cL_law 952 = .ok (.aload_n 0, 1) := by decide +kernel
theorem dL_law_953 : decode cL_law 953 = .ok (.iload 4, 2) := by decide +kernel
theorem dL_law_955 : decode cL_law 955 = .ok (.iconst 4, 1) := by decide +kernel
theorem dL_law_956 : decode cL_law 956 = .ok (.iadd, 1) := by decide +kernel
theorem dL_law_957 : decode cL_law 957 = .ok (.iaload, 1) := by decide +kernel
theorem dL_law_958 : decode cL_law 958 = .ok (.invokevirtual 182, 3) := by decide +kernel
theorem dL_law_961 : decode cL_law 961 = .ok (.aload_n 2, 1) := by decide +kernel
theorem dL_law_962 : decode cL_law 962 = .ok (.invokevirtual 146, 3) := by decide +kernel
theorem dL_law_965 : decode cL_law 965 = .ok (.iload 5, 2) := by decide +kernel
theorem dL_law_967 : decode cL_law 967 = .ok (.if_icmp .eq 5, 3) := by decide +kernel
theorem dL_law_970 : decode cL_law 970 = .ok (.iconst 0, 1) := by decide +kernel
theorem dL_law_971 : decode cL_law 971 = .ok (.ireturn, 1) := by decide +kernel
theorem dL_law_972 : decode cL_law 972 = .ok (.goto 1896, 3) := by decide +kernel
theorem dL_law_975 : decode cL_law 975 = .ok (.aload_n 1, 1) := by decide +kernel
theorem dL_law_976 : decode cL_law 976 = .ok (.aload_n 0, 1) := by decide +kernel
theorem dL_law_977 : decode cL_law 977 = .ok (.iload 4, 2) := by decide +kernel
theorem dL_law_979 : decode cL_law 979 = .ok (.iconst 1, 1) := by decide +kernel
theorem dL_law_980 : decode cL_law 980 = .ok (.iadd, 1) := by decide +kernel
theorem dL_law_981 : decode cL_law 981 = .ok (.iaload, 1) := by decide +kernel
theorem dL_law_982 : decode cL_law 982 = .ok (.aload_n 0, 1) := by decide +kernel
theorem dL_law_983 : decode cL_law 983 = .ok (.iload 4, 2) := by decide +kernel
theorem dL_law_985 : decode cL_law 985 = .ok (.iconst 2, 1) := by decide +kernel
theorem dL_law_986 : decode cL_law 986 = .ok (.iadd, 1) := by decide +kernel
theorem dL_law_987 : decode cL_law 987 = .ok (.iaload, 1) := by decide +kernel
theorem dL_law_988 : decode cL_law 988 = .ok (.ifCond .eq 7, 3) := by decide +kernel
theorem dL_law_991 : decode cL_law 991 = .ok (.iconst 1, 1) := by decide +kernel
theorem dL_law_992 : decode cL_law 992 = .ok (.goto 4, 3) := by decide +kernel
theorem dL_law_995 : decode cL_law 995 = .ok (.iconst 0, 1) := by decide +kernel
theorem dL_law_996 : decode cL_law 996 = .ok (.aload_n 3, 1) := by decide +kernel
theorem dL_law_997 : decode cL_law 997 = .ok (.invokestatic 183, 3) := by decide +kernel
theorem dL_law_1000 : decode cL_law 1000 = .ok (.istore 5, 2) := by decide +kernel
theorem dL_law_1002 : decode cL_law 1002 = .ok (.aload_n 2, 1) := by decide +kernel
theorem dL_law_1003 : decode cL_law 1003 = .ok (.aload_n 0, 1) := by decide +kernel
theorem dL_law_1004 : decode cL_law 1004 = .ok (.iload 4, 2) := by decide +kernel
theorem dL_law_1006 : decode cL_law 1006 = .ok (.iconst 1, 1) := by decide +kernel
theorem dL_law_1007 : decode cL_law 1007 = .ok (.iadd, 1) := by decide +kernel
theorem dL_law_1008 : decode cL_law 1008 = .ok (.iaload, 1) := by decide +kernel
theorem dL_law_1009 : decode cL_law 1009 = .ok (.aload_n 0, 1) := by decide +kernel
theorem dL_law_1010 : decode cL_law 1010 = .ok (.iload 4, 2) := by decide +kernel
theorem dL_law_1012 : decode cL_law 1012 = .ok (.iconst 2, 1) := by decide +kernel
theorem dL_law_1013 : decode cL_law 1013 = .ok (.iadd, 1) := by decide +kernel
theorem dL_law_1014 : decode cL_law 1014 = .ok (.iaload, 1) := by decide +kernel
theorem dL_law_1015 : decode cL_law 1015 = .ok (.ifCond .eq 7, 3) := by decide +kernel
theorem dL_law_1018 : decode cL_law 1018 = .ok (.iconst 1, 1) := by decide +kernel
theorem dL_law_1019 : decode cL_law 1019 = .ok (.goto 4, 3) := by decide +kernel
theorem dL_law_1022 : decode cL_law 1022 = .ok (.iconst 0, 1) := by decide +kernel
theorem dL_law_1023 : decode cL_law 1023 = .ok (.invokevirtual 186, 3) := by decide +kernel
theorem dL_law_1026 : decode cL_law 1026 = .ok (.lstore 6, 2) := by decide +kernel
theorem dL_law_1028 : decode cL_law 1028 = .ok (.aload_n 2, 1) := by decide +kernel
theorem dL_law_1029 : decode cL_law 1029 = .ok (.invokevirtual 146, 3) := by decide +kernel
theorem dL_law_1032 : decode cL_law 1032 = .ok (.iload 5, 2) := by decide +kernel
theorem dL_law_1034 : decode cL_law 1034 = .ok (.if_icmp .eq 5, 3) := by decide +kernel
theorem dL_law_1037 : decode cL_law 1037 = .ok (.iconst 0, 1) := by decide +kernel
theorem dL_law_1038 : decode cL_law 1038 = .ok (.ireturn, 1) := by decide +kernel
theorem dL_law_1039 : decode cL_law 1039 = .ok (.iload 5, 2) := by decide +kernel
theorem dL_law_1041 : decode cL_law 1041 = .ok (.ifCond .ne 14, 3) := by decide +kernel
theorem dL_law_1044 : decode cL_law 1044 = .ok (.aload_n 3, 1) := by decide +kernel
theorem dL_law_1045 : decode cL_law 1045 = .ok (.iconst 0, 1) := by decide +kernel
theorem dL_law_1046 : decode cL_law 1046 = .ok (.laload, 1) := by decide +kernel
theorem dL_law_1047 : decode cL_law 1047 = .ok (.lload 6, 2) := by decide +kernel
theorem dL_law_1049 : decode cL_law 1049 = .ok (.lcmp, 1) := by decide +kernel
theorem dL_law_1050 : decode cL_law 1050 = .ok (.ifCond .eq 5, 3) := by decide +kernel
theorem dL_law_1053 : decode cL_law 1053 = .ok (.iconst 0, 1) := by decide +kernel
theorem dL_law_1054 : decode cL_law 1054 = .ok (.ireturn, 1) := by decide +kernel
theorem dL_law_1055 : decode cL_law 1055 = .ok (.goto 1813, 3) := by decide +kernel
theorem dL_law_1058 : decode cL_law 1058 = .ok (.aload_n 1, 1) := by decide +kernel
theorem dL_law_1059 : decode cL_law 1059 = .ok (.aload_n 0, 1) := by decide +kernel
theorem dL_law_1060 : decode cL_law 1060 = .ok (.iload 4, 2) := by decide +kernel
theorem dL_law_1062 : decode cL_law 1062 = .ok (.iconst 1, 1) := by decide +kernel
theorem dL_law_1063 : decode cL_law 1063 = .ok (.iadd, 1) := by decide +kernel
theorem dL_law_1064 : decode cL_law 1064 = .ok (.iaload, 1) := by decide +kernel
theorem dL_law_1065 : decode cL_law 1065 = .ok (.aload_n 3, 1) := by decide +kernel
theorem dL_law_1066 : decode cL_law 1066 = .ok (.invokestatic 187, 3) := by decide +kernel
theorem dL_law_1069 : decode cL_law 1069 = .ok (.istore 5, 2) := by decide +kernel
theorem dL_law_1071 : decode cL_law 1071 = .ok (.aload_n 2, 1) := by decide +kernel
theorem dL_law_1072 : decode cL_law 1072 = .ok (.aload_n 0, 1) := by decide +kernel
theorem dL_law_1073 : decode cL_law 1073 = .ok (.iload 4, 2) := by decide +kernel
theorem dL_law_1075 : decode cL_law 1075 = .ok (.iconst 1, 1) := by decide +kernel
theorem dL_law_1076 : decode cL_law 1076 = .ok (.iadd, 1) := by decide +kernel
theorem dL_law_1077 : decode cL_law 1077 = .ok (.iaload, 1) := by decide +kernel
theorem dL_law_1078 : decode cL_law 1078 = .ok (.invokevirtual 189, 3) := by decide +kernel
theorem dL_law_1081 : decode cL_law 1081 = .ok (.istore 6, 2) := by decide +kernel
theorem dL_law_1083 : decode cL_law 1083 = .ok (.aload_n 2, 1) := by decide +kernel
theorem dL_law_1084 : decode cL_law 1084 = .ok (.invokevirtual 146, 3) := by decide +kernel
theorem dL_law_1087 : decode cL_law 1087 = .ok (.iload 5, 2) := by decide +kernel
theorem dL_law_1089 : decode cL_law 1089 = .ok (.if_icmp .eq 5, 3) := by decide +kernel
theorem dL_law_1092 : decode cL_law 1092 = .ok (.iconst 0, 1) := by decide +kernel
theorem dL_law_1093 : decode cL_law 1093 = .ok (.ireturn, 1) := by decide +kernel
theorem dL_law_1094 : decode cL_law 1094 = .ok (.iload 5, 2) := by decide +kernel
theorem dL_law_1096 : decode cL_law 1096 = .ok (.ifCond .ne 15, 3) := by decide +kernel
theorem dL_law_1099 : decode cL_law 1099 = .ok (.aload_n 3, 1) := by decide +kernel
theorem dL_law_1100 : decode cL_law 1100 = .ok (.iconst 0, 1) := by decide +kernel
theorem dL_law_1101 : decode cL_law 1101 = .ok (.laload, 1) := by decide +kernel
theorem dL_law_1102 : decode cL_law 1102 = .ok (.iload 6, 2) := by decide +kernel
theorem dL_law_1104 : decode cL_law 1104 = .ok (.i2l, 1) := by decide +kernel
theorem dL_law_1105 : decode cL_law 1105 = .ok (.lcmp, 1) := by decide +kernel
theorem dL_law_1106 : decode cL_law 1106 = .ok (.ifCond .eq 5, 3) := by decide +kernel
theorem dL_law_1109 : decode cL_law 1109 = .ok (.iconst 0, 1) := by decide +kernel
theorem dL_law_1110 : decode cL_law 1110 = .ok (.ireturn, 1) := by decide +kernel
theorem dL_law_1111 : decode cL_law 1111 = .ok (.goto 1757, 3) := by decide +kernel
theorem dL_law_1114 : decode cL_law 1114 = .ok (.aload_n 1, 1) := by decide +kernel
theorem dL_law_1115 : decode cL_law 1115 = .ok (.aload_n 0, 1) := by decide +kernel
theorem dL_law_1116 : decode cL_law 1116 = .ok (.iload 4, 2) := by decide +kernel
theorem dL_law_1118 : decode cL_law 1118 = .ok (.iconst 1, 1) := by decide +kernel
theorem dL_law_1119 : decode cL_law 1119 = .ok (.iadd, 1) := by decide +kernel
theorem dL_law_1120 : decode cL_law 1120 = .ok (.iaload, 1) := by decide +kernel
theorem dL_law_1121 : decode cL_law 1121 = .ok (.invokevirtual 190, 3) := by decide +kernel
theorem dL_law_1124 : decode cL_law 1124 = .ok (.aload_n 2, 1) := by decide +kernel
theorem dL_law_1125 : decode cL_law 1125 = .ok (.aload_n 0, 1) := by decide +kernel
theorem dL_law_1126 : decode cL_law 1126 = .ok (.iload 4, 2) := by decide +kernel
theorem dL_law_1128 : decode cL_law 1128 = .ok (.iconst 1, 1) := by decide +kernel
theorem dL_law_1129 : decode cL_law 1129 = .ok (.iadd, 1) := by decide +kernel
theorem dL_law_1130 : decode cL_law 1130 = .ok (.iaload, 1) := by decide +kernel
theorem dL_law_1131 : decode cL_law 1131 = .ok (.invokevirtual 193, 3) := by decide +kernel
theorem dL_law_1134 : decode cL_law 1134 = .ok (.if_icmp .eq 1734, 3) := by decide +kernel
theorem dL_law_1137 : decode cL_law 1137 = .ok (.iconst 0, 1) := by decide +kernel
theorem dL_law_1138 : decode cL_law 1138 = .ok (.ireturn, 1) := by decide +kernel
theorem dL_law_1139 : decode cL_law 1139 = .ok (.aload_n 1, 1) := by decide +kernel
theorem dL_law_1140 : decode cL_law 1140 = .ok (.aload_n 0, 1) := by decide +kernel
theorem dL_law_1141 : decode cL_law 1141 = .ok (.iload 4, 2) := by decide +kernel
theorem dL_law_1143 : decode cL_law 1143 = .ok (.iconst 1, 1) := by decide +kernel
theorem dL_law_1144 : decode cL_law 1144 = .ok (.iadd, 1) := by decide +kernel
theorem dL_law_1145 : decode cL_law 1145 = .ok (.iaload, 1) := by decide +kernel
theorem dL_law_1146 : decode cL_law 1146 = .ok (.invokevirtual 194, 3) := by decide +kernel
theorem dL_law_1149 : decode cL_law 1149 = .ok (.aload_n 2, 1) := by decide +kernel
theorem dL_law_1150 : decode cL_law 1150 = .ok (.aload_n 0, 1) := by decide +kernel
theorem dL_law_1151 : decode cL_law 1151 = .ok (.iload 4, 2) := by decide +kernel
theorem dL_law_1153 : decode cL_law 1153 = .ok (.iconst 1, 1) := by decide +kernel
theorem dL_law_1154 : decode cL_law 1154 = .ok (.iadd, 1) := by decide +kernel
theorem dL_law_1155 : decode cL_law 1155 = .ok (.iaload, 1) := by decide +kernel
theorem dL_law_1156 : decode cL_law 1156 = .ok (.invokevirtual 197, 3) := by decide +kernel
theorem dL_law_1159 : decode cL_law 1159 = .ok (.if_icmp .eq 1709, 3) := by decide +kernel
theorem dL_law_1162 : decode cL_law 1162 = .ok (.iconst 0, 1) := by decide +kernel
theorem dL_law_1163 : decode cL_law 1163 = .ok (.ireturn, 1) := by decide +kernel
theorem dL_law_1164 : decode cL_law 1164 = .ok (.aload_n 1, 1) := by decide +kernel
theorem dL_law_1165 : decode cL_law 1165 = .ok (.aload_n 0, 1) := by decide +kernel
theorem dL_law_1166 : decode cL_law 1166 = .ok (.iload 4, 2) := by decide +kernel
theorem dL_law_1168 : decode cL_law 1168 = .ok (.iconst 1, 1) := by decide +kernel
theorem dL_law_1169 : decode cL_law 1169 = .ok (.iadd, 1) := by decide +kernel
theorem dL_law_1170 : decode cL_law 1170 = .ok (.iaload, 1) := by decide +kernel
theorem dL_law_1171 : decode cL_law 1171 = .ok (.aload_n 0, 1) := by decide +kernel
theorem dL_law_1172 : decode cL_law 1172 = .ok (.iload 4, 2) := by decide +kernel
theorem dL_law_1174 : decode cL_law 1174 = .ok (.iconst 2, 1) := by decide +kernel
theorem dL_law_1175 : decode cL_law 1175 = .ok (.iadd, 1) := by decide +kernel
theorem dL_law_1176 : decode cL_law 1176 = .ok (.iaload, 1) := by decide +kernel
theorem dL_law_1177 : decode cL_law 1177 = .ok (.aload_n 3, 1) := by decide +kernel
theorem dL_law_1178 : decode cL_law 1178 = .ok (.invokestatic 198, 3) := by decide +kernel
theorem dL_law_1181 : decode cL_law 1181 = .ok (.istore 5, 2) := by decide +kernel
theorem dL_law_1183 : decode cL_law 1183 = .ok (.aload_n 2, 1) := by decide +kernel
theorem dL_law_1184 : decode cL_law 1184 = .ok (.aload_n 0, 1) := by decide +kernel
theorem dL_law_1185 : decode cL_law 1185 = .ok (.iload 4, 2) := by decide +kernel
theorem dL_law_1187 : decode cL_law 1187 = .ok (.iconst 1, 1) := by decide +kernel
theorem dL_law_1188 : decode cL_law 1188 = .ok (.iadd, 1) := by decide +kernel
theorem dL_law_1189 : decode cL_law 1189 = .ok (.iaload, 1) := by decide +kernel
theorem dL_law_1190 : decode cL_law 1190 = .ok (.aload_n 0, 1) := by decide +kernel
theorem dL_law_1191 : decode cL_law 1191 = .ok (.iload 4, 2) := by decide +kernel
theorem dL_law_1193 : decode cL_law 1193 = .ok (.iconst 2, 1) := by decide +kernel
theorem dL_law_1194 : decode cL_law 1194 = .ok (.iadd, 1) := by decide +kernel
theorem dL_law_1195 : decode cL_law 1195 = .ok (.iaload, 1) := by decide +kernel
theorem dL_law_1196 : decode cL_law 1196 = .ok (.invokevirtual 200, 3) := by decide +kernel
theorem dL_law_1199 : decode cL_law 1199 = .ok (.istore 6, 2) := by decide +kernel
theorem dL_law_1201 : decode cL_law 1201 = .ok (.aload_n 2, 1) := by decide +kernel
theorem dL_law_1202 : decode cL_law 1202 = .ok (.invokevirtual 146, 3) := by decide +kernel
theorem dL_law_1205 : decode cL_law 1205 = .ok (.iload 5, 2) := by decide +kernel
theorem dL_law_1207 : decode cL_law 1207 = .ok (.if_icmp .eq 5, 3) := by decide +kernel
theorem dL_law_1210 : decode cL_law 1210 = .ok (.iconst 0, 1) := by decide +kernel
theorem dL_law_1211 : decode cL_law 1211 = .ok (.ireturn, 1) := by decide +kernel
theorem dL_law_1212 : decode cL_law 1212 = .ok (.iload 5, 2) := by decide +kernel
theorem dL_law_1214 : decode cL_law 1214 = .ok (.ifCond .ne 22, 3) := by decide +kernel
theorem dL_law_1217 : decode cL_law 1217 = .ok (.aload_n 3, 1) := by decide +kernel
theorem dL_law_1218 : decode cL_law 1218 = .ok (.iconst 0, 1) := by decide +kernel
theorem dL_law_1219 : decode cL_law 1219 = .ok (.laload, 1) := by decide +kernel
theorem dL_law_1220 : decode cL_law 1220 = .ok (.iload 6, 2) := by decide +kernel
theorem dL_law_1222 : decode cL_law 1222 = .ok (.ifCond .eq 7, 3) := by decide +kernel
theorem dL_law_1225 : decode cL_law 1225 = .ok (.lconst 1, 1) := by decide +kernel
theorem dL_law_1226 : decode cL_law 1226 = .ok (.goto 4, 3) := by decide +kernel
theorem dL_law_1229 : decode cL_law 1229 = .ok (.lconst 0, 1) := by decide +kernel
theorem dL_law_1230 : decode cL_law 1230 = .ok (.lcmp, 1) := by decide +kernel
theorem dL_law_1231 : decode cL_law 1231 = .ok (.ifCond .eq 5, 3) := by decide +kernel
theorem dL_law_1234 : decode cL_law 1234 = .ok (.iconst 0, 1) := by decide +kernel
theorem dL_law_1235 : decode cL_law 1235 = .ok (.ireturn, 1) := by decide +kernel
theorem dL_law_1236 : decode cL_law 1236 = .ok (.goto 1632, 3) := by decide +kernel
theorem dL_law_1239 : decode cL_law 1239 = .ok (.aload_n 1, 1) := by decide +kernel
theorem dL_law_1240 : decode cL_law 1240 = .ok (.aload_n 0, 1) := by decide +kernel
theorem dL_law_1241 : decode cL_law 1241 = .ok (.iload 4, 2) := by decide +kernel
theorem dL_law_1243 : decode cL_law 1243 = .ok (.iconst 1, 1) := by decide +kernel
theorem dL_law_1244 : decode cL_law 1244 = .ok (.iadd, 1) := by decide +kernel
theorem dL_law_1245 : decode cL_law 1245 = .ok (.iaload, 1) := by decide +kernel
theorem dL_law_1246 : decode cL_law 1246 = .ok (.aload_n 3, 1) := by decide +kernel
theorem dL_law_1247 : decode cL_law 1247 = .ok (.invokestatic 201, 3) := by decide +kernel
theorem dL_law_1250 : decode cL_law 1250 = .ok (.istore 5, 2) := by decide +kernel
theorem dL_law_1252 : decode cL_law 1252 = .ok (.aload_n 2, 1) := by decide +kernel
theorem dL_law_1253 : decode cL_law 1253 = .ok (.aload_n 0, 1) := by decide +kernel
theorem dL_law_1254 : decode cL_law 1254 = .ok (.iload 4, 2) := by decide +kernel
theorem dL_law_1256 : decode cL_law 1256 = .ok (.iconst 1, 1) := by decide +kernel
theorem dL_law_1257 : decode cL_law 1257 = .ok (.iadd, 1) := by decide +kernel
theorem dL_law_1258 : decode cL_law 1258 = .ok (.iaload, 1) := by decide +kernel
theorem dL_law_1259 : decode cL_law 1259 = .ok (.invokevirtual 203, 3) := by decide +kernel
theorem dL_law_1262 : decode cL_law 1262 = .ok (.istore 6, 2) := by decide +kernel
theorem dL_law_1264 : decode cL_law 1264 = .ok (.aload_n 2, 1) := by decide +kernel
theorem dL_law_1265 : decode cL_law 1265 = .ok (.invokevirtual 146, 3) := by decide +kernel
theorem dL_law_1268 : decode cL_law 1268 = .ok (.iload 5, 2) := by decide +kernel
theorem dL_law_1270 : decode cL_law 1270 = .ok (.if_icmp .eq 5, 3) := by decide +kernel
theorem dL_law_1273 : decode cL_law 1273 = .ok (.iconst 0, 1) := by decide +kernel
theorem dL_law_1274 : decode cL_law 1274 = .ok (.ireturn, 1) := by decide +kernel
theorem dL_law_1275 : decode cL_law 1275 = .ok (.iload 5, 2) := by decide +kernel
theorem dL_law_1277 : decode cL_law 1277 = .ok (.ifCond .ne 22, 3) := by decide +kernel
theorem dL_law_1280 : decode cL_law 1280 = .ok (.aload_n 3, 1) := by decide +kernel
theorem dL_law_1281 : decode cL_law 1281 = .ok (.iconst 0, 1) := by decide +kernel
theorem dL_law_1282 : decode cL_law 1282 = .ok (.laload, 1) := by decide +kernel
theorem dL_law_1283 : decode cL_law 1283 = .ok (.iload 6, 2) := by decide +kernel
theorem dL_law_1285 : decode cL_law 1285 = .ok (.ifCond .eq 7, 3) := by decide +kernel
theorem dL_law_1288 : decode cL_law 1288 = .ok (.lconst 1, 1) := by decide +kernel
theorem dL_law_1289 : decode cL_law 1289 = .ok (.goto 4, 3) := by decide +kernel
theorem dL_law_1292 : decode cL_law 1292 = .ok (.lconst 0, 1) := by decide +kernel
theorem dL_law_1293 : decode cL_law 1293 = .ok (.lcmp, 1) := by decide +kernel
theorem dL_law_1294 : decode cL_law 1294 = .ok (.ifCond .eq 5, 3) := by decide +kernel
theorem dL_law_1297 : decode cL_law 1297 = .ok (.iconst 0, 1) := by decide +kernel
theorem dL_law_1298 : decode cL_law 1298 = .ok (.ireturn, 1) := by decide +kernel
theorem dL_law_1299 : decode cL_law 1299 = .ok (.goto 1569, 3) := by decide +kernel
theorem dL_law_1302 : decode cL_law 1302 = .ok (.aload_n 1, 1) := by decide +kernel
theorem dL_law_1303 : decode cL_law 1303 = .ok (.aload_n 0, 1) := by decide +kernel
theorem dL_law_1304 : decode cL_law 1304 = .ok (.iload 4, 2) := by decide +kernel
theorem dL_law_1306 : decode cL_law 1306 = .ok (.iconst 1, 1) := by decide +kernel
theorem dL_law_1307 : decode cL_law 1307 = .ok (.iadd, 1) := by decide +kernel
theorem dL_law_1308 : decode cL_law 1308 = .ok (.iaload, 1) := by decide +kernel
theorem dL_law_1309 : decode cL_law 1309 = .ok (.aload_n 3, 1) := by decide +kernel
theorem dL_law_1310 : decode cL_law 1310 = .ok (.invokestatic 204, 3) := by decide +kernel
theorem dL_law_1313 : decode cL_law 1313 = .ok (.istore 5, 2) := by decide +kernel
theorem dL_law_1315 : decode cL_law 1315 = .ok (.aload_n 2, 1) := by decide +kernel
theorem dL_law_1316 : decode cL_law 1316 = .ok (.aload_n 0, 1) := by decide +kernel
theorem dL_law_1317 : decode cL_law 1317 = .ok (.iload 4, 2) := by decide +kernel
theorem dL_law_1319 : decode cL_law 1319 = .ok (.iconst 1, 1) := by decide +kernel
theorem dL_law_1320 : decode cL_law 1320 = .ok (.iadd, 1) := by decide +kernel
theorem dL_law_1321 : decode cL_law 1321 = .ok (.iaload, 1) := by decide +kernel
theorem dL_law_1322 : decode cL_law 1322 = .ok (.invokevirtual 206, 3) := by decide +kernel
theorem dL_law_1325 : decode cL_law 1325 = .ok (.istore 6, 2) := by decide +kernel
theorem dL_law_1327 : decode cL_law 1327 = .ok (.aload_n 2, 1) := by decide +kernel
theorem dL_law_1328 : decode cL_law 1328 = .ok (.invokevirtual 146, 3) := by decide +kernel
theorem dL_law_1331 : decode cL_law 1331 = .ok (.iload 5, 2) := by decide +kernel
theorem dL_law_1333 : decode cL_law 1333 = .ok (.if_icmp .eq 5, 3) := by decide +kernel
theorem dL_law_1336 : decode cL_law 1336 = .ok (.iconst 0, 1) := by decide +kernel
theorem dL_law_1337 : decode cL_law 1337 = .ok (.ireturn, 1) := by decide +kernel
theorem dL_law_1338 : decode cL_law 1338 = .ok (.iload 5, 2) := by decide +kernel
theorem dL_law_1340 : decode cL_law 1340 = .ok (.ifCond .ne 22, 3) := by decide +kernel
theorem dL_law_1343 : decode cL_law 1343 = .ok (.aload_n 3, 1) := by decide +kernel
theorem dL_law_1344 : decode cL_law 1344 = .ok (.iconst 0, 1) := by decide +kernel
theorem dL_law_1345 : decode cL_law 1345 = .ok (.laload, 1) := by decide +kernel
theorem dL_law_1346 : decode cL_law 1346 = .ok (.iload 6, 2) := by decide +kernel
theorem dL_law_1348 : decode cL_law 1348 = .ok (.ifCond .eq 7, 3) := by decide +kernel
theorem dL_law_1351 : decode cL_law 1351 = .ok (.lconst 1, 1) := by decide +kernel
theorem dL_law_1352 : decode cL_law 1352 = .ok (.goto 4, 3) := by decide +kernel
theorem dL_law_1355 : decode cL_law 1355 = .ok (.lconst 0, 1) := by decide +kernel
theorem dL_law_1356 : decode cL_law 1356 = .ok (.lcmp, 1) := by decide +kernel
theorem dL_law_1357 : decode cL_law 1357 = .ok (.ifCond .eq 5, 3) := by decide +kernel
theorem dL_law_1360 : decode cL_law 1360 = .ok (.iconst 0, 1) := by decide +kernel
theorem dL_law_1361 : decode cL_law 1361 = .ok (.ireturn, 1) := by decide +kernel
theorem dL_law_1362 : decode cL_law 1362 = .ok (.goto 1506, 3) := by decide +kernel
theorem dL_law_1365 : decode cL_law 1365 = .ok (.aload_n 1, 1) := by decide +kernel
theorem dL_law_1366 : decode cL_law 1366 = .ok (.aload_n 0, 1) := by decide +kernel
theorem dL_law_1367 : decode cL_law 1367 = .ok (.iload 4, 2) := by decide +kernel
theorem dL_law_1369 : decode cL_law 1369 = .ok (.iconst 1, 1) := by decide +kernel
theorem dL_law_1370 : decode cL_law 1370 = .ok (.iadd, 1) := by decide +kernel
theorem dL_law_1371 : decode cL_law 1371 = .ok (.iaload, 1) := by decide +kernel
theorem dL_law_1372 : decode cL_law 1372 = .ok (.aload_n 3, 1) := by decide +kernel
theorem dL_law_1373 : decode cL_law 1373 = .ok (.invokestatic 207, 3) := by decide +kernel
theorem dL_law_1376 : decode cL_law 1376 = .ok (.istore 5, 2) := by decide +kernel
theorem dL_law_1378 : decode cL_law 1378 = .ok (.aload_n 2, 1) := by decide +kernel
theorem dL_law_1379 : decode cL_law 1379 = .ok (.aload_n 0, 1) := by decide +kernel
theorem dL_law_1380 : decode cL_law 1380 = .ok (.iload 4, 2) := by decide +kernel
theorem dL_law_1382 : decode cL_law 1382 = .ok (.iconst 1, 1) := by decide +kernel
theorem dL_law_1383 : decode cL_law 1383 = .ok (.iadd, 1) := by decide +kernel
theorem dL_law_1384 : decode cL_law 1384 = .ok (.iaload, 1) := by decide +kernel
theorem dL_law_1385 : decode cL_law 1385 = .ok (.invokevirtual 209, 3) := by decide +kernel
theorem dL_law_1388 : decode cL_law 1388 = .ok (.istore 6, 2) := by decide +kernel
theorem dL_law_1390 : decode cL_law 1390 = .ok (.aload_n 2, 1) := by decide +kernel
theorem dL_law_1391 : decode cL_law 1391 = .ok (.invokevirtual 146, 3) := by decide +kernel
theorem dL_law_1394 : decode cL_law 1394 = .ok (.iload 5, 2) := by decide +kernel
theorem dL_law_1396 : decode cL_law 1396 = .ok (.if_icmp .eq 5, 3) := by decide +kernel
theorem dL_law_1399 : decode cL_law 1399 = .ok (.iconst 0, 1) := by decide +kernel
theorem dL_law_1400 : decode cL_law 1400 = .ok (.ireturn, 1) := by decide +kernel
theorem dL_law_1401 : decode cL_law 1401 = .ok (.iload 5, 2) := by decide +kernel
theorem dL_law_1403 : decode cL_law 1403 = .ok (.ifCond .ne 15, 3) := by decide +kernel
theorem dL_law_1406 : decode cL_law 1406 = .ok (.aload_n 3, 1) := by decide +kernel
theorem dL_law_1407 : decode cL_law 1407 = .ok (.iconst 0, 1) := by decide +kernel
theorem dL_law_1408 : decode cL_law 1408 = .ok (.laload, 1) := by decide +kernel
theorem dL_law_1409 : decode cL_law 1409 = .ok (.iload 6, 2) := by decide +kernel
theorem dL_law_1411 : decode cL_law 1411 = .ok (.i2l, 1) := by decide +kernel
theorem dL_law_1412 : decode cL_law 1412 = .ok (.lcmp, 1) := by decide +kernel
theorem dL_law_1413 : decode cL_law 1413 = .ok (.ifCond .eq 5, 3) := by decide +kernel
theorem dL_law_1416 : decode cL_law 1416 = .ok (.iconst 0, 1) := by decide +kernel
theorem dL_law_1417 : decode cL_law 1417 = .ok (.ireturn, 1) := by decide +kernel
theorem dL_law_1418 : decode cL_law 1418 = .ok (.goto 1450, 3) := by decide +kernel
theorem dL_law_1421 : decode cL_law 1421 = .ok (.aload_n 1, 1) := by decide +kernel
theorem dL_law_1422 : decode cL_law 1422 = .ok (.aload_n 0, 1) := by decide +kernel
theorem dL_law_1423 : decode cL_law 1423 = .ok (.iload 4, 2) := by decide +kernel
theorem dL_law_1425 : decode cL_law 1425 = .ok (.iconst 1, 1) := by decide +kernel
theorem dL_law_1426 : decode cL_law 1426 = .ok (.iadd, 1) := by decide +kernel
theorem dL_law_1427 : decode cL_law 1427 = .ok (.iaload, 1) := by decide +kernel
theorem dL_law_1428 : decode cL_law 1428 = .ok (.aload_n 3, 1) := by decide +kernel
theorem dL_law_1429 : decode cL_law 1429 = .ok (.invokestatic 210, 3) := by decide +kernel
theorem dL_law_1432 : decode cL_law 1432 = .ok (.istore 5, 2) := by decide +kernel
theorem dL_law_1434 : decode cL_law 1434 = .ok (.aload_n 2, 1) := by decide +kernel
theorem dL_law_1435 : decode cL_law 1435 = .ok (.aload_n 0, 1) := by decide +kernel
theorem dL_law_1436 : decode cL_law 1436 = .ok (.iload 4, 2) := by decide +kernel
theorem dL_law_1438 : decode cL_law 1438 = .ok (.iconst 1, 1) := by decide +kernel
theorem dL_law_1439 : decode cL_law 1439 = .ok (.iadd, 1) := by decide +kernel
theorem dL_law_1440 : decode cL_law 1440 = .ok (.iaload, 1) := by decide +kernel
theorem dL_law_1441 : decode cL_law 1441 = .ok (.invokevirtual 212, 3) := by decide +kernel
theorem dL_law_1444 : decode cL_law 1444 = .ok (.istore 6, 2) := by decide +kernel
theorem dL_law_1446 : decode cL_law 1446 = .ok (.aload_n 2, 1) := by decide +kernel
theorem dL_law_1447 : decode cL_law 1447 = .ok (.invokevirtual 146, 3) := by decide +kernel
theorem dL_law_1450 : decode cL_law 1450 = .ok (.iload 5, 2) := by decide +kernel
theorem dL_law_1452 : decode cL_law 1452 = .ok (.if_icmp .eq 5, 3) := by decide +kernel
theorem dL_law_1455 : decode cL_law 1455 = .ok (.iconst 0, 1) := by decide +kernel
theorem dL_law_1456 : decode cL_law 1456 = .ok (.ireturn, 1) := by decide +kernel
theorem dL_law_1457 : decode cL_law 1457 = .ok (.iload 5, 2) := by decide +kernel
theorem dL_law_1459 : decode cL_law 1459 = .ok (.ifCond .ne 15, 3) := by decide +kernel
theorem dL_law_1462 : decode cL_law 1462 = .ok (.aload_n 3, 1) := by decide +kernel
theorem dL_law_1463 : decode cL_law 1463 = .ok (.iconst 0, 1) := by decide +kernel
theorem dL_law_1464 : decode cL_law 1464 = .ok (.laload, 1) := by decide +kernel
theorem dL_law_1465 : decode cL_law 1465 = .ok (.iload 6, 2) := by decide +kernel
theorem dL_law_1467 : decode cL_law 1467 = .ok (.i2l, 1) := by decide +kernel
theorem dL_law_1468 : decode cL_law 1468 = .ok (.lcmp, 1) := by decide +kernel
theorem dL_law_1469 : decode cL_law 1469 = .ok (.ifCond .eq 5, 3) := by decide +kernel
theorem dL_law_1472 : decode cL_law 1472 = .ok (.iconst 0, 1) := by decide +kernel
theorem dL_law_1473 : decode cL_law 1473 = .ok (.ireturn, 1) := by decide +kernel
theorem dL_law_1474 : decode cL_law 1474 = .ok (.goto 1394, 3) := by decide +kernel
theorem dL_law_1477 : decode cL_law 1477 = .ok (.aload_n 1, 1) := by decide +kernel
theorem dL_law_1478 : decode cL_law 1478 = .ok (.aload_n 0, 1) := by decide +kernel
theorem dL_law_1479 : decode cL_law 1479 = .ok (.iload 4, 2) := by decide +kernel
theorem dL_law_1481 : decode cL_law 1481 = .ok (.iconst 1, 1) := by decide +kernel
theorem dL_law_1482 : decode cL_law 1482 = .ok (.iadd, 1) := by decide +kernel
theorem dL_law_1483 : decode cL_law 1483 = .ok (.iaload, 1) := by decide +kernel
theorem dL_law_1484 : decode cL_law 1484 = .ok (.aload_n 0, 1) := by decide +kernel
theorem dL_law_1485 : decode cL_law 1485 = .ok (.iload 4, 2) := by decide +kernel
theorem dL_law_1487 : decode cL_law 1487 = .ok (.iconst 2, 1) := by decide +kernel
theorem dL_law_1488 : decode cL_law 1488 = .ok (.iadd, 1) := by decide +kernel
theorem dL_law_1489 : decode cL_law 1489 = .ok (.iaload, 1) := by decide +kernel
theorem dL_law_1490 : decode cL_law 1490 = .ok (.aload_n 3, 1) := by decide +kernel
theorem dL_law_1491 : decode cL_law 1491 = .ok (.invokestatic 213, 3) := by decide +kernel
theorem dL_law_1494 : decode cL_law 1494 = .ok (.istore 5, 2) := by decide +kernel
theorem dL_law_1496 : decode cL_law 1496 = .ok (.aload_n 2, 1) := by decide +kernel
theorem dL_law_1497 : decode cL_law 1497 = .ok (.aload_n 0, 1) := by decide +kernel
theorem dL_law_1498 : decode cL_law 1498 = .ok (.iload 4, 2) := by decide +kernel
theorem dL_law_1500 : decode cL_law 1500 = .ok (.iconst 1, 1) := by decide +kernel
theorem dL_law_1501 : decode cL_law 1501 = .ok (.iadd, 1) := by decide +kernel
theorem dL_law_1502 : decode cL_law 1502 = .ok (.iaload, 1) := by decide +kernel
theorem dL_law_1503 : decode cL_law 1503 = .ok (.aload_n 0, 1) := by decide +kernel
theorem dL_law_1504 : decode cL_law 1504 = .ok (.iload 4, 2) := by decide +kernel
theorem dL_law_1506 : decode cL_law 1506 = .ok (.iconst 2, 1) := by decide +kernel
theorem dL_law_1507 : decode cL_law 1507 = .ok (.iadd, 1) := by decide +kernel
theorem dL_law_1508 : decode cL_law 1508 = .ok (.iaload, 1) := by decide +kernel
theorem dL_law_1509 : decode cL_law 1509 = .ok (.invokevirtual 215, 3) := by decide +kernel
theorem dL_law_1512 : decode cL_law 1512 = .ok (.istore 6, 2) := by decide +kernel
theorem dL_law_1514 : decode cL_law 1514 = .ok (.aload_n 2, 1) := by decide +kernel
theorem dL_law_1515 : decode cL_law 1515 = .ok (.invokevirtual 146, 3) := by decide +kernel
theorem dL_law_1518 : decode cL_law 1518 = .ok (.iload 5, 2) := by decide +kernel
theorem dL_law_1520 : decode cL_law 1520 = .ok (.if_icmp .eq 5, 3) := by decide +kernel
theorem dL_law_1523 : decode cL_law 1523 = .ok (.iconst 0, 1) := by decide +kernel
theorem dL_law_1524 : decode cL_law 1524 = .ok (.ireturn, 1) := by decide +kernel
theorem dL_law_1525 : decode cL_law 1525 = .ok (.iload 5, 2) := by decide +kernel
theorem dL_law_1527 : decode cL_law 1527 = .ok (.ifCond .ne 15, 3) := by decide +kernel
theorem dL_law_1530 : decode cL_law 1530 = .ok (.aload_n 3, 1) := by decide +kernel
theorem dL_law_1531 : decode cL_law 1531 = .ok (.iconst 0, 1) := by decide +kernel
theorem dL_law_1532 : decode cL_law 1532 = .ok (.laload, 1) := by decide +kernel
theorem dL_law_1533 : decode cL_law 1533 = .ok (.iload 6, 2) := by decide +kernel
theorem dL_law_1535 : decode cL_law 1535 = .ok (.i2l, 1) := by decide +kernel
theorem dL_law_1536 : decode cL_law 1536 = .ok (.lcmp, 1) := by decide +kernel
theorem dL_law_1537 : decode cL_law 1537 = .ok (.ifCond .eq 5, 3) := by decide +kernel
theorem dL_law_1540 : decode cL_law 1540 = .ok (.iconst 0, 1) := by decide +kernel
theorem dL_law_1541 : decode cL_law 1541 = .ok (.ireturn, 1) := by decide +kernel
theorem dL_law_1542 : decode cL_law 1542 = .ok (.goto 1326, 3) := by decide +kernel
theorem dL_law_1545 : decode cL_law 1545 = .ok (.aload_n 1, 1) := by decide +kernel
theorem dL_law_1546 : decode cL_law 1546 = .ok (.aload_n 0, 1) := by decide +kernel
theorem dL_law_1547 : decode cL_law 1547 = .ok (.iload 4, 2) := by decide +kernel
theorem dL_law_1549 : decode cL_law 1549 = .ok (.iconst 1, 1) := by decide +kernel
theorem dL_law_1550 : decode cL_law 1550 = .ok (.iadd, 1) := by decide +kernel
theorem dL_law_1551 : decode cL_law 1551 = .ok (.iaload, 1) := by decide +kernel
theorem dL_law_1552 : decode cL_law 1552 = .ok (.aload_n 0, 1) := by decide +kernel
theorem dL_law_1553 : decode cL_law 1553 = .ok (.iload 4, 2) := by decide +kernel
theorem dL_law_1555 : decode cL_law 1555 = .ok (.iconst 2, 1) := by decide +kernel
theorem dL_law_1556 : decode cL_law 1556 = .ok (.iadd, 1) := by decide +kernel
theorem dL_law_1557 : decode cL_law 1557 = .ok (.iaload, 1) := by decide +kernel
theorem dL_law_1558 : decode cL_law 1558 = .ok (.aload_n 0, 1) := by decide +kernel
theorem dL_law_1559 : decode cL_law 1559 = .ok (.iload 4, 2) := by decide +kernel
theorem dL_law_1561 : decode cL_law 1561 = .ok (.iconst 3, 1) := by decide +kernel
theorem dL_law_1562 : decode cL_law 1562 = .ok (.iadd, 1) := by decide +kernel
theorem dL_law_1563 : decode cL_law 1563 = .ok (.iaload, 1) := by decide +kernel
theorem dL_law_1564 : decode cL_law 1564 = .ok (.aload_n 3, 1) := by decide +kernel
theorem dL_law_1565 : decode cL_law 1565 = .ok (.invokestatic 216, 3) := by decide +kernel
theorem dL_law_1568 : decode cL_law 1568 = .ok (.istore 5, 2) := by decide +kernel
theorem dL_law_1570 : decode cL_law 1570 = .ok (.aload_n 2, 1) := by decide +kernel
theorem dL_law_1571 : decode cL_law 1571 = .ok (.aload_n 0, 1) := by decide +kernel
theorem dL_law_1572 : decode cL_law 1572 = .ok (.iload 4, 2) := by decide +kernel
theorem dL_law_1574 : decode cL_law 1574 = .ok (.iconst 1, 1) := by decide +kernel
theorem dL_law_1575 : decode cL_law 1575 = .ok (.iadd, 1) := by decide +kernel
theorem dL_law_1576 : decode cL_law 1576 = .ok (.iaload, 1) := by decide +kernel
theorem dL_law_1577 : decode cL_law 1577 = .ok (.aload_n 0, 1) := by decide +kernel
theorem dL_law_1578 : decode cL_law 1578 = .ok (.iload 4, 2) := by decide +kernel
theorem dL_law_1580 : decode cL_law 1580 = .ok (.iconst 2, 1) := by decide +kernel
theorem dL_law_1581 : decode cL_law 1581 = .ok (.iadd, 1) := by decide +kernel
theorem dL_law_1582 : decode cL_law 1582 = .ok (.iaload, 1) := by decide +kernel
theorem dL_law_1583 : decode cL_law 1583 = .ok (.aload_n 0, 1) := by decide +kernel
theorem dL_law_1584 : decode cL_law 1584 = .ok (.iload 4, 2) := by decide +kernel
theorem dL_law_1586 : decode cL_law 1586 = .ok (.iconst 3, 1) := by decide +kernel
theorem dL_law_1587 : decode cL_law 1587 = .ok (.iadd, 1) := by decide +kernel
theorem dL_law_1588 : decode cL_law 1588 = .ok (.iaload, 1) := by decide +kernel
theorem dL_law_1589 : decode cL_law 1589 = .ok (.invokevirtual 218, 3) := by decide +kernel
theorem dL_law_1592 : decode cL_law 1592 = .ok (.istore 6, 2) := by decide +kernel
theorem dL_law_1594 : decode cL_law 1594 = .ok (.aload_n 2, 1) := by decide +kernel
theorem dL_law_1595 : decode cL_law 1595 = .ok (.invokevirtual 146, 3) := by decide +kernel
theorem dL_law_1598 : decode cL_law 1598 = .ok (.iload 5, 2) := by decide +kernel
theorem dL_law_1600 : decode cL_law 1600 = .ok (.if_icmp .eq 5, 3) := by decide +kernel
theorem dL_law_1603 : decode cL_law 1603 = .ok (.iconst 0, 1) := by decide +kernel
theorem dL_law_1604 : decode cL_law 1604 = .ok (.ireturn, 1) := by decide +kernel
theorem dL_law_1605 : decode cL_law 1605 = .ok (.iload 5, 2) := by decide +kernel
theorem dL_law_1607 : decode cL_law 1607 = .ok (.ifCond .ne 22, 3) := by decide +kernel
theorem dL_law_1610 : decode cL_law 1610 = .ok (.aload_n 3, 1) := by decide +kernel
theorem dL_law_1611 : decode cL_law 1611 = .ok (.iconst 0, 1) := by decide +kernel
theorem dL_law_1612 : decode cL_law 1612 = .ok (.laload, 1) := by decide +kernel
theorem dL_law_1613 : decode cL_law 1613 = .ok (.iload 6, 2) := by decide +kernel
theorem dL_law_1615 : decode cL_law 1615 = .ok (.ifCond .eq 7, 3) := by decide +kernel
theorem dL_law_1618 : decode cL_law 1618 = .ok (.lconst 1, 1) := by decide +kernel
theorem dL_law_1619 : decode cL_law 1619 = .ok (.goto 4, 3) := by decide +kernel
theorem dL_law_1622 : decode cL_law 1622 = .ok (.lconst 0, 1) := by decide +kernel
theorem dL_law_1623 : decode cL_law 1623 = .ok (.lcmp, 1) := by decide +kernel
theorem dL_law_1624 : decode cL_law 1624 = .ok (.ifCond .eq 5, 3) := by decide +kernel
theorem dL_law_1627 : decode cL_law 1627 = .ok (.iconst 0, 1) := by decide +kernel
theorem dL_law_1628 : decode cL_law 1628 = .ok (.ireturn, 1) := by decide +kernel
theorem dL_law_1629 : decode cL_law 1629 = .ok (.goto 1239, 3) := by decide +kernel
theorem dL_law_1632 : decode cL_law 1632 = .ok (.aload_n 1, 1) := by decide +kernel
theorem dL_law_1633 : decode cL_law 1633 = .ok (.aload_n 0, 1) := by decide +kernel
theorem dL_law_1634 : decode cL_law 1634 = .ok (.iload 4, 2) := by decide +kernel
theorem dL_law_1636 : decode cL_law 1636 = .ok (.iconst 1, 1) := by decide +kernel
theorem dL_law_1637 : decode cL_law 1637 = .ok (.iadd, 1) := by decide +kernel
theorem dL_law_1638 : decode cL_law 1638 = .ok (.iaload, 1) := by decide +kernel
theorem dL_law_1639 : decode cL_law 1639 = .ok (.aload_n 0, 1) := by decide +kernel
theorem dL_law_1640 : decode cL_law 1640 = .ok (.iload 4, 2) := by decide +kernel
theorem dL_law_1642 : decode cL_law 1642 = .ok (.iconst 2, 1) := by decide +kernel
theorem dL_law_1643 : decode cL_law 1643 = .ok (.iadd, 1) := by decide +kernel
theorem dL_law_1644 : decode cL_law 1644 = .ok (.iaload, 1) := by decide +kernel
theorem dL_law_1645 : decode cL_law 1645 = .ok (.aload_n 3, 1) := by decide +kernel
theorem dL_law_1646 : decode cL_law 1646 = .ok (.invokestatic 219, 3) := by decide +kernel
theorem dL_law_1649 : decode cL_law 1649 = .ok (.istore 5, 2) := by decide +kernel
theorem dL_law_1651 : decode cL_law 1651 = .ok (.aload_n 2, 1) := by decide +kernel
theorem dL_law_1652 : decode cL_law 1652 = .ok (.aload_n 0, 1) := by decide +kernel
theorem dL_law_1653 : decode cL_law 1653 = .ok (.iload 4, 2) := by decide +kernel
theorem dL_law_1655 : decode cL_law 1655 = .ok (.iconst 1, 1) := by decide +kernel
theorem dL_law_1656 : decode cL_law 1656 = .ok (.iadd, 1) := by decide +kernel
theorem dL_law_1657 : decode cL_law 1657 = .ok (.iaload, 1) := by decide +kernel
theorem dL_law_1658 : decode cL_law 1658 = .ok (.aload_n 0, 1) := by decide +kernel
theorem dL_law_1659 : decode cL_law 1659 = .ok (.iload 4, 2) := by decide +kernel
theorem dL_law_1661 : decode cL_law 1661 = .ok (.iconst 2, 1) := by decide +kernel
theorem dL_law_1662 : decode cL_law 1662 = .ok (.iadd, 1) := by decide +kernel
theorem dL_law_1663 : decode cL_law 1663 = .ok (.iaload, 1) := by decide +kernel
theorem dL_law_1664 : decode cL_law 1664 = .ok (.invokevirtual 221, 3) := by decide +kernel
theorem dL_law_1667 : decode cL_law 1667 = .ok (.istore 6, 2) := by decide +kernel
theorem dL_law_1669 : decode cL_law 1669 = .ok (.aload_n 2, 1) := by decide +kernel
theorem dL_law_1670 : decode cL_law 1670 = .ok (.invokevirtual 146, 3) := by decide +kernel
theorem dL_law_1673 : decode cL_law 1673 = .ok (.iload 5, 2) := by decide +kernel
theorem dL_law_1675 : decode cL_law 1675 = .ok (.if_icmp .eq 5, 3) := by decide +kernel
theorem dL_law_1678 : decode cL_law 1678 = .ok (.iconst 0, 1) := by decide +kernel
theorem dL_law_1679 : decode cL_law 1679 = .ok (.ireturn, 1) := by decide +kernel
theorem dL_law_1680 : decode cL_law 1680 = .ok (.iload 5, 2) := by decide +kernel
theorem dL_law_1682 : decode cL_law 1682 = .ok (.ifCond .ne 15, 3) := by decide +kernel
theorem dL_law_1685 : decode cL_law 1685 = .ok (.aload_n 3, 1) := by decide +kernel
theorem dL_law_1686 : decode cL_law 1686 = .ok (.iconst 0, 1) := by decide +kernel
theorem dL_law_1687 : decode cL_law 1687 = .ok (.laload, 1) := by decide +kernel
theorem dL_law_1688 : decode cL_law 1688 = .ok (.iload 6, 2) := by decide +kernel
theorem dL_law_1690 : decode cL_law 1690 = .ok (.i2l, 1) := by decide +kernel
theorem dL_law_1691 : decode cL_law 1691 = .ok (.lcmp, 1) := by decide +kernel
theorem dL_law_1692 : decode cL_law 1692 = .ok (.ifCond .eq 5, 3) := by decide +kernel
theorem dL_law_1695 : decode cL_law 1695 = .ok (.iconst 0, 1) := by decide +kernel
theorem dL_law_1696 : decode cL_law 1696 = .ok (.ireturn, 1) := by decide +kernel
theorem dL_law_1697 : decode cL_law 1697 = .ok (.goto 1171, 3) := by decide +kernel
theorem dL_law_1700 : decode cL_law 1700 = .ok (.aload_n 1, 1) := by decide +kernel
theorem dL_law_1701 : decode cL_law 1701 = .ok (.invokevirtual 222, 3) := by decide +kernel
theorem dL_law_1704 : decode cL_law 1704 = .ok (.aload_n 2, 1) := by decide +kernel
theorem dL_law_1705 : decode cL_law 1705 = .ok (.invokevirtual 226, 3) := by decide +kernel
theorem dL_law_1708 : decode cL_law 1708 = .ok (.lcmp, 1) := by decide +kernel
theorem dL_law_1709 : decode cL_law 1709 = .ok (.ifCond .eq 1159, 3) := by decide +kernel
theorem dL_law_1712 : decode cL_law 1712 = .ok (.iconst 0, 1) := by decide +kernel
theorem dL_law_1713 : decode cL_law 1713 = .ok (.ireturn, 1) := by decide +kernel
theorem dL_law_1714 : decode cL_law 1714 = .ok (.aload_n 1, 1) := by decide +kernel
theorem dL_law_1715 : decode cL_law 1715 = .ok (.aload_n 0, 1) := by decide +kernel
theorem dL_law_1716 : decode cL_law 1716 = .ok (.iload 4, 2) := by decide +kernel
theorem dL_law_1718 : decode cL_law 1718 = .ok (.iconst 1, 1) := by decide +kernel
theorem dL_law_1719 : decode cL_law 1719 = .ok (.iadd, 1) := by decide +kernel
theorem dL_law_1720 : decode cL_law 1720 = .ok (.iaload, 1) := by decide +kernel
theorem dL_law_1721 : decode cL_law 1721 = .ok (.aload_n 0, 1) := by decide +kernel
theorem dL_law_1722 : decode cL_law 1722 = .ok (.iload 4, 2) := by decide +kernel
theorem dL_law_1724 : decode cL_law 1724 = .ok (.iconst 2, 1) := by decide +kernel
theorem dL_law_1725 : decode cL_law 1725 = .ok (.iadd, 1) := by decide +kernel
theorem dL_law_1726 : decode cL_law 1726 = .ok (.iaload, 1) := by decide +kernel
theorem dL_law_1727 : decode cL_law 1727 = .ok (.aload_n 3, 1) := by decide +kernel
theorem dL_law_1728 : decode cL_law 1728 = .ok (.invokestatic 227, 3) := by decide +kernel
theorem dL_law_1731 : decode cL_law 1731 = .ok (.istore 5, 2) := by decide +kernel
theorem dL_law_1733 : decode cL_law 1733 = .ok (.aload_n 2, 1) := by decide +kernel
theorem dL_law_1734 : decode cL_law 1734 = .ok (.aload_n 0, 1) := by decide +kernel
theorem dL_law_1735 : decode cL_law 1735 = .ok (.iload 4, 2) := by decide +kernel
theorem dL_law_1737 : decode cL_law 1737 = .ok (.iconst 1, 1) := by decide +kernel
theorem dL_law_1738 : decode cL_law 1738 = .ok (.iadd, 1) := by decide +kernel
theorem dL_law_1739 : decode cL_law 1739 = .ok (.iaload, 1) := by decide +kernel
theorem dL_law_1740 : decode cL_law 1740 = .ok (.aload_n 0, 1) := by decide +kernel
theorem dL_law_1741 : decode cL_law 1741 = .ok (.iload 4, 2) := by decide +kernel
theorem dL_law_1743 : decode cL_law 1743 = .ok (.iconst 2, 1) := by decide +kernel
theorem dL_law_1744 : decode cL_law 1744 = .ok (.iadd, 1) := by decide +kernel
theorem dL_law_1745 : decode cL_law 1745 = .ok (.iaload, 1) := by decide +kernel
theorem dL_law_1746 : decode cL_law 1746 = .ok (.invokevirtual 229, 3) := by decide +kernel
theorem dL_law_1749 : decode cL_law 1749 = .ok (.istore 6, 2) := by decide +kernel
theorem dL_law_1751 : decode cL_law 1751 = .ok (.aload_n 2, 1) := by decide +kernel
theorem dL_law_1752 : decode cL_law 1752 = .ok (.invokevirtual 146, 3) := by decide +kernel
theorem dL_law_1755 : decode cL_law 1755 = .ok (.iload 5, 2) := by decide +kernel
theorem dL_law_1757 : decode cL_law 1757 = .ok (.if_icmp .eq 5, 3) := by decide +kernel
theorem dL_law_1760 : decode cL_law 1760 = .ok (.iconst 0, 1) := by decide +kernel
theorem dL_law_1761 : decode cL_law 1761 = .ok (.ireturn, 1) := by decide +kernel
theorem dL_law_1762 : decode cL_law 1762 = .ok (.iload 5, 2) := by decide +kernel
theorem dL_law_1764 : decode cL_law 1764 = .ok (.ifCond .ne 22, 3) := by decide +kernel
theorem dL_law_1767 : decode cL_law 1767 = .ok (.aload_n 3, 1) := by decide +kernel
theorem dL_law_1768 : decode cL_law 1768 = .ok (.iconst 0, 1) := by decide +kernel
theorem dL_law_1769 : decode cL_law 1769 = .ok (.laload, 1) := by decide +kernel
theorem dL_law_1770 : decode cL_law 1770 = .ok (.iload 6, 2) := by decide +kernel
theorem dL_law_1772 : decode cL_law 1772 = .ok (.ifCond .eq 7, 3) := by decide +kernel
theorem dL_law_1775 : decode cL_law 1775 = .ok (.lconst 1, 1) := by decide +kernel
theorem dL_law_1776 : decode cL_law 1776 = .ok (.goto 4, 3) := by decide +kernel
theorem dL_law_1779 : decode cL_law 1779 = .ok (.lconst 0, 1) := by decide +kernel
theorem dL_law_1780 : decode cL_law 1780 = .ok (.lcmp, 1) := by decide +kernel
theorem dL_law_1781 : decode cL_law 1781 = .ok (.ifCond .eq 5, 3) := by decide +kernel
theorem dL_law_1784 : decode cL_law 1784 = .ok (.iconst 0, 1) := by decide +kernel
theorem dL_law_1785 : decode cL_law 1785 = .ok (.ireturn, 1) := by decide +kernel
theorem dL_law_1786 : decode cL_law 1786 = .ok (.goto 1082, 3) := by decide +kernel
theorem dL_law_1789 : decode cL_law 1789 = .ok (.aload_n 1, 1) := by decide +kernel
theorem dL_law_1790 : decode cL_law 1790 = .ok (.aload_n 0, 1) := by decide +kernel
theorem dL_law_1791 : decode cL_law 1791 = .ok (.iload 4, 2) := by decide +kernel
theorem dL_law_1793 : decode cL_law 1793 = .ok (.iconst 1, 1) := by decide +kernel
theorem dL_law_1794 : decode cL_law 1794 = .ok (.iadd, 1) := by decide +kernel
theorem dL_law_1795 : decode cL_law 1795 = .ok (.iaload, 1) := by decide +kernel
theorem dL_law_1796 : decode cL_law 1796 = .ok (.aload_n 0, 1) := by decide +kernel
theorem dL_law_1797 : decode cL_law 1797 = .ok (.iload 4, 2) := by decide +kernel
theorem dL_law_1799 : decode cL_law 1799 = .ok (.iconst 2, 1) := by decide +kernel
theorem dL_law_1800 : decode cL_law 1800 = .ok (.iadd, 1) := by decide +kernel
theorem dL_law_1801 : decode cL_law 1801 = .ok (.iaload, 1) := by decide +kernel
theorem dL_law_1802 : decode cL_law 1802 = .ok (.aload_n 0, 1) := by decide +kernel
theorem dL_law_1803 : decode cL_law 1803 = .ok (.iload 4, 2) := by decide +kernel
theorem dL_law_1805 : decode cL_law 1805 = .ok (.iconst 3, 1) := by decide +kernel
theorem dL_law_1806 : decode cL_law 1806 = .ok (.iadd, 1) := by decide +kernel
theorem dL_law_1807 : decode cL_law 1807 = .ok (.iaload, 1) := by decide +kernel
theorem dL_law_1808 : decode cL_law 1808 = .ok (.aload_n 0, 1) := by decide +kernel
theorem dL_law_1809 : decode cL_law 1809 = .ok (.iload 4, 2) := by decide +kernel
theorem dL_law_1811 : decode cL_law 1811 = .ok (.iconst 4, 1) := by decide +kernel
theorem dL_law_1812 : decode cL_law 1812 = .ok (.iadd, 1) := by decide +kernel
theorem dL_law_1813 : decode cL_law 1813 = .ok (.iaload, 1) := by decide +kernel
theorem dL_law_1814 : decode cL_law 1814 = .ok (.aload_n 0, 1) := by decide +kernel
theorem dL_law_1815 : decode cL_law 1815 = .ok (.iload 4, 2) := by decide +kernel
theorem dL_law_1817 : decode cL_law 1817 = .ok (.iconst 5, 1) := by decide +kernel
theorem dL_law_1818 : decode cL_law 1818 = .ok (.iadd, 1) := by decide +kernel
theorem dL_law_1819 : decode cL_law 1819 = .ok (.iaload, 1) := by decide +kernel
theorem dL_law_1820 : decode cL_law 1820 = .ok (.aload_n 3, 1) := by decide +kernel
theorem dL_law_1821 : decode cL_law 1821 = .ok (.invokestatic 230, 3) := by decide +kernel
theorem dL_law_1824 : decode cL_law 1824 = .ok (.istore 5, 2) := by decide +kernel
theorem dL_law_1826 : decode cL_law 1826 = .ok (.aload_n 2, 1) := by decide +kernel
theorem dL_law_1827 : decode cL_law 1827 = .ok (.aload_n 0, 1) := by decide +kernel
theorem dL_law_1828 : decode cL_law 1828 = .ok (.iload 4, 2) := by decide +kernel
theorem dL_law_1830 : decode cL_law 1830 = .ok (.iconst 1, 1) := by decide +kernel
theorem dL_law_1831 : decode cL_law 1831 = .ok (.iadd, 1) := by decide +kernel
theorem dL_law_1832 : decode cL_law 1832 = .ok (.iaload, 1) := by decide +kernel
theorem dL_law_1833 : decode cL_law 1833 = .ok (.aload_n 0, 1) := by decide +kernel
theorem dL_law_1834 : decode cL_law 1834 = .ok (.iload 4, 2) := by decide +kernel
theorem dL_law_1836 : decode cL_law 1836 = .ok (.iconst 2, 1) := by decide +kernel
theorem dL_law_1837 : decode cL_law 1837 = .ok (.iadd, 1) := by decide +kernel
theorem dL_law_1838 : decode cL_law 1838 = .ok (.iaload, 1) := by decide +kernel
theorem dL_law_1839 : decode cL_law 1839 = .ok (.aload_n 0, 1) := by decide +kernel
theorem dL_law_1840 : decode cL_law 1840 = .ok (.iload 4, 2) := by decide +kernel
theorem dL_law_1842 : decode cL_law 1842 = .ok (.iconst 3, 1) := by decide +kernel
theorem dL_law_1843 : decode cL_law 1843 = .ok (.iadd, 1) := by decide +kernel
theorem dL_law_1844 : decode cL_law 1844 = .ok (.iaload, 1) := by decide +kernel
theorem dL_law_1845 : decode cL_law 1845 = .ok (.aload_n 0, 1) := by decide +kernel
theorem dL_law_1846 : decode cL_law 1846 = .ok (.iload 4, 2) := by decide +kernel
theorem dL_law_1848 : decode cL_law 1848 = .ok (.iconst 4, 1) := by decide +kernel
theorem dL_law_1849 : decode cL_law 1849 = .ok (.iadd, 1) := by decide +kernel
theorem dL_law_1850 : decode cL_law 1850 = .ok (.iaload, 1) := by decide +kernel
theorem dL_law_1851 : decode cL_law 1851 = .ok (.aload_n 0, 1) := by decide +kernel
theorem dL_law_1852 : decode cL_law 1852 = .ok (.iload 4, 2) := by decide +kernel
theorem dL_law_1854 : decode cL_law 1854 = .ok (.iconst 5, 1) := by decide +kernel
theorem dL_law_1855 : decode cL_law 1855 = .ok (.iadd, 1) := by decide +kernel
theorem dL_law_1856 : decode cL_law 1856 = .ok (.iaload, 1) := by decide +kernel
theorem dL_law_1857 : decode cL_law 1857 = .ok (.invokevirtual 233, 3) := by decide +kernel
theorem dL_law_1860 : decode cL_law 1860 = .ok (.istore 6, 2) := by decide +kernel
theorem dL_law_1862 : decode cL_law 1862 = .ok (.aload_n 2, 1) := by decide +kernel
theorem dL_law_1863 : decode cL_law 1863 = .ok (.invokevirtual 146, 3) := by decide +kernel
theorem dL_law_1866 : decode cL_law 1866 = .ok (.iload 5, 2) := by decide +kernel
theorem dL_law_1868 : decode cL_law 1868 = .ok (.if_icmp .eq 5, 3) := by decide +kernel
theorem dL_law_1871 : decode cL_law 1871 = .ok (.iconst 0, 1) := by decide +kernel
theorem dL_law_1872 : decode cL_law 1872 = .ok (.ireturn, 1) := by decide +kernel
theorem dL_law_1873 : decode cL_law 1873 = .ok (.iload 5, 2) := by decide +kernel
theorem dL_law_1875 : decode cL_law 1875 = .ok (.ifCond .ne 15, 3) := by decide +kernel
theorem dL_law_1878 : decode cL_law 1878 = .ok (.aload_n 3, 1) := by decide +kernel
theorem dL_law_1879 : decode cL_law 1879 = .ok (.iconst 0, 1) := by decide +kernel
theorem dL_law_1880 : decode cL_law 1880 = .ok (.laload, 1) := by decide +kernel
theorem dL_law_1881 : decode cL_law 1881 = .ok (.iload 6, 2) := by decide +kernel
theorem dL_law_1883 : decode cL_law 1883 = .ok (.i2l, 1) := by decide +kernel
theorem dL_law_1884 : decode cL_law 1884 = .ok (.lcmp, 1) := by decide +kernel
theorem dL_law_1885 : decode cL_law 1885 = .ok (.ifCond .eq 5, 3) := by decide +kernel
theorem dL_law_1888 : decode cL_law 1888 = .ok (.iconst 0, 1) := by decide +kernel
theorem dL_law_1889 : decode cL_law 1889 = .ok (.ireturn, 1) := by decide +kernel
theorem dL_law_1890 : decode cL_law 1890 = .ok (.goto 978, 3) := by decide +kernel
theorem dL_law_1893 : decode cL_law 1893 = .ok (.aload_n 1, 1) := by decide +kernel
theorem dL_law_1894 : decode cL_law 1894 = .ok (.aload_n 0, 1) := by decide +kernel
theorem dL_law_1895 : decode cL_law 1895 = .ok (.iload 4, 2) := by decide +kernel
theorem dL_law_1897 : decode cL_law 1897 = .ok (.iconst 1, 1) := by decide +kernel
theorem dL_law_1898 : decode cL_law 1898 = .ok (.iadd, 1) := by decide +kernel
theorem dL_law_1899 : decode cL_law 1899 = .ok (.iaload, 1) := by decide +kernel
theorem dL_law_1900 : decode cL_law 1900 = .ok (.aload_n 0, 1) := by decide +kernel
theorem dL_law_1901 : decode cL_law 1901 = .ok (.iload 4, 2) := by decide +kernel
theorem dL_law_1903 : decode cL_law 1903 = .ok (.iconst 2, 1) := by decide +kernel
theorem dL_law_1904 : decode cL_law 1904 = .ok (.iadd, 1) := by decide +kernel
theorem dL_law_1905 : decode cL_law 1905 = .ok (.iaload, 1) := by decide +kernel
theorem dL_law_1906 : decode cL_law 1906 = .ok (.aload_n 0, 1) := by decide +kernel
theorem dL_law_1907 : decode cL_law 1907 = .ok (.iload 4, 2) := by decide +kernel
theorem dL_law_1909 : decode cL_law 1909 = .ok (.iconst 3, 1) := by decide +kernel
theorem dL_law_1910 : decode cL_law 1910 = .ok (.iadd, 1) := by decide +kernel
theorem dL_law_1911 : decode cL_law 1911 = .ok (.iaload, 1) := by decide +kernel
theorem dL_law_1912 : decode cL_law 1912 = .ok (.aload_n 3, 1) := by decide +kernel
theorem dL_law_1913 : decode cL_law 1913 = .ok (.invokestatic 234, 3) := by decide +kernel
theorem dL_law_1916 : decode cL_law 1916 = .ok (.istore 5, 2) := by decide +kernel
theorem dL_law_1918 : decode cL_law 1918 = .ok (.aload_n 2, 1) := by decide +kernel
theorem dL_law_1919 : decode cL_law 1919 = .ok (.aload_n 0, 1) := by decide +kernel
theorem dL_law_1920 : decode cL_law 1920 = .ok (.iload 4, 2) := by decide +kernel
theorem dL_law_1922 : decode cL_law 1922 = .ok (.iconst 1, 1) := by decide +kernel
theorem dL_law_1923 : decode cL_law 1923 = .ok (.iadd, 1) := by decide +kernel
theorem dL_law_1924 : decode cL_law 1924 = .ok (.iaload, 1) := by decide +kernel
theorem dL_law_1925 : decode cL_law 1925 = .ok (.aload_n 0, 1) := by decide +kernel
theorem dL_law_1926 : decode cL_law 1926 = .ok (.iload 4, 2) := by decide +kernel
theorem dL_law_1928 : decode cL_law 1928 = .ok (.iconst 2, 1) := by decide +kernel
theorem dL_law_1929 : decode cL_law 1929 = .ok (.iadd, 1) := by decide +kernel
theorem dL_law_1930 : decode cL_law 1930 = .ok (.iaload, 1) := by decide +kernel
theorem dL_law_1931 : decode cL_law 1931 = .ok (.aload_n 0, 1) := by decide +kernel
theorem dL_law_1932 : decode cL_law 1932 = .ok (.iload 4, 2) := by decide +kernel
theorem dL_law_1934 : decode cL_law 1934 = .ok (.iconst 3, 1) := by decide +kernel
theorem dL_law_1935 : decode cL_law 1935 = .ok (.iadd, 1) := by decide +kernel
theorem dL_law_1936 : decode cL_law 1936 = .ok (.iaload, 1) := by decide +kernel
theorem dL_law_1937 : decode cL_law 1937 = .ok (.invokevirtual 236, 3) := by decide +kernel
theorem dL_law_1940 : decode cL_law 1940 = .ok (.istore 6, 2) := by decide +kernel
theorem dL_law_1942 : decode cL_law 1942 = .ok (.aload_n 2, 1) := by decide +kernel
theorem dL_law_1943 : decode cL_law 1943 = .ok (.invokevirtual 146, 3) := by decide +kernel
theorem dL_law_1946 : decode cL_law 1946 = .ok (.iload 5, 2) := by decide +kernel
theorem dL_law_1948 : decode cL_law 1948 = .ok (.if_icmp .eq 5, 3) := by decide +kernel
theorem dL_law_1951 : decode cL_law 1951 = .ok (.iconst 0, 1) := by decide +kernel
theorem dL_law_1952 : decode cL_law 1952 = .ok (.ireturn, 1) := by decide +kernel
theorem dL_law_1953 : decode cL_law 1953 = .ok (.iload 5, 2) := by decide +kernel
theorem dL_law_1955 : decode cL_law 1955 = .ok (.ifCond .ne 15, 3) := by decide +kernel
theorem dL_law_1958 : decode cL_law 1958 = .ok (.aload_n 3, 1) := by decide +kernel
theorem dL_law_1959 : decode cL_law 1959 = .ok (.iconst 0, 1) := by decide +kernel
theorem dL_law_1960 : decode cL_law 1960 = .ok (.laload, 1) := by decide +kernel
theorem dL_law_1961 : decode cL_law 1961 = .ok (.iload 6, 2) := by decide +kernel
theorem dL_law_1963 : decode cL_law 1963 = .ok (.i2l, 1) := by decide +kernel
theorem dL_law_1964 : decode cL_law 1964 = .ok (.lcmp, 1) := by decide +kernel
theorem dL_law_1965 : decode cL_law 1965 = .ok (.ifCond .eq 5, 3) := by decide +kernel
theorem dL_law_1968 : decode cL_law 1968 = .ok (.iconst 0, 1) := by decide +kernel
theorem dL_law_1969 : decode cL_law 1969 = .ok (.ireturn, 1) := by decide +kernel
theorem dL_law_1970 : decode cL_law 1970 = .ok (.goto 898, 3) := by decide +kernel
theorem dL_law_1973 : decode cL_law 1973 = .ok (.aload_n 1, 1) := by decide +kernel
theorem dL_law_1974 : decode cL_law 1974 = .ok (.aload_n 0, 1) := by decide +kernel
theorem dL_law_1975 : decode cL_law 1975 = .ok (.iload 4, 2) := by decide +kernel
theorem dL_law_1977 : decode cL_law 1977 = .ok (.iconst 1, 1) := by decide +kernel
theorem dL_law_1978 : decode cL_law 1978 = .ok (.iadd, 1) := by decide +kernel
theorem dL_law_1979 : decode cL_law 1979 = .ok (.iaload, 1) := by decide +kernel
theorem dL_law_1980 : decode cL_law 1980 = .ok (.aload_n 0, 1) := by decide +kernel
theorem dL_law_1981 : decode cL_law 1981 = .ok (.iload 4, 2) := by decide +kernel
theorem dL_law_1983 : decode cL_law 1983 = .ok (.iconst 2, 1) := by decide +kernel
theorem dL_law_1984 : decode cL_law 1984 = .ok (.iadd, 1) := by decide +kernel
theorem dL_law_1985 : decode cL_law 1985 = .ok (.iaload, 1) := by decide +kernel
theorem dL_law_1986 : decode cL_law 1986 = .ok (.aload_n 3, 1) := by decide +kernel
theorem dL_law_1987 : decode cL_law 1987 = .ok (.invokestatic 237, 3) := by decide +kernel
theorem dL_law_1990 : decode cL_law 1990 = .ok (.istore 5, 2) := by decide +kernel
theorem dL_law_1992 : decode cL_law 1992 = .ok (.aload_n 2, 1) := by decide +kernel
theorem dL_law_1993 : decode cL_law 1993 = .ok (.aload_n 0, 1) := by decide +kernel
theorem dL_law_1994 : decode cL_law 1994 = .ok (.iload 4, 2) := by decide +kernel
theorem dL_law_1996 : decode cL_law 1996 = .ok (.iconst 1, 1) := by decide +kernel
theorem dL_law_1997 : decode cL_law 1997 = .ok (.iadd, 1) := by decide +kernel
theorem dL_law_1998 : decode cL_law 1998 = .ok (.iaload, 1) := by decide +kernel
theorem dL_law_1999 : decode cL_law 1999 = .ok (.aload_n 0, 1) := by decide +kernel
theorem dL_law_2000 : decode cL_law 2000 = .ok (.iload 4, 2) := by decide +kernel
theorem dL_law_2002 : decode cL_law 2002 = .ok (.iconst 2, 1) := by decide +kernel
theorem dL_law_2003 : decode cL_law 2003 = .ok (.iadd, 1) := by decide +kernel
theorem dL_law_2004 : decode cL_law 2004 = .ok (.iaload, 1) := by decide +kernel
theorem dL_law_2005 : decode cL_law 2005 = .ok (.invokevirtual 239, 3) := by decide +kernel
theorem dL_law_2008 : decode cL_law 2008 = .ok (.istore 6, 2) := by decide +kernel
theorem dL_law_2010 : decode cL_law 2010 = .ok (.aload_n 2, 1) := by decide +kernel
theorem dL_law_2011 : decode cL_law 2011 = .ok (.invokevirtual 146, 3) := by decide +kernel
theorem dL_law_2014 : decode cL_law 2014 = .ok (.iload 5, 2) := by decide +kernel
theorem dL_law_2016 : decode cL_law 2016 = .ok (.if_icmp .eq 5, 3) := by decide +kernel
theorem dL_law_2019 : decode cL_law 2019 = .ok (.iconst 0, 1) := by decide +kernel
theorem dL_law_2020 : decode cL_law 2020 = .ok (.ireturn, 1) := by decide +kernel
theorem dL_law_2021 : decode cL_law 2021 = .ok (.iload 5, 2) := by decide +kernel
theorem dL_law_2023 : decode cL_law 2023 = .ok (.ifCond .ne 22, 3) := by decide +kernel
theorem dL_law_2026 : decode cL_law 2026 = .ok (.aload_n 3, 1) := by decide +kernel
theorem dL_law_2027 : decode cL_law 2027 = .ok (.iconst 0, 1) := by decide +kernel
theorem dL_law_2028 : decode cL_law 2028 = .ok (.laload, 1) := by decide +kernel
theorem dL_law_2029 : decode cL_law 2029 = .ok (.iload 6, 2) := by decide +kernel
theorem dL_law_2031 : decode cL_law 2031 = .ok (.ifCond .eq 7, 3) := by decide +kernel
theorem dL_law_2034 : decode cL_law 2034 = .ok (.lconst 1, 1) := by decide +kernel
theorem dL_law_2035 : decode cL_law 2035 = .ok (.goto 4, 3) := by decide +kernel
theorem dL_law_2038 : decode cL_law 2038 = .ok (.lconst 0, 1) := by decide +kernel
theorem dL_law_2039 : decode cL_law 2039 = .ok (.lcmp, 1) := by decide +kernel
theorem dL_law_2040 : decode cL_law 2040 = .ok (.ifCond .eq 5, 3) := by decide +kernel
theorem dL_law_2043 : decode cL_law 2043 = .ok (.iconst 0, 1) := by decide +kernel
theorem dL_law_2044 : decode cL_law 2044 = .ok (.ireturn, 1) := by decide +kernel
theorem dL_law_2045 : decode cL_law 2045 = .ok (.goto 823, 3) := by decide +kernel
theorem dL_law_2048 : decode cL_law 2048 = .ok (.aload_n 1, 1) := by decide +kernel
theorem dL_law_2049 : decode cL_law 2049 = .ok (.aload_n 0, 1) := by decide +kernel
theorem dL_law_2050 : decode cL_law 2050 = .ok (.iload 4, 2) := by decide +kernel
theorem dL_law_2052 : decode cL_law 2052 = .ok (.iconst 1, 1) := by decide +kernel
theorem dL_law_2053 : decode cL_law 2053 = .ok (.iadd, 1) := by decide +kernel
theorem dL_law_2054 : decode cL_law 2054 = .ok (.iaload, 1) := by decide +kernel
theorem dL_law_2055 : decode cL_law 2055 = .ok (.aload_n 0, 1) := by decide +kernel
theorem dL_law_2056 : decode cL_law 2056 = .ok (.iload 4, 2) := by decide +kernel
theorem dL_law_2058 : decode cL_law 2058 = .ok (.iconst 2, 1) := by decide +kernel
theorem dL_law_2059 : decode cL_law 2059 = .ok (.iadd, 1) := by decide +kernel
theorem dL_law_2060 : decode cL_law 2060 = .ok (.iaload, 1) := by decide +kernel
theorem dL_law_2061 : decode cL_law 2061 = .ok (.aload_n 0, 1) := by decide +kernel
theorem dL_law_2062 : decode cL_law 2062 = .ok (.iload 4, 2) := by decide +kernel
theorem dL_law_2064 : decode cL_law 2064 = .ok (.iconst 3, 1) := by decide +kernel
theorem dL_law_2065 : decode cL_law 2065 = .ok (.iadd, 1) := by decide +kernel
theorem dL_law_2066 : decode cL_law 2066 = .ok (.iaload, 1) := by decide +kernel
theorem dL_law_2067 : decode cL_law 2067 = .ok (.aload_n 0, 1) := by decide +kernel
theorem dL_law_2068 : decode cL_law 2068 = .ok (.iload 4, 2) := by decide +kernel
theorem dL_law_2070 : decode cL_law 2070 = .ok (.iconst 4, 1) := by decide +kernel
theorem dL_law_2071 : decode cL_law 2071 = .ok (.iadd, 1) := by decide +kernel
theorem dL_law_2072 : decode cL_law 2072 = .ok (.iaload, 1) := by decide +kernel
theorem dL_law_2073 : decode cL_law 2073 = .ok (.aload_n 0, 1) := by decide +kernel
theorem dL_law_2074 : decode cL_law 2074 = .ok (.iload 4, 2) := by decide +kernel
theorem dL_law_2076 : decode cL_law 2076 = .ok (.iconst 5, 1) := by decide +kernel
theorem dL_law_2077 : decode cL_law 2077 = .ok (.iadd, 1) := by decide +kernel
theorem dL_law_2078 : decode cL_law 2078 = .ok (.iaload, 1) := by decide +kernel
theorem dL_law_2079 : decode cL_law 2079 = .ok (.invokestatic 240, 3) := by decide +kernel
theorem dL_law_2082 : decode cL_law 2082 = .ok (.istore 5, 2) := by decide +kernel
theorem dL_law_2084 : decode cL_law 2084 = .ok (.aload_n 2, 1) := by decide +kernel
theorem dL_law_2085 : decode cL_law 2085 = .ok (.aload_n 0, 1) := by decide +kernel
theorem dL_law_2086 : decode cL_law 2086 = .ok (.iload 4, 2) := by decide +kernel
theorem dL_law_2088 : decode cL_law 2088 = .ok (.iconst 1, 1) := by decide +kernel
theorem dL_law_2089 : decode cL_law 2089 = .ok (.iadd, 1) := by decide +kernel
theorem dL_law_2090 : decode cL_law 2090 = .ok (.iaload, 1) := by decide +kernel
theorem dL_law_2091 : decode cL_law 2091 = .ok (.aload_n 0, 1) := by decide +kernel
theorem dL_law_2092 : decode cL_law 2092 = .ok (.iload 4, 2) := by decide +kernel
theorem dL_law_2094 : decode cL_law 2094 = .ok (.iconst 2, 1) := by decide +kernel
theorem dL_law_2095 : decode cL_law 2095 = .ok (.iadd, 1) := by decide +kernel
theorem dL_law_2096 : decode cL_law 2096 = .ok (.iaload, 1) := by decide +kernel
theorem dL_law_2097 : decode cL_law 2097 = .ok (.aload_n 0, 1) := by decide +kernel
theorem dL_law_2098 : decode cL_law 2098 = .ok (.iload 4, 2) := by decide +kernel
theorem dL_law_2100 : decode cL_law 2100 = .ok (.iconst 3, 1) := by decide +kernel
theorem dL_law_2101 : decode cL_law 2101 = .ok (.iadd, 1) := by decide +kernel
theorem dL_law_2102 : decode cL_law 2102 = .ok (.iaload, 1) := by decide +kernel
theorem dL_law_2103 : decode cL_law 2103 = .ok (.aload_n 0, 1) := by decide +kernel
theorem dL_law_2104 : decode cL_law 2104 = .ok (.iload 4, 2) := by decide +kernel
theorem dL_law_2106 : decode cL_law 2106 = .ok (.iconst 4, 1) := by decide +kernel
theorem dL_law_2107 : decode cL_law 2107 = .ok (.iadd, 1) := by decide +kernel
theorem dL_law_2108 : decode cL_law 2108 = .ok (.iaload, 1) := by decide +kernel
theorem dL_law_2109 : decode cL_law 2109 = .ok (.aload_n 0, 1) := by decide +kernel
theorem dL_law_2110 : decode cL_law 2110 = .ok (.iload 4, 2) := by decide +kernel
theorem dL_law_2112 : decode cL_law 2112 = .ok (.iconst 5, 1) := by decide +kernel
theorem dL_law_2113 : decode cL_law 2113 = .ok (.iadd, 1) := by decide +kernel
theorem dL_law_2114 : decode cL_law 2114 = .ok (.iaload, 1) := by decide +kernel
theorem dL_law_2115 : decode cL_law 2115 = .ok (.invokevirtual 243, 3) := by decide +kernel
theorem dL_law_2118 : decode cL_law 2118 = .ok (.aload_n 2, 1) := by decide +kernel
theorem dL_law_2119 : decode cL_law 2119 = .ok (.invokevirtual 146, 3) := by decide +kernel
theorem dL_law_2122 : decode cL_law 2122 = .ok (.iload 5, 2) := by decide +kernel
theorem dL_law_2124 : decode cL_law 2124 = .ok (.if_icmp .eq 5, 3) := by decide +kernel
theorem dL_law_2127 : decode cL_law 2127 = .ok (.iconst 0, 1) := by decide +kernel
theorem dL_law_2128 : decode cL_law 2128 = .ok (.ireturn, 1) := by decide +kernel
theorem dL_law_2129 : decode cL_law 2129 = .ok (.goto 739, 3) := by decide +kernel
theorem dL_law_2132 : decode cL_law 2132 = .ok (.aload_n 1, 1) := by decide +kernel
theorem dL_law_2133 : decode cL_law 2133 = .ok (.aload_n 0, 1) := by decide +kernel
theorem dL_law_2134 : decode cL_law 2134 = .ok (.iload 4, 2) := by decide +kernel
theorem dL_law_2136 : decode cL_law 2136 = .ok (.iconst 1, 1) := by decide +kernel
theorem dL_law_2137 : decode cL_law 2137 = .ok (.iadd, 1) := by decide +kernel
theorem dL_law_2138 : decode cL_law 2138 = .ok (.iaload, 1) := by decide +kernel
theorem dL_law_2139 : decode cL_law 2139 = .ok (.aload_n 0, 1) := by decide +kernel
theorem dL_law_2140 : decode cL_law 2140 = .ok (.iload 4, 2) := by decide +kernel
theorem dL_law_2142 : decode cL_law 2142 = .ok (.iconst 2, 1) := by decide +kernel
theorem dL_law_2143 : decode cL_law 2143 = .ok (.iadd, 1) := by decide +kernel
theorem dL_law_2144 : decode cL_law 2144 = .ok (.iaload, 1) := by decide +kernel
theorem dL_law_2145 : decode cL_law 2145 = .ok (.aload_n 0, 1) := by decide +kernel
theorem dL_law_2146 : decode cL_law 2146 = .ok (.iload 4, 2) := by decide +kernel
theorem dL_law_2148 : decode cL_law 2148 = .ok (.iconst 3, 1) := by decide +kernel
theorem dL_law_2149 : decode cL_law 2149 = .ok (.iadd, 1) := by decide +kernel
theorem dL_law_2150 : decode cL_law 2150 = .ok (.iaload, 1) := by decide +kernel
theorem dL_law_2151 : decode cL_law 2151 = .ok (.aload_n 0, 1) := by decide +kernel
theorem dL_law_2152 : decode cL_law 2152 = .ok (.iload 4, 2) := by decide +kernel
theorem dL_law_2154 : decode cL_law 2154 = .ok (.iconst 4, 1) := by decide +kernel
theorem dL_law_2155 : decode cL_law 2155 = .ok (.iadd, 1) := by decide +kernel
theorem dL_law_2156 : decode cL_law 2156 = .ok (.iaload, 1) := by decide +kernel
theorem dL_law_2157 : decode cL_law 2157 = .ok (.aload_n 0, 1) := by decide +kernel
theorem dL_law_2158 : decode cL_law 2158 = .ok (.iload 4, 2) := by decide +kernel
theorem dL_law_2160 : decode cL_law 2160 = .ok (.iconst 5, 1) := by decide +kernel
theorem dL_law_2161 : decode cL_law 2161 = .ok (.iadd, 1) := by decide +kernel
theorem dL_law_2162 : decode cL_law 2162 = .ok (.iaload, 1) := by decide +kernel
theorem dL_law_2163 : decode cL_law 2163 = .ok (.invokestatic 244, 3) := by decide +kernel
theorem dL_law_2166 : decode cL_law 2166 = .ok (.istore 5, 2) := by decide +kernel
theorem dL_law_2168 : decode cL_law 2168 = .ok (.aload_n 2, 1) := by decide +kernel
theorem dL_law_2169 : decode cL_law 2169 = .ok (.aload_n 0, 1) := by decide +kernel
theorem dL_law_2170 : decode cL_law 2170 = .ok (.iload 4, 2) := by decide +kernel
theorem dL_law_2172 : decode cL_law 2172 = .ok (.iconst 1, 1) := by decide +kernel
theorem dL_law_2173 : decode cL_law 2173 = .ok (.iadd, 1) := by decide +kernel
theorem dL_law_2174 : decode cL_law 2174 = .ok (.iaload, 1) := by decide +kernel
theorem dL_law_2175 : decode cL_law 2175 = .ok (.aload_n 0, 1) := by decide +kernel
theorem dL_law_2176 : decode cL_law 2176 = .ok (.iload 4, 2) := by decide +kernel
theorem dL_law_2178 : decode cL_law 2178 = .ok (.iconst 2, 1) := by decide +kernel
theorem dL_law_2179 : decode cL_law 2179 = .ok (.iadd, 1) := by decide +kernel
theorem dL_law_2180 : decode cL_law 2180 = .ok (.iaload, 1) := by decide +kernel
theorem dL_law_2181 : decode cL_law 2181 = .ok (.aload_n 0, 1) := by decide +kernel
theorem dL_law_2182 : decode cL_law 2182 = .ok (.iload 4, 2) := by decide +kernel
theorem dL_law_2184 : decode cL_law 2184 = .ok (.iconst 3, 1) := by decide +kernel
theorem dL_law_2185 : decode cL_law 2185 = .ok (.iadd, 1) := by decide +kernel
theorem dL_law_2186 : decode cL_law 2186 = .ok (.iaload, 1) := by decide +kernel
theorem dL_law_2187 : decode cL_law 2187 = .ok (.aload_n 0, 1) := by decide +kernel
theorem dL_law_2188 : decode cL_law 2188 = .ok (.iload 4, 2) := by decide +kernel
theorem dL_law_2190 : decode cL_law 2190 = .ok (.iconst 4, 1) := by decide +kernel
theorem dL_law_2191 : decode cL_law 2191 = .ok (.iadd, 1) := by decide +kernel
theorem dL_law_2192 : decode cL_law 2192 = .ok (.iaload, 1) := by decide +kernel
theorem dL_law_2193 : decode cL_law 2193 = .ok (.aload_n 0, 1) := by decide +kernel
theorem dL_law_2194 : decode cL_law 2194 = .ok (.iload 4, 2) := by decide +kernel
theorem dL_law_2196 : decode cL_law 2196 = .ok (.iconst 5, 1) := by decide +kernel
theorem dL_law_2197 : decode cL_law 2197 = .ok (.iadd, 1) := by decide +kernel
theorem dL_law_2198 : decode cL_law 2198 = .ok (.iaload, 1) := by decide +kernel
theorem dL_law_2199 : decode cL_law 2199 = .ok (.invokevirtual 246, 3) := by decide +kernel
theorem dL_law_2202 : decode cL_law 2202 = .ok (.aload_n 2, 1) := by decide +kernel
theorem dL_law_2203 : decode cL_law 2203 = .ok (.invokevirtual 146, 3) := by decide +kernel
theorem dL_law_2206 : decode cL_law 2206 = .ok (.iload 5, 2) := by decide +kernel
theorem dL_law_2208 : decode cL_law 2208 = .ok (.if_icmp .eq 5, 3) := by decide +kernel
theorem dL_law_2211 : decode cL_law 2211 = .ok (.iconst 0, 1) := by decide +kernel
theorem dL_law_2212 : decode cL_law 2212 = .ok (.ireturn, 1) := by decide +kernel
theorem dL_law_2213 : decode cL_law 2213 = .ok (.goto 655, 3) := by decide +kernel
theorem dL_law_2216 : decode cL_law 2216 = .ok (.aload_n 1, 1) := by decide +kernel
theorem dL_law_2217 : decode cL_law 2217 = .ok (.aload_n 0, 1) := by decide +kernel
theorem dL_law_2218 : decode cL_law 2218 = .ok (.iload 4, 2) := by decide +kernel
theorem dL_law_2220 : decode cL_law 2220 = .ok (.iconst 1, 1) := by decide +kernel
theorem dL_law_2221 : decode cL_law 2221 = .ok (.iadd, 1) := by decide +kernel
theorem dL_law_2222 : decode cL_law 2222 = .ok (.iaload, 1) := by decide +kernel
theorem dL_law_2223 : decode cL_law 2223 = .ok (.ifCond .eq 7, 3) := by decide +kernel
theorem dL_law_2226 : decode cL_law 2226 = .ok (.iconst 1, 1) := by decide +kernel
theorem dL_law_2227 : decode cL_law 2227 = .ok (.goto 4, 3) := by decide +kernel
theorem dL_law_2230 : decode cL_law 2230 = .ok (.iconst 0, 1) := by decide +kernel
theorem dL_law_2231 : decode cL_law 2231 = .ok (.invokevirtual 247, 3) := by decide +kernel
theorem dL_law_2234 : decode cL_law 2234 = .ok (.aload_n 2, 1) := by decide +kernel
theorem dL_law_2235 : decode cL_law 2235 = .ok (.aload_n 0, 1) := by decide +kernel
theorem dL_law_2236 : decode cL_law 2236 = .ok (.iload 4, 2) := by decide +kernel
theorem dL_law_2238 : decode cL_law 2238 = .ok (.iconst 1, 1) := by decide +kernel
theorem dL_law_2239 : decode cL_law 2239 = .ok (.iadd, 1) := by decide +kernel
theorem dL_law_2240 : decode cL_law 2240 = .ok (.iaload, 1) := by decide +kernel
theorem dL_law_2241 : decode cL_law 2241 = .ok (.ifCond .eq 7, 3) := by decide +kernel
theorem dL_law_2244 : decode cL_law 2244 = .ok (.iconst 1, 1) := by decide +kernel
theorem dL_law_2245 : decode cL_law 2245 = .ok (.goto 4, 3) := by decide +kernel
theorem dL_law_2248 : decode cL_law 2248 = .ok (.iconst 0, 1) := by decide +kernel
theorem dL_law_2249 : decode cL_law 2249 = .ok (.invokevirtual 251, 3) := by decide +kernel
theorem dL_law_2252 : decode cL_law 2252 = .ok (.lcmp, 1) := by decide +kernel
theorem dL_law_2253 : decode cL_law 2253 = .ok (.ifCond .eq 615, 3) := by decide +kernel
theorem dL_law_2256 : decode cL_law 2256 = .ok (.iconst 0, 1) := by decide +kernel
theorem dL_law_2257 : decode cL_law 2257 = .ok (.ireturn, 1) := by decide +kernel
theorem dL_law_2258 : decode cL_law 2258 = .ok (.aload_n 1, 1) := by decide +kernel
theorem dL_law_2259 : decode cL_law 2259 = .ok (.aload_n 0, 1) := by decide +kernel
theorem dL_law_2260 : decode cL_law 2260 = .ok (.iload 4, 2) := by decide +kernel
theorem dL_law_2262 : decode cL_law 2262 = .ok (.iconst 1, 1) := by decide +kernel
theorem dL_law_2263 : decode cL_law 2263 = .ok (.iadd, 1) := by decide +kernel
theorem dL_law_2264 : decode cL_law 2264 = .ok (.iaload, 1) := by decide +kernel
theorem dL_law_2265 : decode cL_law 2265 = .ok (.aload_n 3, 1) := by decide +kernel
theorem dL_law_2266 : decode cL_law 2266 = .ok (.invokestatic 252, 3) := by decide +kernel
theorem dL_law_2269 : decode cL_law 2269 = .ok (.istore 5, 2) := by decide +kernel
theorem dL_law_2271 : decode cL_law 2271 = .ok (.aload_n 2, 1) := by decide +kernel
theorem dL_law_2272 : decode cL_law 2272 = .ok (.aload_n 0, 1) := by decide +kernel
theorem dL_law_2273 : decode cL_law 2273 = .ok (.iload 4, 2) := by decide +kernel
theorem dL_law_2275 : decode cL_law 2275 = .ok (.iconst 1, 1) := by decide +kernel
theorem dL_law_2276 : decode cL_law 2276 = .ok (.iadd, 1) := by decide +kernel
theorem dL_law_2277 : decode cL_law 2277 = .ok (.iaload, 1) := by decide +kernel
theorem dL_law_2278 : decode cL_law 2278 = .ok (.invokevirtual 254, 3) := by decide +kernel
theorem dL_law_2281 : decode cL_law 2281 = .ok (.lstore 6, 2) := by decide +kernel
theorem dL_law_2283 : decode cL_law 2283 = .ok (.aload_n 2, 1) := by decide +kernel
theorem dL_law_2284 : decode cL_law 2284 = .ok (.invokevirtual 146, 3) := by decide +kernel
theorem dL_law_2287 : decode cL_law 2287 = .ok (.iload 5, 2) := by decide +kernel
theorem dL_law_2289 : decode cL_law 2289 = .ok (.if_icmp .eq 5, 3) := by decide +kernel
theorem dL_law_2292 : decode cL_law 2292 = .ok (.iconst 0, 1) := by decide +kernel
theorem dL_law_2293 : decode cL_law 2293 = .ok (.ireturn, 1) := by decide +kernel
theorem dL_law_2294 : decode cL_law 2294 = .ok (.iload 5, 2) := by decide +kernel
theorem dL_law_2296 : decode cL_law 2296 = .ok (.ifCond .ne 14, 3) := by decide +kernel
theorem dL_law_2299 : decode cL_law 2299 = .ok (.aload_n 3, 1) := by decide +kernel
theorem dL_law_2300 : decode cL_law 2300 = .ok (.iconst 0, 1) := by decide +kernel
theorem dL_law_2301 : decode cL_law 2301 = .ok (.laload, 1) := by decide +kernel
theorem dL_law_2302 : decode cL_law 2302 = .ok (.lload 6, 2) := by decide +kernel
theorem dL_law_2304 : decode cL_law 2304 = .ok (.lcmp, 1) := by decide +kernel
theorem dL_law_2305 : decode cL_law 2305 = .ok (.ifCond .eq 5, 3) := by decide +kernel
theorem dL_law_2308 : decode cL_law 2308 = .ok (.iconst 0, 1) := by decide +kernel
theorem dL_law_2309 : decode cL_law 2309 = .ok (.ireturn, 1) := by decide +kernel
theorem dL_law_2310 : decode cL_law 2310 = .ok (.goto 558, 3) := by decide +kernel
theorem dL_law_2313 : decode cL_law 2313 = .ok (.aload_n 1, 1) := by decide +kernel
theorem dL_law_2314 : decode cL_law 2314 = .ok (.aload_n 0, 1) := by decide +kernel
theorem dL_law_2315 : decode cL_law 2315 = .ok (.iload 4, 2) := by decide +kernel
theorem dL_law_2317 : decode cL_law 2317 = .ok (.iconst 1, 1) := by decide +kernel
theorem dL_law_2318 : decode cL_law 2318 = .ok (.iadd, 1) := by decide +kernel
theorem dL_law_2319 : decode cL_law 2319 = .ok (.iaload, 1) := by decide +kernel
theorem dL_law_2320 : decode cL_law 2320 = .ok (.aload_n 0, 1) := by decide +kernel
theorem dL_law_2321 : decode cL_law 2321 = .ok (.iload 4, 2) := by decide +kernel
theorem dL_law_2323 : decode cL_law 2323 = .ok (.iconst 2, 1) := by decide +kernel
theorem dL_law_2324 : decode cL_law 2324 = .ok (.iadd, 1) := by decide +kernel
theorem dL_law_2325 : decode cL_law 2325 = .ok (.iaload, 1) := by decide +kernel
theorem dL_law_2326 : decode cL_law 2326 = .ok (.aload_n 3, 1) := by decide +kernel
theorem dL_law_2327 : decode cL_law 2327 = .ok (.invokestatic 255, 3) := by decide +kernel
theorem dL_law_2330 : decode cL_law 2330 = .ok (.istore 5, 2) := by decide +kernel
theorem dL_law_2332 : decode cL_law 2332 = .ok (.aload_n 2, 1) := by decide +kernel
theorem dL_law_2333 : decode cL_law 2333 = .ok (.aload_n 0, 1) := by decide +kernel
theorem dL_law_2334 : decode cL_law 2334 = .ok (.iload 4, 2) := by decide +kernel
theorem dL_law_2336 : decode cL_law 2336 = .ok (.iconst 1, 1) := by decide +kernel
theorem dL_law_2337 : decode cL_law 2337 = .ok (.iadd, 1) := by decide +kernel
theorem dL_law_2338 : decode cL_law 2338 = .ok (.iaload, 1) := by decide +kernel
theorem dL_law_2339 : decode cL_law 2339 = .ok (.aload_n 0, 1) := by decide +kernel
theorem dL_law_2340 : decode cL_law 2340 = .ok (.iload 4, 2) := by decide +kernel
theorem dL_law_2342 : decode cL_law 2342 = .ok (.iconst 2, 1) := by decide +kernel
theorem dL_law_2343 : decode cL_law 2343 = .ok (.iadd, 1) := by decide +kernel
theorem dL_law_2344 : decode cL_law 2344 = .ok (.iaload, 1) := by decide +kernel
theorem dL_law_2345 : decode cL_law 2345 = .ok (.invokevirtual 257, 3) := by decide +kernel
theorem dL_law_2348 : decode cL_law 2348 = .ok (.istore 6, 2) := by decide +kernel
theorem dL_law_2350 : decode cL_law 2350 = .ok (.aload_n 2, 1) := by decide +kernel
theorem dL_law_2351 : decode cL_law 2351 = .ok (.invokevirtual 146, 3) := by decide +kernel
theorem dL_law_2354 : decode cL_law 2354 = .ok (.iload 5, 2) := by decide +kernel
theorem dL_law_2356 : decode cL_law 2356 = .ok (.if_icmp .eq 5, 3) := by decide +kernel
theorem dL_law_2359 : decode cL_law 2359 = .ok (.iconst 0, 1) := by decide +kernel
theorem dL_law_2360 : decode cL_law 2360 = .ok (.ireturn, 1) := by decide +kernel
theorem dL_law_2361 : decode cL_law 2361 = .ok (.iload 5, 2) := by decide +kernel
theorem dL_law_2363 : decode cL_law 2363 = .ok (.ifCond .ne 15, 3) := by decide +kernel
theorem dL_law_2366 : decode cL_law 2366 = .ok (.aload_n 3, 1) := by decide +kernel
theorem dL_law_2367 : decode cL_law 2367 = .ok (.iconst 0, 1) := by decide +kernel
theorem dL_law_2368 : decode cL_law 2368 = .ok (.laload, 1) := by decide +kernel
theorem dL_law_2369 : decode cL_law 2369 = .ok (.iload 6, 2) := by decide +kernel
theorem dL_law_2371 : decode cL_law 2371 = .ok (.i2l, 1) := by decide +kernel
theorem dL_law_2372 : decode cL_law 2372 = .ok (.lcmp, 1) := by decide +kernel
theorem dL_law_2373 : decode cL_law 2373 = .ok (.ifCond .eq 5, 3) := by decide +kernel
theorem dL_law_2376 : decode cL_law 2376 = .ok (.iconst 0, 1) := by decide +kernel
theorem dL_law_2377 : decode cL_law 2377 = .ok (.ireturn, 1) := by decide +kernel
theorem dL_law_2378 : decode cL_law 2378 = .ok (.goto 490, 3) := by decide +kernel
theorem dL_law_2381 : decode cL_law 2381 = .ok (.aload_n 1, 1) := by decide +kernel
theorem dL_law_2382 : decode cL_law 2382 = .ok (.aload_n 0, 1) := by decide +kernel
theorem dL_law_2383 : decode cL_law 2383 = .ok (.iload 4, 2) := by decide +kernel
theorem dL_law_2385 : decode cL_law 2385 = .ok (.iconst 1, 1) := by decide +kernel
theorem dL_law_2386 : decode cL_law 2386 = .ok (.iadd, 1) := by decide +kernel
theorem dL_law_2387 : decode cL_law 2387 = .ok (.iaload, 1) := by decide +kernel
theorem dL_law_2388 : decode cL_law 2388 = .ok (.aload_n 0, 1) := by decide +kernel
theorem dL_law_2389 : decode cL_law 2389 = .ok (.iload 4, 2) := by decide +kernel
theorem dL_law_2391 : decode cL_law 2391 = .ok (.iconst 2, 1) := by decide +kernel
theorem dL_law_2392 : decode cL_law 2392 = .ok (.iadd, 1) := by decide +kernel
theorem dL_law_2393 : decode cL_law 2393 = .ok (.iaload, 1) := by decide +kernel
theorem dL_law_2394 : decode cL_law 2394 = .ok (.aload_n 0, 1) := by decide +kernel
theorem dL_law_2395 : decode cL_law 2395 = .ok (.iload 4, 2) := by decide +kernel
theorem dL_law_2397 : decode cL_law 2397 = .ok (.iconst 3, 1) := by decide +kernel
theorem dL_law_2398 : decode cL_law 2398 = .ok (.iadd, 1) := by decide +kernel
theorem dL_law_2399 : decode cL_law 2399 = .ok (.iaload, 1) := by decide +kernel
theorem dL_law_2400 : decode cL_law 2400 = .ok (.aload_n 3, 1) := by decide +kernel
theorem dL_law_2401 : decode cL_law 2401 = .ok (.invokestatic 258, 3) := by decide +kernel
theorem dL_law_2404 : decode cL_law 2404 = .ok (.istore 5, 2) := by decide +kernel
theorem dL_law_2406 : decode cL_law 2406 = .ok (.aload_n 2, 1) := by decide +kernel
theorem dL_law_2407 : decode cL_law 2407 = .ok (.aload_n 0, 1) := by decide +kernel
theorem dL_law_2408 : decode cL_law 2408 = .ok (.iload 4, 2) := by decide +kernel
theorem dL_law_2410 : decode cL_law 2410 = .ok (.iconst 1, 1) := by decide +kernel
theorem dL_law_2411 : decode cL_law 2411 = .ok (.iadd, 1) := by decide +kernel
theorem dL_law_2412 : decode cL_law 2412 = .ok (.iaload, 1) := by decide +kernel
theorem dL_law_2413 : decode cL_law 2413 = .ok (.aload_n 0, 1) := by decide +kernel
theorem dL_law_2414 : decode cL_law 2414 = .ok (.iload 4, 2) := by decide +kernel
theorem dL_law_2416 : decode cL_law 2416 = .ok (.iconst 2, 1) := by decide +kernel
theorem dL_law_2417 : decode cL_law 2417 = .ok (.iadd, 1) := by decide +kernel
theorem dL_law_2418 : decode cL_law 2418 = .ok (.iaload, 1) := by decide +kernel
theorem dL_law_2419 : decode cL_law 2419 = .ok (.aload_n 0, 1) := by decide +kernel
theorem dL_law_2420 : decode cL_law 2420 = .ok (.iload 4, 2) := by decide +kernel
theorem dL_law_2422 : decode cL_law 2422 = .ok (.iconst 3, 1) := by decide +kernel
theorem dL_law_2423 : decode cL_law 2423 = .ok (.iadd, 1) := by decide +kernel
theorem dL_law_2424 : decode cL_law 2424 = .ok (.iaload, 1) := by decide +kernel
theorem dL_law_2425 : decode cL_law 2425 = .ok (.invokevirtual 260, 3) := by decide +kernel
theorem dL_law_2428 : decode cL_law 2428 = .ok (.istore 6, 2) := by decide +kernel
theorem dL_law_2430 : decode cL_law 2430 = .ok (.aload_n 2, 1) := by decide +kernel
theorem dL_law_2431 : decode cL_law 2431 = .ok (.invokevirtual 146, 3) := by decide +kernel
theorem dL_law_2434 : decode cL_law 2434 = .ok (.iload 5, 2) := by decide +kernel
theorem dL_law_2436 : decode cL_law 2436 = .ok (.if_icmp .eq 5, 3) := by decide +kernel
theorem dL_law_2439 : decode cL_law 2439 = .ok (.iconst 0, 1) := by decide +kernel
theorem dL_law_2440 : decode cL_law 2440 = .ok (.ireturn, 1) := by decide +kernel
theorem dL_law_2441 : decode cL_law 2441 = .ok (.iload 5, 2) := by decide +kernel
theorem dL_law_2443 : decode cL_law 2443 = .ok (.ifCond .ne 22, 3) := by decide +kernel
theorem dL_law_2446 : decode cL_law 2446 = .ok (.aload_n 3, 1) := by decide +kernel
theorem dL_law_2447 : decode cL_law 2447 = .ok (.iconst 0, 1) := by decide +kernel
theorem dL_law_2448 : decode cL_law 2448 = .ok (.laload, 1) := by decide +kernel
theorem dL_law_2449 : decode cL_law 2449 = .ok (.iload 6, 2) := by decide +kernel
theorem dL_law_2451 : decode cL_law 2451 = .ok (.ifCond .eq 7, 3) := by decide +kernel
theorem dL_law_2454 : decode cL_law 2454 = .ok (.lconst 1, 1) := by decide +kernel
theorem dL_law_2455 : decode cL_law 2455 = .ok (.goto 4, 3) := by decide +kernel
theorem dL_law_2458 : decode cL_law 2458 = .ok (.lconst 0, 1) := by decide +kernel
theorem dL_law_2459 : decode cL_law 2459 = .ok (.lcmp, 1) := by decide +kernel
theorem dL_law_2460 : decode cL_law 2460 = .ok (.ifCond .eq 5, 3) := by decide +kernel
theorem dL_law_2463 : decode cL_law 2463 = .ok (.iconst 0, 1) := by decide +kernel
theorem dL_law_2464 : decode cL_law 2464 = .ok (.ireturn, 1) := by decide +kernel
theorem dL_law_2465 : decode cL_law 2465 = .ok (.goto 403, 3) := by decide +kernel
theorem dL_law_2468 : decode cL_law 2468 = .ok (.aload_n 1, 1) := by decide +kernel
theorem dL_law_2469 : decode cL_law 2469 = .ok (.aload_n 0, 1) := by decide +kernel
theorem dL_law_2470 : decode cL_law 2470 = .ok (.iload 4, 2) := by decide +kernel
theorem dL_law_2472 : decode cL_law 2472 = .ok (.iconst 1, 1) := by decide +kernel
theorem dL_law_2473 : decode cL_law 2473 = .ok (.iadd, 1) := by decide +kernel
theorem dL_law_2474 : decode cL_law 2474 = .ok (.iaload, 1) := by decide +kernel
theorem dL_law_2475 : decode cL_law 2475 = .ok (.aload_n 0, 1) := by decide +kernel
theorem dL_law_2476 : decode cL_law 2476 = .ok (.iload 4, 2) := by decide +kernel
theorem dL_law_2478 : decode cL_law 2478 = .ok (.iconst 2, 1) := by decide +kernel
theorem dL_law_2479 : decode cL_law 2479 = .ok (.iadd, 1) := by decide +kernel
theorem dL_law_2480 : decode cL_law 2480 = .ok (.iaload, 1) := by decide +kernel
theorem dL_law_2481 : decode cL_law 2481 = .ok (.aload_n 3, 1) := by decide +kernel
theorem dL_law_2482 : decode cL_law 2482 = .ok (.invokestatic 261, 3) := by decide +kernel
theorem dL_law_2485 : decode cL_law 2485 = .ok (.istore 5, 2) := by decide +kernel
theorem dL_law_2487 : decode cL_law 2487 = .ok (.aload_n 2, 1) := by decide +kernel
theorem dL_law_2488 : decode cL_law 2488 = .ok (.aload_n 0, 1) := by decide +kernel
theorem dL_law_2489 : decode cL_law 2489 = .ok (.iload 4, 2) := by decide +kernel
theorem dL_law_2491 : decode cL_law 2491 = .ok (.iconst 1, 1) := by decide +kernel
theorem dL_law_2492 : decode cL_law 2492 = .ok (.iadd, 1) := by decide +kernel
theorem dL_law_2493 : decode cL_law 2493 = .ok (.iaload, 1) := by decide +kernel
theorem dL_law_2494 : decode cL_law 2494 = .ok (.aload_n 0, 1) := by decide +kernel
theorem dL_law_2495 : decode cL_law 2495 = .ok (.iload 4, 2) := by decide +kernel
theorem dL_law_2497 : decode cL_law 2497 = .ok (.iconst 2, 1) := by decide +kernel
theorem dL_law_2498 : decode cL_law 2498 = .ok (.iadd, 1) := by decide +kernel
theorem dL_law_2499 : decode cL_law 2499 = .ok (.iaload, 1) := by decide +kernel
theorem dL_law_2500 : decode cL_law 2500 = .ok (.invokevirtual 263, 3) := by decide +kernel
theorem dL_law_2503 : decode cL_law 2503 = .ok (.istore 6, 2) := by decide +kernel
theorem dL_law_2505 : decode cL_law 2505 = .ok (.aload_n 2, 1) := by decide +kernel
theorem dL_law_2506 : decode cL_law 2506 = .ok (.invokevirtual 146, 3) := by decide +kernel
theorem dL_law_2509 : decode cL_law 2509 = .ok (.iload 5, 2) := by decide +kernel
theorem dL_law_2511 : decode cL_law 2511 = .ok (.if_icmp .eq 5, 3) := by decide +kernel
theorem dL_law_2514 : decode cL_law 2514 = .ok (.iconst 0, 1) := by decide +kernel
theorem dL_law_2515 : decode cL_law 2515 = .ok (.ireturn, 1) := by decide +kernel
theorem dL_law_2516 : decode cL_law 2516 = .ok (.iload 5, 2) := by decide +kernel
theorem dL_law_2518 : decode cL_law 2518 = .ok (.ifCond .ne 15, 3) := by decide +kernel
theorem dL_law_2521 : decode cL_law 2521 = .ok (.aload_n 3, 1) := by decide +kernel
theorem dL_law_2522 : decode cL_law 2522 = .ok (.iconst 0, 1) := by decide +kernel
theorem dL_law_2523 : decode cL_law 2523 = .ok (.laload, 1) := by decide +kernel
theorem dL_law_2524 : decode cL_law 2524 = .ok (.iload 6, 2) := by decide +kernel
theorem dL_law_2526 : decode cL_law 2526 = .ok (.i2l, 1) := by decide +kernel
theorem dL_law_2527 : decode cL_law 2527 = .ok (.lcmp, 1) := by decide +kernel
theorem dL_law_2528 : decode cL_law 2528 = .ok (.ifCond .eq 5, 3) := by decide +kernel
theorem dL_law_2531 : decode cL_law 2531 = .ok (.iconst 0, 1) := by decide +kernel
theorem dL_law_2532 : decode cL_law 2532 = .ok (.ireturn, 1) := by decide +kernel
theorem dL_law_2533 : decode cL_law 2533 = .ok (.goto 335, 3) := by decide +kernel
theorem dL_law_2536 : decode cL_law 2536 = .ok (.aload_n 1, 1) := by decide +kernel
theorem dL_law_2537 : decode cL_law 2537 = .ok (.invokevirtual 264, 3) := by decide +kernel
theorem dL_law_2540 : decode cL_law 2540 = .ok (.aload_n 2, 1) := by decide +kernel
theorem dL_law_2541 : decode cL_law 2541 = .ok (.invokevirtual 267, 3) := by decide +kernel
theorem dL_law_2544 : decode cL_law 2544 = .ok (.if_icmp .eq 324, 3) := by decide +kernel
theorem dL_law_2547 : decode cL_law 2547 = .ok (.iconst 0, 1) := by decide +kernel
theorem dL_law_2548 : decode cL_law 2548 = .ok (.ireturn, 1) := by decide +kernel
theorem dL_law_2549 : decode cL_law 2549 = .ok (.aload_n 1, 1) := by decide +kernel
theorem dL_law_2550 : decode cL_law 2550 = .ok (.aload_n 0, 1) := by decide +kernel
theorem dL_law_2551 : decode cL_law 2551 = .ok (.iload 4, 2) := by decide +kernel
theorem dL_law_2553 : decode cL_law 2553 = .ok (.iconst 1, 1) := by decide +kernel
theorem dL_law_2554 : decode cL_law 2554 = .ok (.iadd, 1) := by decide +kernel
theorem dL_law_2555 : decode cL_law 2555 = .ok (.iaload, 1) := by decide +kernel
theorem dL_law_2556 : decode cL_law 2556 = .ok (.aload_n 0, 1) := by decide +kernel
theorem dL_law_2557 : decode cL_law 2557 = .ok (.iload 4, 2) := by decide +kernel
theorem dL_law_2559 : decode cL_law 2559 = .ok (.iconst 2, 1) := by decide +kernel
theorem dL_law_2560 : decode cL_law 2560 = .ok (.iadd, 1) := by decide +kernel
theorem dL_law_2561 : decode cL_law 2561 = .ok (.iaload, 1) := by decide +kernel
theorem dL_law_2562 : decode cL_law 2562 = .ok (.aload_n 3, 1) := by decide +kernel
theorem dL_law_2563 : decode cL_law 2563 = .ok (.invokestatic 268, 3) := by decide +kernel
theorem dL_law_2566 : decode cL_law 2566 = .ok (.istore 5, 2) := by decide +kernel
theorem dL_law_2568 : decode cL_law 2568 = .ok (.aload_n 2, 1) := by decide +kernel
theorem dL_law_2569 : decode cL_law 2569 = .ok (.aload_n 0, 1) := by decide +kernel
theorem dL_law_2570 : decode cL_law 2570 = .ok (.iload 4, 2) := by decide +kernel
theorem dL_law_2572 : decode cL_law 2572 = .ok (.iconst 1, 1) := by decide +kernel
theorem dL_law_2573 : decode cL_law 2573 = .ok (.iadd, 1) := by decide +kernel
theorem dL_law_2574 : decode cL_law 2574 = .ok (.iaload, 1) := by decide +kernel
theorem dL_law_2575 : decode cL_law 2575 = .ok (.aload_n 0, 1) := by decide +kernel
theorem dL_law_2576 : decode cL_law 2576 = .ok (.iload 4, 2) := by decide +kernel
theorem dL_law_2578 : decode cL_law 2578 = .ok (.iconst 2, 1) := by decide +kernel
theorem dL_law_2579 : decode cL_law 2579 = .ok (.iadd, 1) := by decide +kernel
theorem dL_law_2580 : decode cL_law 2580 = .ok (.iaload, 1) := by decide +kernel
theorem dL_law_2581 : decode cL_law 2581 = .ok (.invokevirtual 270, 3) := by decide +kernel
theorem dL_law_2584 : decode cL_law 2584 = .ok (.istore 6, 2) := by decide +kernel
theorem dL_law_2586 : decode cL_law 2586 = .ok (.aload_n 2, 1) := by decide +kernel
theorem dL_law_2587 : decode cL_law 2587 = .ok (.invokevirtual 146, 3) := by decide +kernel
theorem dL_law_2590 : decode cL_law 2590 = .ok (.iload 5, 2) := by decide +kernel
theorem dL_law_2592 : decode cL_law 2592 = .ok (.if_icmp .eq 5, 3) := by decide +kernel
theorem dL_law_2595 : decode cL_law 2595 = .ok (.iconst 0, 1) := by decide +kernel
theorem dL_law_2596 : decode cL_law 2596 = .ok (.ireturn, 1) := by decide +kernel
theorem dL_law_2597 : decode cL_law 2597 = .ok (.iload 5, 2) := by decide +kernel
theorem dL_law_2599 : decode cL_law 2599 = .ok (.ifCond .ne 15, 3) := by decide +kernel
theorem dL_law_2602 : decode cL_law 2602 = .ok (.aload_n 3, 1) := by decide +kernel
theorem dL_law_2603 : decode cL_law 2603 = .ok (.iconst 0, 1) := by decide +kernel
theorem dL_law_2604 : decode cL_law 2604 = .ok (.laload, 1) := by decide +kernel
theorem dL_law_2605 : decode cL_law 2605 = .ok (.iload 6, 2) := by decide +kernel
theorem dL_law_2607 : decode cL_law 2607 = .ok (.i2l, 1) := by decide +kernel
theorem dL_law_2608 : decode cL_law 2608 = .ok (.lcmp, 1) := by decide +kernel
theorem dL_law_2609 : decode cL_law 2609 = .ok (.ifCond .eq 5, 3) := by decide +kernel
theorem dL_law_2612 : decode cL_law 2612 = .ok (.iconst 0, 1) := by decide +kernel
theorem dL_law_2613 : decode cL_law 2613 = .ok (.ireturn, 1) := by decide +kernel
theorem dL_law_2614 : decode cL_law 2614 = .ok (.goto 254, 3) := by decide +kernel
theorem dL_law_2617 : decode cL_law 2617 = .ok (.aload_n 1, 1) := by decide +kernel
theorem dL_law_2618 : decode cL_law 2618 = .ok (.aload_n 0, 1) := by decide +kernel
theorem dL_law_2619 : decode cL_law 2619 = .ok (.iload 4, 2) := by decide +kernel
theorem dL_law_2621 : decode cL_law 2621 = .ok (.iconst 1, 1) := by decide +kernel
theorem dL_law_2622 : decode cL_law 2622 = .ok (.iadd, 1) := by decide +kernel
theorem dL_law_2623 : decode cL_law 2623 = .ok (.iaload, 1) := by decide +kernel
theorem dL_law_2624 : decode cL_law 2624 = .ok (.aload_n 0, 1) := by decide +kernel
theorem dL_law_2625 : decode cL_law 2625 = .ok (.iload 4, 2) := by decide +kernel
theorem dL_law_2627 : decode cL_law 2627 = .ok (.iconst 2, 1) := by decide +kernel
theorem dL_law_2628 : decode cL_law 2628 = .ok (.iadd, 1) := by decide +kernel
theorem dL_law_2629 : decode cL_law 2629 = .ok (.iaload, 1) := by decide +kernel
theorem dL_law_2630 : decode cL_law 2630 = .ok (.aload_n 0, 1) := by decide +kernel
theorem dL_law_2631 : decode cL_law 2631 = .ok (.iload 4, 2) := by decide +kernel
theorem dL_law_2633 : decode cL_law 2633 = .ok (.iconst 3, 1) := by decide +kernel
theorem dL_law_2634 : decode cL_law 2634 = .ok (.iadd, 1) := by decide +kernel
theorem dL_law_2635 : decode cL_law 2635 = .ok (.iaload, 1) := by decide +kernel
theorem dL_law_2636 : decode cL_law 2636 = .ok (.aload_n 3, 1) := by decide +kernel
theorem dL_law_2637 : decode cL_law 2637 = .ok (.invokestatic 271, 3) := by decide +kernel
theorem dL_law_2640 : decode cL_law 2640 = .ok (.istore 5, 2) := by decide +kernel
theorem dL_law_2642 : decode cL_law 2642 = .ok (.aload_n 2, 1) := by decide +kernel
theorem dL_law_2643 : decode cL_law 2643 = .ok (.aload_n 0, 1) := by decide +kernel
theorem dL_law_2644 : decode cL_law 2644 = .ok (.iload 4, 2) := by decide +kernel
theorem dL_law_2646 : decode cL_law 2646 = .ok (.iconst 1, 1) := by decide +kernel
theorem dL_law_2647 : decode cL_law 2647 = .ok (.iadd, 1) := by decide +kernel
theorem dL_law_2648 : decode cL_law 2648 = .ok (.iaload, 1) := by decide +kernel
theorem dL_law_2649 : decode cL_law 2649 = .ok (.aload_n 0, 1) := by decide +kernel
theorem dL_law_2650 : decode cL_law 2650 = .ok (.iload 4, 2) := by decide +kernel
theorem dL_law_2652 : decode cL_law 2652 = .ok (.iconst 2, 1) := by decide +kernel
theorem dL_law_2653 : decode cL_law 2653 = .ok (.iadd, 1) := by decide +kernel
theorem dL_law_2654 : decode cL_law 2654 = .ok (.iaload, 1) := by decide +kernel
theorem dL_law_2655 : decode cL_law 2655 = .ok (.aload_n 0, 1) := by decide +kernel
theorem dL_law_2656 : decode cL_law 2656 = .ok (.iload 4, 2) := by decide +kernel
theorem dL_law_2658 : decode cL_law 2658 = .ok (.iconst 3, 1) := by decide +kernel
theorem dL_law_2659 : decode cL_law 2659 = .ok (.iadd, 1) := by decide +kernel
theorem dL_law_2660 : decode cL_law 2660 = .ok (.iaload, 1) := by decide +kernel
theorem dL_law_2661 : decode cL_law 2661 = .ok (.invokevirtual 273, 3) := by decide +kernel
theorem dL_law_2664 : decode cL_law 2664 = .ok (.istore 6, 2) := by decide +kernel
theorem dL_law_2666 : decode cL_law 2666 = .ok (.aload_n 2, 1) := by decide +kernel
theorem dL_law_2667 : decode cL_law 2667 = .ok (.invokevirtual 146, 3) := by decide +kernel
theorem dL_law_2670 : decode cL_law 2670 = .ok (.iload 5, 2) := by decide +kernel
theorem dL_law_2672 : decode cL_law 2672 = .ok (.if_icmp .eq 5, 3) := by decide +kernel
theorem dL_law_2675 : decode cL_law 2675 = .ok (.iconst 0, 1) := by decide +kernel
theorem dL_law_2676 : decode cL_law 2676 = .ok (.ireturn, 1) := by decide +kernel
theorem dL_law_2677 : decode cL_law 2677 = .ok (.iload 5, 2) := by decide +kernel
theorem dL_law_2679 : decode cL_law 2679 = .ok (.ifCond .ne 15, 3) := by decide +kernel
theorem dL_law_2682 : decode cL_law 2682 = .ok (.aload_n 3, 1) := by decide +kernel
theorem dL_law_2683 : decode cL_law 2683 = .ok (.iconst 0, 1) := by decide +kernel
theorem dL_law_2684 : decode cL_law 2684 = .ok (.laload, 1) := by decide +kernel
theorem dL_law_2685 : decode cL_law 2685 = .ok (.iload 6, 2) := by decide +kernel
theorem dL_law_2687 : decode cL_law 2687 = .ok (.i2l, 1) := by decide +kernel
theorem dL_law_2688 : decode cL_law 2688 = .ok (.lcmp, 1) := by decide +kernel
theorem dL_law_2689 : decode cL_law 2689 = .ok (.ifCond .eq 5, 3) := by decide +kernel
theorem dL_law_2692 : decode cL_law 2692 = .ok (.iconst 0, 1) := by decide +kernel
theorem dL_law_2693 : decode cL_law 2693 = .ok (.ireturn, 1) := by decide +kernel
theorem dL_law_2694 : decode cL_law 2694 = .ok (.goto 174, 3) := by decide +kernel
theorem dL_law_2697 : decode cL_law 2697 = .ok (.aload_n 1, 1) := by decide +kernel
theorem dL_law_2698 : decode cL_law 2698 = .ok (.aload_n 0, 1) := by decide +kernel
theorem dL_law_2699 : decode cL_law 2699 = .ok (.iload 4, 2) := by decide +kernel
theorem dL_law_2701 : decode cL_law 2701 = .ok (.iconst 1, 1) := by decide +kernel
theorem dL_law_2702 : decode cL_law 2702 = .ok (.iadd, 1) := by decide +kernel
theorem dL_law_2703 : decode cL_law 2703 = .ok (.iaload, 1) := by decide +kernel
theorem dL_law_2704 : decode cL_law 2704 = .ok (.ifCond .eq 7, 3) := by decide +kernel
theorem dL_law_2707 : decode cL_law 2707 = .ok (.iconst 1, 1) := by decide +kernel
theorem dL_law_2708 : decode cL_law 2708 = .ok (.goto 4, 3) := by decide +kernel
theorem dL_law_2711 : decode cL_law 2711 = .ok (.iconst 0, 1) := by decide +kernel
theorem dL_law_2712 : decode cL_law 2712 = .ok (.invokevirtual 274, 3) := by decide +kernel
theorem dL_law_2715 : decode cL_law 2715 = .ok (.aload_n 2, 1) := by decide +kernel
theorem dL_law_2716 : decode cL_law 2716 = .ok (.aload_n 0, 1) := by decide +kernel
theorem dL_law_2717 : decode cL_law 2717 = .ok (.iload 4, 2) := by decide +kernel
theorem dL_law_2719 : decode cL_law 2719 = .ok (.iconst 1, 1) := by decide +kernel
theorem dL_law_2720 : decode cL_law 2720 = .ok (.iadd, 1) := by decide +kernel
theorem dL_law_2721 : decode cL_law 2721 = .ok (.iaload, 1) := by decide +kernel
theorem dL_law_2722 : decode cL_law 2722 = .ok (.ifCond .eq 7, 3) := by decide +kernel
theorem dL_law_2725 : decode cL_law 2725 = .ok (.iconst 1, 1) := by decide +kernel
theorem dL_law_2726 : decode cL_law 2726 = .ok (.goto 4, 3) := by decide +kernel
theorem dL_law_2729 : decode cL_law 2729 = .ok (.iconst 0, 1) := by decide +kernel
theorem dL_law_2730 : decode cL_law 2730 = .ok (.invokevirtual 278, 3) := by decide +kernel
theorem dL_law_2733 : decode cL_law 2733 = .ok (.if_icmp .eq 135, 3) := by decide +kernel
theorem dL_law_2736 : decode cL_law 2736 = .ok (.iconst 0, 1) := by decide +kernel
theorem dL_law_2737 : decode cL_law 2737 = .ok (.ireturn, 1) := by decide +kernel
theorem dL_law_2738 : decode cL_law 2738 = .ok (.aload_n 1, 1) := by decide +kernel
theorem dL_law_2739 : decode cL_law 2739 = .ok (.aload_n 0, 1) := by decide +kernel
theorem dL_law_2740 : decode cL_law 2740 = .ok (.iload 4, 2) := by decide +kernel
theorem dL_law_2742 : decode cL_law 2742 = .ok (.iconst 1, 1) := by decide +kernel
theorem dL_law_2743 : decode cL_law 2743 = .ok (.iadd, 1) := by decide +kernel
theorem dL_law_2744 : decode cL_law 2744 = .ok (.iaload, 1) := by decide +kernel
theorem dL_law_2745 : decode cL_law 2745 = .ok (.aload_n 0, 1) := by decide +kernel
theorem dL_law_2746 : decode cL_law 2746 = .ok (.iload 4, 2) := by decide +kernel
theorem dL_law_2748 : decode cL_law 2748 = .ok (.iconst 2, 1) := by decide +kernel
theorem dL_law_2749 : decode cL_law 2749 = .ok (.iadd, 1) := by decide +kernel
theorem dL_law_2750 : decode cL_law 2750 = .ok (.iaload, 1) := by decide +kernel
theorem dL_law_2751 : decode cL_law 2751 = .ok (.aload_n 3, 1) := by decide +kernel
theorem dL_law_2752 : decode cL_law 2752 = .ok (.invokestatic 279, 3) := by decide +kernel
theorem dL_law_2755 : decode cL_law 2755 = .ok (.istore 5, 2) := by decide +kernel
theorem dL_law_2757 : decode cL_law 2757 = .ok (.aload_n 2, 1) := by decide +kernel
theorem dL_law_2758 : decode cL_law 2758 = .ok (.aload_n 0, 1) := by decide +kernel
theorem dL_law_2759 : decode cL_law 2759 = .ok (.iload 4, 2) := by decide +kernel
theorem dL_law_2761 : decode cL_law 2761 = .ok (.iconst 1, 1) := by decide +kernel
theorem dL_law_2762 : decode cL_law 2762 = .ok (.iadd, 1) := by decide +kernel
theorem dL_law_2763 : decode cL_law 2763 = .ok (.iaload, 1) := by decide +kernel
theorem dL_law_2764 : decode cL_law 2764 = .ok (.aload_n 0, 1) := by decide +kernel
theorem dL_law_2765 : decode cL_law 2765 = .ok (.iload 4, 2) := by decide +kernel
theorem dL_law_2767 : decode cL_law 2767 = .ok (.iconst 2, 1) := by decide +kernel
theorem dL_law_2768 : decode cL_law 2768 = .ok (.iadd, 1) := by decide +kernel
theorem dL_law_2769 : decode cL_law 2769 = .ok (.iaload, 1) := by decide +kernel
theorem dL_law_2770 : decode cL_law 2770 = .ok (.invokevirtual 281, 3) := by decide +kernel
theorem dL_law_2773 : decode cL_law 2773 = .ok (.istore 6, 2) := by decide +kernel
theorem dL_law_2775 : decode cL_law 2775 = .ok (.aload_n 2, 1) := by decide +kernel
theorem dL_law_2776 : decode cL_law 2776 = .ok (.invokevirtual 146, 3) := by decide +kernel
theorem dL_law_2779 : decode cL_law 2779 = .ok (.iload 5, 2) := by decide +kernel
theorem dL_law_2781 : decode cL_law 2781 = .ok (.if_icmp .eq 5, 3) := by decide +kernel
theorem dL_law_2784 : decode cL_law 2784 = .ok (.iconst 0, 1) := by decide +kernel
theorem dL_law_2785 : decode cL_law 2785 = .ok (.ireturn, 1) := by decide +kernel
theorem dL_law_2786 : decode cL_law 2786 = .ok (.iload 5, 2) := by decide +kernel
theorem dL_law_2788 : decode cL_law 2788 = .ok (.ifCond .ne 15, 3) := by decide +kernel
theorem dL_law_2791 : decode cL_law 2791 = .ok (.aload_n 3, 1) := by decide +kernel
theorem dL_law_2792 : decode cL_law 2792 = .ok (.iconst 0, 1) := by decide +kernel
theorem dL_law_2793 : decode cL_law 2793 = .ok (.laload, 1) := by decide +kernel
theorem dL_law_2794 : decode cL_law 2794 = .ok (.iload 6, 2) := by decide +kernel
theorem dL_law_2796 : decode cL_law 2796 = .ok (.i2l, 1) := by decide +kernel
theorem dL_law_2797 : decode cL_law 2797 = .ok (.lcmp, 1) := by decide +kernel
theorem dL_law_2798 : decode cL_law 2798 = .ok (.ifCond .eq 5, 3) := by decide +kernel
theorem dL_law_2801 : decode cL_law 2801 = .ok (.iconst 0, 1) := by decide +kernel
theorem dL_law_2802 : decode cL_law 2802 = .ok (.ireturn, 1) := by decide +kernel
theorem dL_law_2803 : decode cL_law 2803 = .ok (.goto 65, 3) := by decide +kernel
theorem dL_law_2806 : decode cL_law 2806 = .ok (.aload_n 1, 1) := by decide +kernel
theorem dL_law_2807 : decode cL_law 2807 = .ok (.invokevirtual 282, 3) := by decide +kernel
theorem dL_law_2810 : decode cL_law 2810 = .ok (.aload_n 2, 1) := by decide +kernel
theorem dL_law_2811 : decode cL_law 2811 = .ok (.invokevirtual 285, 3) := by decide +kernel
theorem dL_law_2814 : decode cL_law 2814 = .ok (.if_icmp .eq 54, 3) := by decide +kernel
theorem dL_law_2817 : decode cL_law 2817 = .ok (.iconst 0, 1) := by decide +kernel
theorem dL_law_2818 : decode cL_law 2818 = .ok (.ireturn, 1) := by decide +kernel
theorem dL_law_2819 : decode cL_law 2819 = .ok (.aload_n 1, 1) := by decide +kernel
theorem dL_law_2820 : decode cL_law 2820 = .ok (.invokevirtual 286, 3) := by decide +kernel
theorem dL_law_2823 : decode cL_law 2823 = .ok (.aload_n 2, 1) := by decide +kernel
theorem dL_law_2824 : decode cL_law 2824 = .ok (.invokevirtual 289, 3) := by decide +kernel
theorem dL_law_2827 : decode cL_law 2827 = .ok (.goto 41, 3) := by decide +kernel
theorem dL_law_2830 : decode cL_law 2830 = .ok (.aload_n 1, 1) := by decide +kernel
theorem dL_law_2831 : decode cL_law 2831 = .ok (.invokevirtual 290, 3) := by decide +kernel
theorem dL_law_2834 : decode cL_law 2834 = .ok (.aload_n 2, 1) := by decide +kernel
theorem dL_law_2835 : decode cL_law 2835 = .ok (.invokevirtual 294, 3) := by decide +kernel
theorem dL_law_2838 : decode cL_law 2838 = .ok (.if_icmp .eq 30, 3) := by decide +kernel
theorem dL_law_2841 : decode cL_law 2841 = .ok (.iconst 0, 1) := by decide +kernel
theorem dL_law_2842 : decode cL_law 2842 = .ok (.ireturn, 1) := by decide +kernel
theorem dL_law_2843 : decode cL_law 2843 = .ok (.aload_n 1, 1) := by decide +kernel
theorem dL_law_2844 : decode cL_law 2844 = .ok (.aload_n 0, 1) := by decide +kernel
theorem dL_law_2845 : decode cL_law 2845 = .ok (.iload 4, 2) := by decide +kernel
theorem dL_law_2847 : decode cL_law 2847 = .ok (.iconst 1, 1) := by decide +kernel
theorem dL_law_2848 : decode cL_law 2848 = .ok (.iadd, 1) := by decide +kernel
theorem dL_law_2849 : decode cL_law 2849 = .ok (.iaload, 1) := by decide +kernel
theorem dL_law_2850 : decode cL_law 2850 = .ok (.invokevirtual 295, 3) := by decide +kernel
theorem dL_law_2853 : decode cL_law 2853 = .ok (.aload_n 2, 1) := by decide +kernel
theorem dL_law_2854 : decode cL_law 2854 = .ok (.aload_n 0, 1) := by decide +kernel
theorem dL_law_2855 : decode cL_law 2855 = .ok (.iload 4, 2) := by decide +kernel
theorem dL_law_2857 : decode cL_law 2857 = .ok (.iconst 1, 1) := by decide +kernel
theorem dL_law_2858 : decode cL_law 2858 = .ok (.iadd, 1) := by decide +kernel
theorem dL_law_2859 : decode cL_law 2859 = .ok (.iaload, 1) := by decide +kernel
theorem dL_law_2860 : decode cL_law 2860 = .ok (.invokevirtual 298, 3) := by decide +kernel
theorem dL_law_2863 : decode cL_law 2863 = .ok (.if_icmp .eq 5, 3) := by decide +kernel
theorem dL_law_2866 : decode cL_law 2866 = .ok (.iconst 0, 1) := by decide +kernel
theorem dL_law_2867 : decode cL_law 2867 = .ok (.ireturn, 1) := by decide +kernel
theorem dL_law_2868 : decode cL_law 2868 = .ok (.iinc 4 6, 3) := by decide +kernel
theorem dL_law_2871 : decode cL_law 2871 = .ok (.goto (-2848), 3) := by decide +kernel
theorem dL_law_2874 : decode cL_law 2874 = .ok (.iconst 1, 1) := by decide +kernel
theorem dL_law_2875 : decode cL_law 2875 = .ok (.ireturn, 1) := by decide +kernel
