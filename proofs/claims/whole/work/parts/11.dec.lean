theorem dX10_init_15 : decode cX10_init 15 = .ok (.newarray .int, 2) := by decide +kernel
theorem dX10_init_17 : decode cX10_init 17 = .ok (.putfield 15, 3) := by decide +kernel
theorem dX10_init_20 : decode cX10_init 20 = .ok (.aload_n 0, 1) := by decide +kernel
theorem dX10_init_21 : decode cX10_init 21 = .ok (.bipush 100, 2) := by decide +kernel
theorem dX10_init_23 : decode cX10_init 23 = .ok (.newarray .int, 2) := by decide +kernel
theorem dX10_init_25 : decode cX10_init 25 = .ok (.putfield 18, 3) := by decide +kernel
theorem dX10_init_28 : decode cX10_init 28 = .ok (.aload_n 0, 1) := by decide +kernel
theorem dX10_init_29 : decode cX10_init 29 = .ok (.bipush 100, 2) := by decide +kernel
theorem dX10_init_31 : decode cX10_init 31 = .ok (.newarray .int, 2) := by decide +kernel
theorem dX10_init_33 : decode cX10_init 33 = .ok (.putfield 21, 3) := by decide +kernel
theorem dX10_init_36 : decode cX10_init 36 = .ok (.return_, 1) := by decide +kernel
theorem dX10_note_0 : decode cX10_note 0 = .ok (.aload_n 0, 1) := by decide +kernel
theorem dX10_note_1 : decode cX10_note 1 = .ok (.getfield 24, 3) := by decide +kernel
theorem dX10_note_4 : decode cX10_note 4 = .ok (.ifCond .lt 12, 3) := by decide +kernel
theorem dX10_note_7 : decode cX10_note 7 = .ok (.aload_n 0, 1) := by decide +kernel
theorem dX10_note_8 : decode cX10_note 8 = .ok (.getfield 24, 3) := by decide +kernel
theorem dX10_note_11 : decode cX10_note 11 = .ok (.bipush 100, 2) := by decide +kernel
theorem dX10_note_13 : decode cX10_note 13 = .ok (.if_icmp .lt 5, 3) := by decide +kernel
theorem dX10_note_16 : decode cX10_note 16 = .ok (.iconst (-1), 1) := by decide +kernel
theorem dX10_note_17 : decode cX10_note 17 = .ok (.ireturn, 1) := by decide +kernel
theorem dX10_note_18 : decode cX10_note 18 = .ok (.aload_n 0, 1) := by decide +kernel
theorem dX10_note_19 : decode cX10_note 19 = .ok (.getfield 9, 3) := by decide +kernel
theorem dX10_note_22 : decode cX10_note 22 = .ok (.aload_n 0, 1) := by decide +kernel
theorem dX10_note_23 : decode cX10_note 23 = .ok (.getfield 24, 3) := by decide +kernel
theorem dX10_note_26 : decode cX10_note 26 = .ok (.iload_n 1, 1) := by decide +kernel
theorem dX10_note_27 : decode cX10_note 27 = .ok (.iastore, 1) := by decide +kernel
theorem dX10_note_28 : decode cX10_note 28 = .ok (.aload_n 0, 1) := by decide +kernel
theorem dX10_note_29 : decode cX10_note 29 = .ok (.getfield 15, 3) := by decide +kernel
theorem dX10_note_32 : decode cX10_note 32 = .ok (.aload_n 0, 1) := by decide +kernel
theorem dX10_note_33 : decode cX10_note 33 = .ok (.getfield 24, 3) := by decide +kernel
theorem dX10_note_36 : decode cX10_note 36 = .ok (.iload_n 2, 1) := by decide +kernel
theorem dX10_note_37 : decode cX10_note 37 = .ok (.iastore, 1) := by decide +kernel
theorem dX10_note_38 : decode cX10_note 38 = .ok (.aload_n 0, 1) := by decide +kernel
theorem dX10_note_39 : decode cX10_note 39 = .ok (.getfield 18, 3) := by decide +kernel
theorem dX10_note_42 : decode cX10_note 42 = .ok (.aload_n 0, 1) := by decide +kernel
theorem dX10_note_43 : decode cX10_note 43 = .ok (.getfield 24, 3) := by decide +kernel
theorem dX10_note_46 : decode cX10_note 46 = .ok (.iload_n 3, 1) := by decide +kernel
theorem dX10_note_47 : decode cX10_note 47 = .ok (.iastore, 1) := by decide +kernel
theorem dX10_note_48 : decode cX10_note 48 = .ok (.aload_n 0, 1) := by decide +kernel
theorem dX10_note_49 : decode cX10_note 49 = .ok (.getfield 21, 3) := by decide +kernel
theorem dX10_note_52 : decode cX10_note 52 = .ok (.aload_n 0, 1) := by decide +kernel
theorem dX10_note_53 : decode cX10_note 53 = .ok (.getfield 24, 3) := by decide +kernel
theorem dX10_note_56 : decode cX10_note 56 = .ok (.iload 4, 2) := by decide +kernel
theorem dX10_note_58 : decode cX10_note 58 = .ok (.iastore, 1) := by decide +kernel
theorem dX10_note_59 : decode cX10_note 59 = .ok (.aload_n 0, 1) := by decide +kernel
theorem dX10_note_60 : decode cX10_note 60 = .ok (.dup, 1) := by decide +kernel
theorem dX10_note_61 : decode cX10_note 61 = .ok (.getfield 24, 3) := by decide +kernel
theorem dX10_note_64 : decode cX10_note 64 = .ok (.iconst 1, 1) := by decide +kernel
theorem dX10_note_65 : decode cX10_note 65 = .ok (.iadd, 1) := by decide +kernel
theorem dX10_note_66 : decode cX10_note 66 = .ok (.putfield 24, 3) := by decide +kernel
theorem dX10_note_69 : decode cX10_note 69 = .ok (.aload_n 0, 1) := by decide +kernel
theorem dX10_note_70 : decode cX10_note 70 = .ok (.getfield 24, 3) := by decide +kernel
theorem dX10_note_73 : decode cX10_note 73 = .ok (.ireturn, 1) := by decide +kernel
theorem dX10_find_0 : decode cX10_find 0 = .ok (.aload_n 0, 1) := by decide +kernel
theorem dX10_find_1 : decode cX10_find 1 = .ok (.iconst 0, 1) := by decide +kernel
theorem dX10_find_2 : decode cX10_find 2 = .ok (.putfield 28, 3) := by decide +kernel
theorem dX10_find_5 : decode cX10_find 5 = .ok (.aload_n 0, 1) := by decide +kernel
theorem dX10_find_6 : decode cX10_find 6 = .ok (.iconst 0, 1) := by decide +kernel
theorem dX10_find_7 : decode cX10_find 7 = .ok (.putfield 31, 3) := by decide +kernel
theorem dX10_find_10 : decode cX10_find 10 = .ok (.aload_n 0, 1) := by decide +kernel
theorem dX10_find_11 : decode cX10_find 11 = .ok (.iconst 0, 1) := by decide +kernel
theorem dX10_find_12 : decode cX10_find 12 = .ok (.putfield 34, 3) := by decide +kernel
theorem dX10_find_15 : decode cX10_find 15 = .ok (.aload_n 0, 1) := by decide +kernel
theorem dX10_find_16 : decode cX10_find 16 = .ok (.iconst (-1), 1) := by decide +kernel
theorem dX10_find_17 : decode cX10_find 17 = .ok (.putfield 37, 3) := by decide +kernel
theorem dX10_find_20 : decode cX10_find 20 = .ok (.aload_n 0, 1) := by decide +kernel
theorem dX10_find_21 : decode cX10_find 21 = .ok (.iconst (-1), 1) := by decide +kernel
theorem dX10_find_22 : decode cX10_find 22 = .ok (.putfield 40, 3) := by decide +kernel
theorem dX10_find_25 : decode cX10_find 25 = .ok (.aload_n 0, 1) := by decide +kernel
theorem dX10_find_26 : decode cX10_find 26 = .ok (.getfield 24, 3) := by decide +kernel
theorem dX10_find_29 : decode cX10_find 29 = .ok (.bipush 100, 2) := by decide +kernel
theorem dX10_find_31 : decode cX10_find 31 = .ok (.invokestatic 43, 3) := by decide +kernel
theorem dX10_find_34 : decode cX10_find 34 = .ok (.iconst 1, 1) := by decide +kernel
theorem dX10_find_35 : decode cX10_find 35 = .ok (.isub, 1) := by decide +kernel
theorem dX10_find_36 : decode cX10_find 36 = .ok (.istore_n 3, 1) := by decide +kernel
theorem dX10_find_37 : decode cX10_find 37 = .ok (.iload_n 3, 1) := by decide +kernel
theorem dX10_find_38 : decode cX10_find 38 = .ok (.ifCond .lt 127, 3) := by decide +kernel
theorem dX10_find_41 : decode cX10_find 41 = .ok (.aload_n 0, 1) := by decide +kernel
theorem dX10_find_42 : decode cX10_find 42 = .ok (.getfield 28, 3) := by decide +kernel
theorem dX10_find_45 : decode cX10_find 45 = .ok (.iconst 4, 1) := by decide +kernel
theorem dX10_find_46 : decode cX10_find 46 = .ok (.if_icmp .ge 119, 3) := by decide +kernel
theorem dX10_find_49 : decode cX10_find 49 = .ok (.aload_n 0, 1) := by decide +kernel
theorem dX10_find_50 : decode cX10_find 50 = .ok (.getfield 9, 3) := by decide +kernel
theorem dX10_find_53 : decode cX10_find 53 = .ok (.iload_n 3, 1) := by decide +kernel
theorem dX10_find_54 : decode cX10_find 54 = .ok (.iaload, 1) := by decide +kernel
theorem dX10_find_55 : decode cX10_find 55 = .ok (.iload_n 1, 1) := by decide +kernel
theorem dX10_find_56 : decode cX10_find 56 = .ok (.if_icmp .ne 103, 3) := by decide +kernel
theorem dX10_find_59 : decode cX10_find 59 = .ok (.aload_n 0, 1) := by decide +kernel
theorem dX10_find_60 : decode cX10_find 60 = .ok (.getfield 15, 3) := by decide +kernel
theorem dX10_find_63 : decode cX10_find 63 = .ok (.iload_n 3, 1) := by decide +kernel
theorem dX10_find_64 : decode cX10_find 64 = .ok (.iaload, 1) := by decide +kernel
theorem dX10_find_65 : decode cX10_find 65 = .ok (.iload_n 2, 1) := by decide +kernel
theorem dX10_find_66 : decode cX10_find 66 = .ok (.if_icmp .ne 93, 3) := by decide +kernel
theorem dX10_find_69 : decode cX10_find 69 = .ok (.aload_n 0, 1) := by decide +kernel
theorem dX10_find_70 : decode cX10_find 70 = .ok (.aload_n 0, 1) := by decide +kernel
theorem dX10_find_71 : decode cX10_find 71 = .ok (.getfield 28, 3) := by decide +kernel
theorem dX10_find_74 : decode cX10_find 74 = .ok (.ifCond .ne 12, 3) := by decide +kernel
theorem dX10_find_77 : decode cX10_find 77 = .ok (.aload_n 0, 1) := by decide +kernel
theorem dX10_find_78 : decode cX10_find 78 = .ok (.getfield 21, 3) := by decide +kernel
theorem dX10_find_81 : decode cX10_find 81 = .ok (.iload_n 3, 1) := by decide +kernel
theorem dX10_find_82 : decode cX10_find 82 = .ok (.iaload, 1) := by decide +kernel
theorem dX10_find_83 : decode cX10_find 83 = .ok (.goto 16, 3) := by decide +kernel
theorem dX10_find_86 : decode cX10_find 86 = .ok (.aload_n 0, 1) := by decide +kernel
theorem dX10_find_87 : decode cX10_find 87 = .ok (.getfield 37, 3) := by decide +kernel
theorem dX10_find_90 : decode cX10_find 90 = .ok (.aload_n 0, 1) := by decide +kernel
theorem dX10_find_91 : decode cX10_find 91 = .ok (.getfield 21, 3) := by decide +kernel
theorem dX10_find_94 : decode cX10_find 94 = .ok (.iload_n 3, 1) := by decide +kernel
theorem dX10_find_95 : decode cX10_find 95 = .ok (.iaload, 1) := by decide +kernel
theorem dX10_find_96 : decode cX10_find 96 = .ok (.invokestatic 43, 3) := by decide +kernel
theorem dX10_find_99 : decode cX10_find 99 = .ok (.putfield 37, 3) := by decide +kernel
theorem dX10_find_102 : decode cX10_find 102 = .ok (.aload_n 0, 1) := by decide +kernel
theorem dX10_find_103 : decode cX10_find 103 = .ok (.aload_n 0, 1) := by decide +kernel
theorem dX10_find_104 : decode cX10_find 104 = .ok (.getfield 40, 3) := by decide +kernel
theorem dX10_find_107 : decode cX10_find 107 = .ok (.aload_n 0, 1) := by decide +kernel
theorem dX10_find_108 : decode cX10_find 108 = .ok (.getfield 21, 3) := by decide +kernel
theorem dX10_find_111 : decode cX10_find 111 = .ok (.iload_n 3, 1) := by decide +kernel
theorem dX10_find_112 : decode cX10_find 112 = .ok (.iaload, 1) := by decide +kernel
theorem dX10_find_113 : decode cX10_find 113 = .ok (.invokestatic 49, 3) := by decide +kernel
theorem dX10_find_116 : decode cX10_find 116 = .ok (.putfield 40, 3) := by decide +kernel
theorem dX10_find_119 : decode cX10_find 119 = .ok (.aload_n 0, 1) := by decide +kernel
theorem dX10_find_120 : decode cX10_find 120 = .ok (.dup, 1) := by decide +kernel
theorem dX10_find_121 : decode cX10_find 121 = .ok (.getfield 31, 3) := by decide +kernel
theorem dX10_find_124 : decode cX10_find 124 = .ok (.aload_n 0, 1) := by decide +kernel
theorem dX10_find_125 : decode cX10_find 125 = .ok (.getfield 21, 3) := by decide +kernel
theorem dX10_find_128 : decode cX10_find 128 = .ok (.iload_n 3, 1) := by decide +kernel
theorem dX10_find_129 : decode cX10_find 129 = .ok (.iaload, 1) := by decide +kernel
theorem dX10_find_130 : decode cX10_find 130 = .ok (.iadd, 1) := by decide +kernel
theorem dX10_find_131 : decode cX10_find 131 = .ok (.putfield 31, 3) := by decide +kernel
theorem dX10_find_134 : decode cX10_find 134 = .ok (.aload_n 0, 1) := by decide +kernel
theorem dX10_find_135 : decode cX10_find 135 = .ok (.dup, 1) := by decide +kernel
theorem dX10_find_136 : decode cX10_find 136 = .ok (.getfield 34, 3) := by decide +kernel
theorem dX10_find_139 : decode cX10_find 139 = .ok (.aload_n 0, 1) := by decide +kernel
theorem dX10_find_140 : decode cX10_find 140 = .ok (.getfield 18, 3) := by decide +kernel
theorem dX10_find_143 : decode cX10_find 143 = .ok (.iload_n 3, 1) := by decide +kernel
theorem dX10_find_144 : decode cX10_find 144 = .ok (.iaload, 1) := by decide +kernel
theorem dX10_find_145 : decode cX10_find 145 = .ok (.iadd, 1) := by decide +kernel
theorem dX10_find_146 : decode cX10_find 146 = .ok (.putfield 34, 3) := by decide +kernel
theorem dX10_find_149 : decode cX10_find 149 = .ok (.aload_n 0, 1) := by decide +kernel
theorem dX10_find_150 : decode cX10_find 150 = .ok (.dup, 1) := by decide +kernel
theorem dX10_find_151 : decode cX10_find 151 = .ok (.getfield 28, 3) := by decide +kernel
theorem dX10_find_154 : decode cX10_find 154 = .ok (.iconst 1, 1) := by decide +kernel
theorem dX10_find_155 : decode cX10_find 155 = .ok (.iadd, 1) := by decide +kernel
theorem dX10_find_156 : decode cX10_find 156 = .ok (.putfield 28, 3) := by decide +kernel
theorem dX10_find_159 : decode cX10_find 159 = .ok (.iinc 3 (-1), 3) := by decide +kernel
theorem dX10_find_162 : decode cX10_find 162 = .ok (.goto (-125), 3) := by decide +kernel
theorem dX10_find_165 : decode cX10_find 165 = .ok (.return_, 1) := by decide +kernel
theorem dX10_foretold_0 : decode cX10_foretold 0 = .ok (.iload_n 2, 1) := by decide +kernel
theorem dX10_foretold_1 : decode cX10_foretold 1 = .ok (.tableswitch 76 0 2 #[27, 66, 71], 27) := by decide +kernel
theorem dX10_foretold_28 : decode cX10_foretold 28 = .ok (.aload_n 0, 1) := by decide +kernel
theorem dX10_foretold_29 : decode cX10_foretold 29 = .ok (.getfield 28, 3) := by decide +kernel
theorem dX10_foretold_32 : decode cX10_foretold 32 = .ok (.ifCond .gt 7, 3) := by decide +kernel
theorem dX10_foretold_35 : decode cX10_foretold 35 = .ok (.iconst (-1), 1) := by decide +kernel
theorem dX10_foretold_36 : decode cX10_foretold 36 = .ok (.goto 30, 3) := by decide +kernel
theorem dX10_foretold_39 : decode cX10_foretold 39 = .ok (.iconst 0, 1) := by decide +kernel
theorem dX10_foretold_40 : decode cX10_foretold 40 = .ok (.aload_n 0, 1) := by decide +kernel
theorem dX10_foretold_41 : decode cX10_foretold 41 = .ok (.getfield 31, 3) := by decide +kernel
theorem dX10_foretold_44 : decode cX10_foretold 44 = .ok (.aload_n 0, 1) := by decide +kernel
theorem dX10_foretold_45 : decode cX10_foretold 45 = .ok (.getfield 28, 3) := by decide +kernel
theorem dX10_foretold_48 : decode cX10_foretold 48 = .ok (.idiv, 1) := by decide +kernel
theorem dX10_foretold_49 : decode cX10_foretold 49 = .ok (.iconst 2, 1) := by decide +kernel
theorem dX10_foretold_50 : decode cX10_foretold 50 = .ok (.iload_n 1, 1) := by decide +kernel
theorem dX10_foretold_51 : decode cX10_foretold 51 = .ok (.aload_n 0, 1) := by decide +kernel
theorem dX10_foretold_52 : decode cX10_foretold 52 = .ok (.getfield 34, 3) := by decide +kernel
theorem dX10_foretold_55 : decode cX10_foretold 55 = .ok (.aload_n 0, 1) := by decide +kernel
theorem dX10_foretold_56 : decode cX10_foretold 56 = .ok (.getfield 28, 3) := by decide +kernel
theorem dX10_foretold_59 : decode cX10_foretold 59 = .ok (.idiv, 1) := by decide +kernel
theorem dX10_foretold_60 : decode cX10_foretold 60 = .ok (.isub, 1) := by decide +kernel
theorem dX10_foretold_61 : decode cX10_foretold 61 = .ok (.imul, 1) := by decide +kernel
theorem dX10_foretold_62 : decode cX10_foretold 62 = .ok (.iadd, 1) := by decide +kernel
theorem dX10_foretold_63 : decode cX10_foretold 63 = .ok (.invokestatic 49, 3) := by decide +kernel
theorem dX10_foretold_66 : decode cX10_foretold 66 = .ok (.ireturn, 1) := by decide +kernel
theorem dX10_foretold_67 : decode cX10_foretold 67 = .ok (.aload_n 0, 1) := by decide +kernel
theorem dX10_foretold_68 : decode cX10_foretold 68 = .ok (.getfield 37, 3) := by decide +kernel
theorem dX10_foretold_71 : decode cX10_foretold 71 = .ok (.ireturn, 1) := by decide +kernel
theorem dX10_foretold_72 : decode cX10_foretold 72 = .ok (.aload_n 0, 1) := by decide +kernel
theorem dX10_foretold_73 : decode cX10_foretold 73 = .ok (.getfield 40, 3) := by decide +kernel
theorem dX10_foretold_76 : decode cX10_foretold 76 = .ok (.ireturn, 1) := by decide +kernel
theorem dX10_foretold_77 : decode cX10_foretold 77 = .ok (.aload_n 0, 1) := by decide +kernel
theorem dX10_foretold_78 : decode cX10_foretold 78 = .ok (.getfield 28, 3) := by decide +kernel
theorem dX10_foretold_81 : decode cX10_foretold 81 = .ok (.ireturn, 1) := by decide +kernel
theorem dX10_isFar_0 : decode cX10_isFar 0 = .ok (.aload_n 0, 1) := by decide +kernel
theorem dX10_isFar_1 : decode cX10_isFar 1 = .ok (.getfield 28, 3) := by decide +kernel
theorem dX10_isFar_4 : decode cX10_isFar 4 = .ok (.ifCond .le 27, 3) := by decide +kernel
theorem dX10_isFar_7 : decode cX10_isFar 7 = .ok (.iload_n 1, 1) := by decide +kernel
theorem dX10_isFar_8 : decode cX10_isFar 8 = .ok (.aload_n 0, 1) := by decide +kernel
theorem dX10_isFar_9 : decode cX10_isFar 9 = .ok (.getfield 37, 3) := by decide +kernel
theorem dX10_isFar_12 : decode cX10_isFar 12 = .ok (.iconst 2, 1) := by decide +kernel
theorem dX10_isFar_13 : decode cX10_isFar 13 = .ok (.idiv, 1) := by decide +kernel
theorem dX10_isFar_14 : decode cX10_isFar 14 = .ok (.if_icmp .lt 13, 3) := by decide +kernel
theorem dX10_isFar_17 : decode cX10_isFar 17 = .ok (.iload_n 1, 1) := by decide +kernel
theorem dX10_isFar_18 : decode cX10_isFar 18 = .ok (.iconst 2, 1) := by decide +kernel
theorem dX10_isFar_19 : decode cX10_isFar 19 = .ok (.aload_n 0, 1) := by decide +kernel
theorem dX10_isFar_20 : decode cX10_isFar 20 = .ok (.getfield 40, 3) := by decide +kernel
theorem dX10_isFar_23 : decode cX10_isFar 23 = .ok (.imul, 1) := by decide +kernel
theorem dX10_isFar_24 : decode cX10_isFar 24 = .ok (.if_icmp .le 7, 3) := by decide +kernel
theorem dX10_isFar_27 : decode cX10_isFar 27 = .ok (.iconst 1, 1) := by decide +kernel
theorem dX10_isFar_28 : decode cX10_isFar 28 = .ok (.goto 4, 3) := by decide +kernel
theorem dX10_isFar_31 : decode cX10_isFar 31 = .ok (.iconst 0, 1) := by decide +kernel
theorem dX10_isFar_32 : decode cX10_isFar 32 = .ok (.ireturn, 1) := by decide +kernel
theorem dX10_copyFrom_0 : decode cX10_copyFrom 0 = .ok (.aload_n 1, 1) := by decide +kernel
theorem dX10_copyFrom_1 : decode cX10_copyFrom 1 = .ok (.getfield 9, 3) := by decide +kernel
theorem dX10_copyFrom_4 : decode cX10_copyFrom 4 = .ok (.iconst 0, 1) := by decide +kernel
theorem dX10_copyFrom_5 : decode cX10_copyFrom 5 = .ok (.aload_n 0, 1) := by decide +kernel
theorem dX10_copyFrom_6 : decode cX10_copyFrom 6 = .ok (.getfield 9, 3) := by decide +kernel
theorem dX10_copyFrom_9 : decode cX10_copyFrom 9 = .ok (.iconst 0, 1) := by decide +kernel
theorem dX10_copyFrom_10 : decode cX10_copyFrom 10 = .ok (.bipush 100, 2) := by decide +kernel
theorem dX10_copyFrom_12 : decode cX10_copyFrom 12 = .ok (.invokestatic 52, 3) := by decide +kernel
theorem dX10_copyFrom_15 : decode cX10_copyFrom 15 = .ok (.aload_n 1, 1) := by decide +kernel
theorem dX10_copyFrom_16 : decode cX10_copyFrom 16 = .ok (.getfield 15, 3) := by decide +kernel
theorem dX10_copyFrom_19 : decode cX10_copyFrom 19 = .ok (.iconst 0, 1) := by decide +kernel
theorem dX10_copyFrom_20 : decode cX10_copyFrom 20 = .ok (.aload_n 0, 1) := by decide +kernel
theorem dX10_copyFrom_21 : decode cX10_copyFrom 21 = .ok (.getfield 15, 3) := by decide +kernel
theorem dX10_copyFrom_24 : decode cX10_copyFrom 24 = .ok (.iconst 0, 1) := by decide +kernel
theorem dX10_copyFrom_25 : decode cX10_copyFrom 25 = .ok (.bipush 100, 2) := by decide +kernel
theorem dX10_copyFrom_27 : decode cX10_copyFrom 27 = .ok (.invokestatic 52, 3) := by decide +kernel
theorem dX10_copyFrom_30 : decode cX10_copyFrom 30 = .ok (.aload_n 1, 1) := by decide +kernel
theorem dX10_copyFrom_31 : decode cX10_copyFrom 31 = .ok (.getfield 18, 3) := by decide +kernel
theorem dX10_copyFrom_34 : decode cX10_copyFrom 34 = .ok (.iconst 0, 1) := by decide +kernel
theorem dX10_copyFrom_35 : decode cX10_copyFrom 35 = .ok (.aload_n 0, 1) := by decide +kernel
theorem dX10_copyFrom_36 : decode cX10_copyFrom 36 = .ok (.getfield 18, 3) := by decide +kernel
theorem dX10_copyFrom_39 : decode cX10_copyFrom 39 = .ok (.iconst 0, 1) := by decide +kernel
theorem dX10_copyFrom_40 : decode cX10_copyFrom 40 = .ok (.bipush 100, 2) := by decide +kernel
theorem dX10_copyFrom_42 : decode cX10_copyFrom 42 = .ok (.invokestatic 52, 3) := by decide +kernel
theorem dX10_copyFrom_45 : decode cX10_copyFrom 45 = .ok (.aload_n 1, 1) := by decide +kernel
theorem dX10_copyFrom_46 : decode cX10_copyFrom 46 = .ok (.getfield 21, 3) := by decide +kernel
theorem dX10_copyFrom_49 : decode cX10_copyFrom 49 = .ok (.iconst 0, 1) := by decide +kernel
theorem dX10_copyFrom_50 : decode cX10_copyFrom 50 = .ok (.aload_n 0, 1) := by decide +kernel
theorem dX10_copyFrom_51 : decode cX10_copyFrom 51 = .ok (.getfield 21, 3) := by decide +kernel
theorem dX10_copyFrom_54 : decode cX10_copyFrom 54 = .ok (.iconst 0, 1) := by decide +kernel
theorem dX10_copyFrom_55 : decode cX10_copyFrom 55 = .ok (.bipush 100, 2) := by decide +kernel
theorem dX10_copyFrom_57 : decode cX10_copyFrom 57 = .ok (.invokestatic 52, 3) := by decide +kernel
theorem dX10_copyFrom_60 : decode cX10_copyFrom 60 = .ok (.aload_n 0, 1) := by decide +kernel
theorem dX10_copyFrom_61 : decode cX10_copyFrom 61 = .ok (.aload_n 1, 1) := by decide +kernel
theorem dX10_copyFrom_62 : decode cX10_copyFrom 62 = .ok (.getfield 24, 3) := by decide +kernel
theorem dX10_copyFrom_65 : decode cX10_copyFrom 65 = .ok (.putfield 24, 3) := by decide +kernel
theorem dX10_copyFrom_68 : decode cX10_copyFrom 68 = .ok (.return_, 1) := by decide +kernel
theorem dX11_init_0 : decode cX11_init 0 = .ok (.aload_n 0, 1) := by decide +kernel
theorem dX11_init_1 : decode cX11_init 1 = .ok (.invokespecial 3, 3) := by decide +kernel
theorem dX11_init_4 : decode cX11_init 4 = .ok (.aload_n 0, 1) := by decide +kernel
theorem dX11_init_5 : decode cX11_init 5 = .ok (.new 9, 3) := by decide +kernel
theorem dX11_init_8 : decode cX11_init 8 = .ok (.dup, 1) := by decide +kernel
theorem dX11_init_9 : decode cX11_init 9 = .ok (.invokespecial 11, 3) := by decide +kernel
theorem dX11_init_12 : decode cX11_init 12 = .ok (.putfield 12, 3) := by decide +kernel
theorem dX11_init_15 : decode cX11_init 15 = .ok (.aload_n 0, 1) := by decide +kernel
theorem dX11_init_16 : decode cX11_init 16 = .ok (.iconst (-1), 1) := by decide +kernel
theorem dX11_init_17 : decode cX11_init 17 = .ok (.putfield 16, 3) := by decide +kernel
theorem dX11_init_20 : decode cX11_init 20 = .ok (.aload_n 0, 1) := by decide +kernel
theorem dX11_init_21 : decode cX11_init 21 = .ok (.new 20, 3) := by decide +kernel
theorem dX11_init_24 : decode cX11_init 24 = .ok (.dup, 1) := by decide +kernel
theorem dX11_init_25 : decode cX11_init 25 = .ok (.invokespecial 22, 3) := by decide +kernel
theorem dX11_init_28 : decode cX11_init 28 = .ok (.putfield 23, 3) := by decide +kernel
theorem dX11_init_31 : decode cX11_init 31 = .ok (.aload_n 0, 1) := by decide +kernel
theorem dX11_init_32 : decode cX11_init 32 = .ok (.new 20, 3) := by decide +kernel
theorem dX11_init_35 : decode cX11_init 35 = .ok (.dup, 1) := by decide +kernel
theorem dX11_init_36 : decode cX11_init 36 = .ok (.invokespecial 22, 3) := by decide +kernel
theorem dX11_init_39 : decode cX11_init 39 = .ok (.putfield 27, 3) := by decide +kernel
theorem dX11_init_42 : decode cX11_init 42 = .ok (.aload_n 0, 1) := by decide +kernel
theorem dX11_init_43 : decode cX11_init 43 = .ok (.new 30, 3) := by decide +kernel
theorem dX11_init_46 : decode cX11_init 46 = .ok (.dup, 1) := by decide +kernel
theorem dX11_init_47 : decode cX11_init 47 = .ok (.invokespecial 32, 3) := by decide +kernel
theorem dX11_init_50 : decode cX11_init 50 = .ok (.putfield 33, 3) := by decide +kernel
theorem dX11_init_53 : decode cX11_init 53 = .ok (.return_, 1) := by decide +kernel
theorem dX11_feed_0 : decode cX11_feed 0 = .ok (.aload_n 0, 1) := by decide +kernel
theorem dX11_feed_1 : decode cX11_feed 1 = .ok (.getfield 12, 3) := by decide +kernel
theorem dX11_feed_4 : decode cX11_feed 4 = .ok (.getfield 37, 3) := by decide +kernel
theorem dX11_feed_7 : decode cX11_feed 7 = .ok (.bipush 20, 2) := by decide +kernel
theorem dX11_feed_9 : decode cX11_feed 9 = .ok (.iadd, 1) := by decide +kernel
theorem dX11_feed_10 : decode cX11_feed 10 = .ok (.sipush 400, 3) := by decide +kernel
theorem dX11_feed_13 : decode cX11_feed 13 = .ok (.if_icmp .le 5, 3) := by decide +kernel
theorem dX11_feed_16 : decode cX11_feed 16 = .ok (.iconst (-1), 1) := by decide +kernel
theorem dX11_feed_17 : decode cX11_feed 17 = .ok (.ireturn, 1) := by decide +kernel
theorem dX11_feed_18 : decode cX11_feed 18 = .ok (.aload_n 0, 1) := by decide +kernel
theorem dX11_feed_19 : decode cX11_feed 19 = .ok (.getfield 12, 3) := by decide +kernel
theorem dX11_feed_22 : decode cX11_feed 22 = .ok (.iload_n 1, 1) := by decide +kernel
theorem dX11_feed_23 : decode cX11_feed 23 = .ok (.invokevirtual 40, 3) := by decide +kernel
theorem dX11_feed_26 : decode cX11_feed 26 = .ok (.aload_n 0, 1) := by decide +kernel
theorem dX11_feed_27 : decode cX11_feed 27 = .ok (.getfield 12, 3) := by decide +kernel
theorem dX11_feed_30 : decode cX11_feed 30 = .ok (.iload_n 2, 1) := by decide +kernel
theorem dX11_feed_31 : decode cX11_feed 31 = .ok (.invokevirtual 40, 3) := by decide +kernel
theorem dX11_feed_34 : decode cX11_feed 34 = .ok (.aload_n 0, 1) := by decide +kernel
theorem dX11_feed_35 : decode cX11_feed 35 = .ok (.getfield 12, 3) := by decide +kernel
theorem dX11_feed_38 : decode cX11_feed 38 = .ok (.iload_n 3, 1) := by decide +kernel
theorem dX11_feed_39 : decode cX11_feed 39 = .ok (.invokevirtual 40, 3) := by decide +kernel
theorem dX11_feed_42 : decode cX11_feed 42 = .ok (.aload_n 0, 1) := by decide +kernel
theorem dX11_feed_43 : decode cX11_feed 43 = .ok (.getfield 12, 3) := by decide +kernel
theorem dX11_feed_46 : decode cX11_feed 46 = .ok (.iload 4, 2) := by decide +kernel
theorem dX11_feed_48 : decode cX11_feed 48 = .ok (.invokevirtual 40, 3) := by decide +kernel
theorem dX11_feed_51 : decode cX11_feed 51 = .ok (.aload_n 0, 1) := by decide +kernel
theorem dX11_feed_52 : decode cX11_feed 52 = .ok (.getfield 12, 3) := by decide +kernel
theorem dX11_feed_55 : decode cX11_feed 55 = .ok (.iload 5, 2) := by decide +kernel
theorem dX11_feed_57 : decode cX11_feed 57 = .ok (.invokevirtual 40, 3) := by decide +kernel
theorem dX11_feed_60 : decode cX11_feed 60 = .ok (.aload_n 0, 1) := by decide +kernel
theorem dX11_feed_61 : decode cX11_feed 61 = .ok (.getfield 12, 3) := by decide +kernel
theorem dX11_feed_64 : decode cX11_feed 64 = .ok (.getfield 37, 3) := by decide +kernel
theorem dX11_feed_67 : decode cX11_feed 67 = .ok (.ireturn, 1) := by decide +kernel
theorem dX11_end_0 : decode cX11_end 0 = .ok (.iload_n 1, 1) := by decide +kernel
theorem dX11_end_1 : decode cX11_end 1 = .ok (.ifCond .lt 14, 3) := by decide +kernel
theorem dX11_end_4 : decode cX11_end 4 = .ok (.iload_n 1, 1) := by decide +kernel
theorem dX11_end_5 : decode cX11_end 5 = .ok (.aload_n 0, 1) := by decide +kernel
theorem dX11_end_6 : decode cX11_end 6 = .ok (.getfield 12, 3) := by decide +kernel
theorem dX11_end_9 : decode cX11_end 9 = .ok (.getfield 37, 3) := by decide +kernel
theorem dX11_end_12 : decode cX11_end 12 = .ok (.if_icmp .le 5, 3) := by decide +kernel
theorem dX11_end_15 : decode cX11_end 15 = .ok (.iconst 0, 1) := by decide +kernel
theorem dX11_end_16 : decode cX11_end 16 = .ok (.ireturn, 1) := by decide +kernel
theorem dX11_end_17 : decode cX11_end 17 = .ok (.aload_n 0, 1) := by decide +kernel
theorem dX11_end_18 : decode cX11_end 18 = .ok (.getfield 12, 3) := by decide +kernel
theorem dX11_end_21 : decode cX11_end 21 = .ok (.iload_n 1, 1) := by decide +kernel
theorem dX11_end_22 : decode cX11_end 22 = .ok (.putfield 37, 3) := by decide +kernel
theorem dX11_end_25 : decode cX11_end 25 = .ok (.iconst 1, 1) := by decide +kernel
theorem dX11_end_26 : decode cX11_end 26 = .ok (.ireturn, 1) := by decide +kernel
theorem dX11_day_0 : decode cX11_day 0 = .ok (.iload_n 1, 1) := by decide +kernel
theorem dX11_day_1 : decode cX11_day 1 = .ok (.iconst 0, 1) := by decide +kernel
theorem dX11_day_2 : decode cX11_day 2 = .ok (.bipush 6, 2) := by decide +kernel
theorem dX11_day_4 : decode cX11_day 4 = .ok (.invokestatic 44, 3) := by decide +kernel
theorem dX11_day_7 : decode cX11_day 7 = .ok (.iload_n 2, 1) := by decide +kernel
theorem dX11_day_8 : decode cX11_day 8 = .ok (.iconst 0, 1) := by decide +kernel
theorem dX11_day_9 : decode cX11_day 9 = .ok (.bipush 9, 2) := by decide +kernel
theorem dX11_day_11 : decode cX11_day 11 = .ok (.invokestatic 44, 3) := by decide +kernel
theorem dX11_day_14 : decode cX11_day 14 = .ok (.aload_n 0, 1) := by decide +kernel
theorem dX11_day_15 : decode cX11_day 15 = .ok (.getfield 23, 3) := by decide +kernel
theorem dX11_day_18 : decode cX11_day 18 = .ok (.iload_n 1, 1) := by decide +kernel
theorem dX11_day_19 : decode cX11_day 19 = .ok (.putfield 48, 3) := by decide +kernel
theorem dX11_day_22 : decode cX11_day 22 = .ok (.aload_n 0, 1) := by decide +kernel
theorem dX11_day_23 : decode cX11_day 23 = .ok (.getfield 23, 3) := by decide +kernel
theorem dX11_day_26 : decode cX11_day 26 = .ok (.iload_n 2, 1) := by decide +kernel
theorem dX11_day_27 : decode cX11_day 27 = .ok (.putfield 51, 3) := by decide +kernel
theorem dX11_day_30 : decode cX11_day 30 = .ok (.return_, 1) := by decide +kernel
theorem dX11_old_0 : decode cX11_old 0 = .ok (.iload_n 1, 1) := by decide +kernel
theorem dX11_old_1 : decode cX11_old 1 = .ok (.bipush 64, 2) := by decide +kernel
theorem dX11_old_3 : decode cX11_old 3 = .ok (.invokestatic 54, 3) := by decide +kernel
theorem dX11_old_6 : decode cX11_old 6 = .ok (.iload_n 2, 1) := by decide +kernel
theorem dX11_old_7 : decode cX11_old 7 = .ok (.ldc 58, 2) := by decide +kernel
theorem dX11_old_9 : decode cX11_old 9 = .ok (.ldc 59, 2) := by decide +kernel
theorem dX11_old_11 : decode cX11_old 11 = .ok (.invokestatic 44, 3) := by decide +kernel
theorem dX11_old_14 : decode cX11_old 14 = .ok (.aload_n 0, 1) := by decide +kernel
theorem dX11_old_15 : decode cX11_old 15 = .ok (.getfield 23, 3) := by decide +kernel
theorem dX11_old_18 : decode cX11_old 18 = .ok (.getfield 60, 3) := by decide +kernel
theorem dX11_old_21 : decode cX11_old 21 = .ok (.iload_n 1, 1) := by decide +kernel
theorem dX11_old_22 : decode cX11_old 22 = .ok (.iload_n 2, 1) := by decide +kernel
theorem dX11_old_23 : decode cX11_old 23 = .ok (.invokevirtual 64, 3) := by decide +kernel
theorem dX11_old_26 : decode cX11_old 26 = .ok (.return_, 1) := by decide +kernel
theorem dX11_ring_0 : decode cX11_ring 0 = .ok (.iload_n 1, 1) := by decide +kernel
theorem dX11_ring_1 : decode cX11_ring 1 = .ok (.iconst 4, 1) := by decide +kernel
theorem dX11_ring_2 : decode cX11_ring 2 = .ok (.invokestatic 54, 3) := by decide +kernel
theorem dX11_ring_5 : decode cX11_ring 5 = .ok (.iload_n 2, 1) := by decide +kernel
theorem dX11_ring_6 : decode cX11_ring 6 = .ok (.iconst 4, 1) := by decide +kernel
theorem dX11_ring_7 : decode cX11_ring 7 = .ok (.invokestatic 54, 3) := by decide +kernel
theorem dX11_ring_10 : decode cX11_ring 10 = .ok (.iload_n 3, 1) := by decide +kernel
theorem dX11_ring_11 : decode cX11_ring 11 = .ok (.iconst 0, 1) := by decide +kernel
theorem dX11_ring_12 : decode cX11_ring 12 = .ok (.ldc 69, 2) := by decide +kernel
theorem dX11_ring_14 : decode cX11_ring 14 = .ok (.invokestatic 44, 3) := by decide +kernel
theorem dX11_ring_17 : decode cX11_ring 17 = .ok (.aload_n 0, 1) := by decide +kernel
theorem dX11_ring_18 : decode cX11_ring 18 = .ok (.getfield 23, 3) := by decide +kernel
theorem dX11_ring_21 : decode cX11_ring 21 = .ok (.iconst 4, 1) := by decide +kernel
theorem dX11_ring_22 : decode cX11_ring 22 = .ok (.iload_n 1, 1) := by decide +kernel
theorem dX11_ring_23 : decode cX11_ring 23 = .ok (.imul, 1) := by decide +kernel
theorem dX11_ring_24 : decode cX11_ring 24 = .ok (.iload_n 2, 1) := by decide +kernel
theorem dX11_ring_25 : decode cX11_ring 25 = .ok (.iadd, 1) := by decide +kernel
theorem dX11_ring_26 : decode cX11_ring 26 = .ok (.iload_n 3, 1) := by decide +kernel
theorem dX11_ring_27 : decode cX11_ring 27 = .ok (.invokevirtual 70, 3) := by decide +kernel
theorem dX11_ring_30 : decode cX11_ring 30 = .ok (.ireturn, 1) := by decide +kernel
theorem dX11_tell_0 : decode cX11_tell 0 = .ok (.iload_n 1, 1) := by decide +kernel
theorem dX11_tell_1 : decode cX11_tell 1 = .ok (.bipush 64, 2) := by decide +kernel
theorem dX11_tell_3 : decode cX11_tell 3 = .ok (.invokestatic 54, 3) := by decide +kernel
theorem dX11_tell_6 : decode cX11_tell 6 = .ok (.iload_n 2, 1) := by decide +kernel
theorem dX11_tell_7 : decode cX11_tell 7 = .ok (.ldc 58, 2) := by decide +kernel
theorem dX11_tell_9 : decode cX11_tell 9 = .ok (.ldc 59, 2) := by decide +kernel
theorem dX11_tell_11 : decode cX11_tell 11 = .ok (.invokestatic 44, 3) := by decide +kernel
theorem dX11_tell_14 : decode cX11_tell 14 = .ok (.aload_n 0, 1) := by decide +kernel
theorem dX11_tell_15 : decode cX11_tell 15 = .ok (.getfield 23, 3) := by decide +kernel
theorem dX11_tell_18 : decode cX11_tell 18 = .ok (.iload_n 1, 1) := by decide +kernel
theorem dX11_tell_19 : decode cX11_tell 19 = .ok (.iload_n 2, 1) := by decide +kernel
theorem dX11_tell_20 : decode cX11_tell 20 = .ok (.invokevirtual 70, 3) := by decide +kernel
theorem dX11_tell_23 : decode cX11_tell 23 = .ok (.ireturn, 1) := by decide +kernel
theorem dX11_word_0 : decode cX11_word 0 = .ok (.iload_n 1, 1) := by decide +kernel
theorem dX11_word_1 : decode cX11_word 1 = .ok (.bipush 64, 2) := by decide +kernel
theorem dX11_word_3 : decode cX11_word 3 = .ok (.invokestatic 54, 3) := by decide +kernel
theorem dX11_word_6 : decode cX11_word 6 = .ok (.aload_n 0, 1) := by decide +kernel
theorem dX11_word_7 : decode cX11_word 7 = .ok (.getfield 23, 3) := by decide +kernel
theorem dX11_word_10 : decode cX11_word 10 = .ok (.getfield 60, 3) := by decide +kernel
theorem dX11_word_13 : decode cX11_word 13 = .ok (.iload_n 1, 1) := by decide +kernel
theorem dX11_word_14 : decode cX11_word 14 = .ok (.invokevirtual 74, 3) := by decide +kernel
theorem dX11_word_17 : decode cX11_word 17 = .ok (.ireturn, 1) := by decide +kernel
theorem dX11_as_0 : decode cX11_as 0 = .ok (.iload_n 1, 1) := by decide +kernel
theorem dX11_as_1 : decode cX11_as 1 = .ok (.bipush 64, 2) := by decide +kernel
theorem dX11_as_3 : decode cX11_as 3 = .ok (.invokestatic 54, 3) := by decide +kernel
theorem dX11_as_6 : decode cX11_as 6 = .ok (.aload_n 0, 1) := by decide +kernel
theorem dX11_as_7 : decode cX11_as 7 = .ok (.getfield 23, 3) := by decide +kernel
theorem dX11_as_10 : decode cX11_as 10 = .ok (.getfield 60, 3) := by decide +kernel
theorem dX11_as_13 : decode cX11_as 13 = .ok (.iload_n 1, 1) := by decide +kernel
theorem dX11_as_14 : decode cX11_as 14 = .ok (.iload_n 2, 1) := by decide +kernel
theorem dX11_as_15 : decode cX11_as 15 = .ok (.invokevirtual 78, 3) := by decide +kernel
theorem dX11_as_18 : decode cX11_as 18 = .ok (.istore_n 3, 1) := by decide +kernel
theorem dX11_as_19 : decode cX11_as 19 = .ok (.iload_n 3, 1) := by decide +kernel
theorem dX11_as_20 : decode cX11_as 20 = .ok (.iconst (-1), 1) := by decide +kernel
theorem dX11_as_21 : decode cX11_as 21 = .ok (.if_icmp .ne 7, 3) := by decide +kernel
theorem dX11_as_24 : decode cX11_as 24 = .ok (.iconst 0, 1) := by decide +kernel
theorem dX11_as_25 : decode cX11_as 25 = .ok (.goto 14, 3) := by decide +kernel
theorem dX11_as_28 : decode cX11_as 28 = .ok (.aload_n 0, 1) := by decide +kernel
theorem dX11_as_29 : decode cX11_as 29 = .ok (.getfield 23, 3) := by decide +kernel
theorem dX11_as_32 : decode cX11_as 32 = .ok (.getfield 60, 3) := by decide +kernel
theorem dX11_as_35 : decode cX11_as 35 = .ok (.iload_n 3, 1) := by decide +kernel
theorem dX11_as_36 : decode cX11_as 36 = .ok (.invokevirtual 81, 3) := by decide +kernel
theorem dX11_as_39 : decode cX11_as 39 = .ok (.ireturn, 1) := by decide +kernel
theorem dX11_led_0 : decode cX11_led 0 = .ok (.iload_n 1, 1) := by decide +kernel
theorem dX11_led_1 : decode cX11_led 1 = .ok (.bipush 64, 2) := by decide +kernel
theorem dX11_led_3 : decode cX11_led 3 = .ok (.invokestatic 54, 3) := by decide +kernel
theorem dX11_led_6 : decode cX11_led 6 = .ok (.aload_n 0, 1) := by decide +kernel
theorem dX11_led_7 : decode cX11_led 7 = .ok (.getfield 23, 3) := by decide +kernel
theorem dX11_led_10 : decode cX11_led 10 = .ok (.getfield 60, 3) := by decide +kernel
theorem dX11_led_13 : decode cX11_led 13 = .ok (.iload_n 1, 1) := by decide +kernel
theorem dX11_led_14 : decode cX11_led 14 = .ok (.iload_n 2, 1) := by decide +kernel
theorem dX11_led_15 : decode cX11_led 15 = .ok (.invokevirtual 78, 3) := by decide +kernel
theorem dX11_led_18 : decode cX11_led 18 = .ok (.istore_n 3, 1) := by decide +kernel
theorem dX11_led_19 : decode cX11_led 19 = .ok (.iload_n 3, 1) := by decide +kernel
theorem dX11_led_20 : decode cX11_led 20 = .ok (.iconst (-1), 1) := by decide +kernel
theorem dX11_led_21 : decode cX11_led 21 = .ok (.if_icmp .ne 8, 3) := by decide +kernel
theorem dX11_led_24 : decode cX11_led 24 = .ok (.bipush (-2), 2) := by decide +kernel
theorem dX11_led_26 : decode cX11_led 26 = .ok (.goto 14, 3) := by decide +kernel
theorem dX11_led_29 : decode cX11_led 29 = .ok (.aload_n 0, 1) := by decide +kernel
theorem dX11_led_30 : decode cX11_led 30 = .ok (.getfield 23, 3) := by decide +kernel
theorem dX11_led_33 : decode cX11_led 33 = .ok (.getfield 60, 3) := by decide +kernel
theorem dX11_led_36 : decode cX11_led 36 = .ok (.iload_n 3, 1) := by decide +kernel
theorem dX11_led_37 : decode cX11_led 37 = .ok (.invokevirtual 84, 3) := by decide +kernel
theorem dX11_led_40 : decode cX11_led 40 = .ok (.ireturn, 1) := by decide +kernel
theorem dX11_job_0 : decode cX11_job 0 = .ok (.aload_n 0, 1) := by decide +kernel
theorem dX11_job_1 : decode cX11_job 1 = .ok (.getfield 12, 3) := by decide +kernel
theorem dX11_job_4 : decode cX11_job 4 = .ok (.getfield 37, 3) := by decide +kernel
theorem dX11_job_7 : decode cX11_job 7 = .ok (.istore 6, 2) := by decide +kernel
theorem dX11_job_9 : decode cX11_job 9 = .ok (.aload_n 0, 1) := by decide +kernel
theorem dX11_job_10 : decode cX11_job 10 = .ok (.getfield 12, 3) := by decide +kernel
theorem dX11_job_13 : decode cX11_job 13 = .ok (.iconst 0, 1) := by decide +kernel
theorem dX11_job_14 : decode cX11_job 14 = .ok (.putfield 37, 3) := by decide +kernel
theorem dX11_job_17 : decode cX11_job 17 = .ok (.iload_n 1, 1) := by decide +kernel
theorem dX11_job_18 : decode cX11_job 18 = .ok (.iconst 1, 1) := by decide +kernel
theorem dX11_job_19 : decode cX11_job 19 = .ok (.bipush 60, 2) := by decide +kernel
theorem dX11_job_21 : decode cX11_job 21 = .ok (.invokestatic 44, 3) := by decide +kernel
theorem dX11_job_24 : decode cX11_job 24 = .ok (.iload_n 2, 1) := by decide +kernel
theorem dX11_job_25 : decode cX11_job 25 = .ok (.iconst 0, 1) := by decide +kernel
theorem dX11_job_26 : decode cX11_job 26 = .ok (.sipush 1000, 3) := by decide +kernel
theorem dX11_job_29 : decode cX11_job 29 = .ok (.invokestatic 44, 3) := by decide +kernel
theorem dX11_job_32 : decode cX11_job 32 = .ok (.iload_n 3, 1) := by decide +kernel
theorem dX11_job_33 : decode cX11_job 33 = .ok (.iconst 0, 1) := by decide +kernel
theorem dX11_job_34 : decode cX11_job 34 = .ok (.sipush 480, 3) := by decide +kernel
theorem dX11_job_37 : decode cX11_job 37 = .ok (.invokestatic 44, 3) := by decide +kernel
theorem dX11_job_40 : decode cX11_job 40 = .ok (.iload 4, 2) := by decide +kernel
theorem dX11_job_42 : decode cX11_job 42 = .ok (.iconst 0, 1) := by decide +kernel
theorem dX11_job_43 : decode cX11_job 43 = .ok (.bipush 60, 2) := by decide +kernel
theorem dX11_job_45 : decode cX11_job 45 = .ok (.invokestatic 44, 3) := by decide +kernel
theorem dX11_job_48 : decode cX11_job 48 = .ok (.aload_n 0, 1) := by decide +kernel
theorem dX11_job_49 : decode cX11_job 49 = .ok (.getfield 12, 3) := by decide +kernel
theorem dX11_job_52 : decode cX11_job 52 = .ok (.iload 6, 2) := by decide +kernel
theorem dX11_job_54 : decode cX11_job 54 = .ok (.invokevirtual 87, 3) := by decide +kernel
theorem dX11_job_57 : decode cX11_job 57 = .ok (.astore 7, 2) := by decide +kernel
theorem dX11_job_59 : decode cX11_job 59 = .ok (.aload_n 0, 1) := by decide +kernel
theorem dX11_job_60 : decode cX11_job 60 = .ok (.aload_n 0, 1) := by decide +kernel
theorem dX11_job_61 : decode cX11_job 61 = .ok (.getfield 12, 3) := by decide +kernel
theorem dX11_job_64 : decode cX11_job 64 = .ok (.getfield 91, 3) := by decide +kernel
theorem dX11_job_67 : decode cX11_job 67 = .ok (.putfield 16, 3) := by decide +kernel
theorem dX11_job_70 : decode cX11_job 70 = .ok (.aload 7, 2) := by decide +kernel
theorem dX11_job_72 : decode cX11_job 72 = .ok (.ifnonnull 13, 3) := by decide +kernel
theorem dX11_job_75 : decode cX11_job 75 = .ok (.new 94, 3) := by decide +kernel
theorem dX11_job_78 : decode cX11_job 78 = .ok (.dup, 1) := by decide +kernel
theorem dX11_job_79 : decode cX11_job 79 = .ok (.ldc 96, 2) := by decide +kernel
theorem dX11_job_81 : decode cX11_job 81 = .ok (.invokespecial 98, 3) := by decide +kernel
theorem dX11_job_84 : decode cX11_job 84 = .ok (.athrow, 1) := by decide +kernel
theorem dX11_job_85 : decode cX11_job 85 = .ok (.aload_n 0, 1) := by decide +kernel
theorem dX11_job_86 : decode cX11_job 86 = .ok (.getfield 23, 3) := by decide +kernel
theorem dX11_job_89 : decode cX11_job 89 = .ok (.getfield 101, 3) := by decide +kernel
theorem dX11_job_92 : decode cX11_job 92 = .ok (.getfield 105, 3) := by decide +kernel
theorem dX11_job_95 : decode cX11_job 95 = .ok (.bipush 12, 2) := by decide +kernel
theorem dX11_job_97 : decode cX11_job 97 = .ok (.if_icmp .lt 13, 3) := by decide +kernel
theorem dX11_job_100 : decode cX11_job 100 = .ok (.new 110, 3) := by decide +kernel
theorem dX11_job_103 : decode cX11_job 103 = .ok (.dup, 1) := by decide +kernel
theorem dX11_job_104 : decode cX11_job 104 = .ok (.ldc 112, 2) := by decide +kernel
theorem dX11_job_106 : decode cX11_job 106 = .ok (.invokespecial 114, 3) := by decide +kernel
theorem dX11_job_109 : decode cX11_job 109 = .ok (.athrow, 1) := by decide +kernel
theorem dX11_job_110 : decode cX11_job 110 = .ok (.aload_n 0, 1) := by decide +kernel
theorem dX11_job_111 : decode cX11_job 111 = .ok (.getfield 23, 3) := by decide +kernel
theorem dX11_job_114 : decode cX11_job 114 = .ok (.getfield 101, 3) := by decide +kernel
theorem dX11_job_117 : decode cX11_job 117 = .ok (.aload_n 0, 1) := by decide +kernel
theorem dX11_job_118 : decode cX11_job 118 = .ok (.getfield 23, 3) := by decide +kernel
theorem dX11_job_121 : decode cX11_job 121 = .ok (.getfield 101, 3) := by decide +kernel
theorem dX11_job_124 : decode cX11_job 124 = .ok (.getfield 105, 3) := by decide +kernel
theorem dX11_job_127 : decode cX11_job 127 = .ok (.invokevirtual 115, 3) := by decide +kernel
theorem dX11_job_130 : decode cX11_job 130 = .ok (.astore 8, 2) := by decide +kernel
theorem dX11_job_132 : decode cX11_job 132 = .ok (.aload 8, 2) := by decide +kernel
theorem dX11_job_134 : decode cX11_job 134 = .ok (.iload_n 1, 1) := by decide +kernel
theorem dX11_job_135 : decode cX11_job 135 = .ok (.iload_n 2, 1) := by decide +kernel
theorem dX11_job_136 : decode cX11_job 136 = .ok (.iload_n 3, 1) := by decide +kernel
theorem dX11_job_137 : decode cX11_job 137 = .ok (.iload 4, 2) := by decide +kernel
theorem dX11_job_139 : decode cX11_job 139 = .ok (.iload 5, 2) := by decide +kernel
theorem dX11_job_141 : decode cX11_job 141 = .ok (.aload 7, 2) := by decide +kernel
theorem dX11_job_143 : decode cX11_job 143 = .ok (.invokevirtual 119, 3) := by decide +kernel
theorem dX11_job_146 : decode cX11_job 146 = .ok (.aload_n 0, 1) := by decide +kernel
theorem dX11_job_147 : decode cX11_job 147 = .ok (.getfield 23, 3) := by decide +kernel
theorem dX11_job_150 : decode cX11_job 150 = .ok (.getfield 101, 3) := by decide +kernel
theorem dX11_job_153 : decode cX11_job 153 = .ok (.invokevirtual 125, 3) := by decide +kernel
theorem dX11_job_156 : decode cX11_job 156 = .ok (.ireturn, 1) := by decide +kernel
theorem dX11_fault_0 : decode cX11_fault 0 = .ok (.aload_n 0, 1) := by decide +kernel
theorem dX11_fault_1 : decode cX11_fault 1 = .ok (.getfield 16, 3) := by decide +kernel
theorem dX11_fault_4 : decode cX11_fault 4 = .ok (.ireturn, 1) := by decide +kernel
theorem dX11_shorter_0 : decode cX11_shorter 0 = .ok (.iload_n 1, 1) := by decide +kernel
theorem dX11_shorter_1 : decode cX11_shorter 1 = .ok (.aload_n 0, 1) := by decide +kernel
theorem dX11_shorter_2 : decode cX11_shorter 2 = .ok (.getfield 23, 3) := by decide +kernel
theorem dX11_shorter_5 : decode cX11_shorter 5 = .ok (.getfield 101, 3) := by decide +kernel
theorem dX11_shorter_8 : decode cX11_shorter 8 = .ok (.getfield 105, 3) := by decide +kernel
theorem dX11_shorter_11 : decode cX11_shorter 11 = .ok (.invokestatic 54, 3) := by decide +kernel
theorem dX11_shorter_14 : decode cX11_shorter 14 = .ok (.iload_n 2, 1) := by decide +kernel
theorem dX11_shorter_15 : decode cX11_shorter 15 = .ok (.iconst 0, 1) := by decide +kernel
theorem dX11_shorter_16 : decode cX11_shorter 16 = .ok (.bipush 60, 2) := by decide +kernel
theorem dX11_shorter_18 : decode cX11_shorter 18 = .ok (.invokestatic 44, 3) := by decide +kernel
theorem dX11_shorter_21 : decode cX11_shorter 21 = .ok (.iload_n 3, 1) := by decide +kernel
theorem dX11_shorter_22 : decode cX11_shorter 22 = .ok (.iconst 0, 1) := by decide +kernel
theorem dX11_shorter_23 : decode cX11_shorter 23 = .ok (.sipush 1000, 3) := by decide +kernel
theorem dX11_shorter_26 : decode cX11_shorter 26 = .ok (.invokestatic 44, 3) := by decide +kernel
theorem dX11_shorter_29 : decode cX11_shorter 29 = .ok (.iload 4, 2) := by decide +kernel
theorem dX11_shorter_31 : decode cX11_shorter 31 = .ok (.sipush (-9999), 3) := by decide +kernel
theorem dX11_shorter_34 : decode cX11_shorter 34 = .ok (.sipush 9999, 3) := by decide +kernel
theorem dX11_shorter_37 : decode cX11_shorter 37 = .ok (.invokestatic 44, 3) := by decide +kernel
theorem dX11_shorter_40 : decode cX11_shorter 40 = .ok (.aload_n 0, 1) := by decide +kernel
theorem dX11_shorter_41 : decode cX11_shorter 41 = .ok (.getfield 23, 3) := by decide +kernel
theorem dX11_shorter_44 : decode cX11_shorter 44 = .ok (.getfield 101, 3) := by decide +kernel
theorem dX11_shorter_47 : decode cX11_shorter 47 = .ok (.iload_n 1, 1) := by decide +kernel
theorem dX11_shorter_48 : decode cX11_shorter 48 = .ok (.invokevirtual 115, 3) := by decide +kernel
theorem dX11_shorter_51 : decode cX11_shorter 51 = .ok (.astore 5, 2) := by decide +kernel
theorem dX11_shorter_53 : decode cX11_shorter 53 = .ok (.aload 5, 2) := by decide +kernel
theorem dX11_shorter_55 : decode cX11_shorter 55 = .ok (.iload_n 2, 1) := by decide +kernel
theorem dX11_shorter_56 : decode cX11_shorter 56 = .ok (.putfield 129, 3) := by decide +kernel
theorem dX11_shorter_59 : decode cX11_shorter 59 = .ok (.aload 5, 2) := by decide +kernel
theorem dX11_shorter_61 : decode cX11_shorter 61 = .ok (.iload_n 3, 1) := by decide +kernel
theorem dX11_shorter_62 : decode cX11_shorter 62 = .ok (.putfield 132, 3) := by decide +kernel
theorem dX11_shorter_65 : decode cX11_shorter 65 = .ok (.aload 5, 2) := by decide +kernel
theorem dX11_shorter_67 : decode cX11_shorter 67 = .ok (.iload 4, 2) := by decide +kernel
theorem dX11_shorter_69 : decode cX11_shorter 69 = .ok (.putfield 135, 3) := by decide +kernel
theorem dX11_shorter_72 : decode cX11_shorter 72 = .ok (.return_, 1) := by decide +kernel
theorem dX11_words_0 : decode cX11_words 0 = .ok (.iload_n 1, 1) := by decide +kernel
theorem dX11_words_1 : decode cX11_words 1 = .ok (.aload_n 0, 1) := by decide +kernel
theorem dX11_words_2 : decode cX11_words 2 = .ok (.getfield 23, 3) := by decide +kernel
theorem dX11_words_5 : decode cX11_words 5 = .ok (.getfield 101, 3) := by decide +kernel
theorem dX11_words_8 : decode cX11_words 8 = .ok (.getfield 105, 3) := by decide +kernel
theorem dX11_words_11 : decode cX11_words 11 = .ok (.invokestatic 54, 3) := by decide +kernel
theorem dX11_words_14 : decode cX11_words 14 = .ok (.aload_n 0, 1) := by decide +kernel
theorem dX11_words_15 : decode cX11_words 15 = .ok (.getfield 23, 3) := by decide +kernel
theorem dX11_words_18 : decode cX11_words 18 = .ok (.getfield 101, 3) := by decide +kernel
theorem dX11_words_21 : decode cX11_words 21 = .ok (.iload_n 1, 1) := by decide +kernel
theorem dX11_words_22 : decode cX11_words 22 = .ok (.invokevirtual 115, 3) := by decide +kernel
theorem dX11_words_25 : decode cX11_words 25 = .ok (.astore_n 3, 1) := by decide +kernel
theorem dX11_words_26 : decode cX11_words 26 = .ok (.iload_n 2, 1) := by decide +kernel
theorem dX11_words_27 : decode cX11_words 27 = .ok (.ifCond .eq 10, 3) := by decide +kernel
theorem dX11_words_30 : decode cX11_words 30 = .ok (.aload_n 3, 1) := by decide +kernel
theorem dX11_words_31 : decode cX11_words 31 = .ok (.invokevirtual 138, 3) := by decide +kernel
theorem dX11_words_34 : decode cX11_words 34 = .ok (.goto 7, 3) := by decide +kernel
theorem dX11_words_37 : decode cX11_words 37 = .ok (.aload_n 3, 1) := by decide +kernel
theorem dX11_words_38 : decode cX11_words 38 = .ok (.invokevirtual 142, 3) := by decide +kernel
theorem dX11_words_41 : decode cX11_words 41 = .ok (.lreturn, 1) := by decide +kernel
theorem dX11_leans_0 : decode cX11_leans 0 = .ok (.iload_n 1, 1) := by decide +kernel
theorem dX11_leans_1 : decode cX11_leans 1 = .ok (.aload_n 0, 1) := by decide +kernel
theorem dX11_leans_2 : decode cX11_leans 2 = .ok (.getfield 23, 3) := by decide +kernel
theorem dX11_leans_5 : decode cX11_leans 5 = .ok (.getfield 101, 3) := by decide +kernel
theorem dX11_leans_8 : decode cX11_leans 8 = .ok (.getfield 105, 3) := by decide +kernel
theorem dX11_leans_11 : decode cX11_leans 11 = .ok (.invokestatic 54, 3) := by decide +kernel
theorem dX11_leans_14 : decode cX11_leans 14 = .ok (.aload_n 0, 1) := by decide +kernel
theorem dX11_leans_15 : decode cX11_leans 15 = .ok (.getfield 23, 3) := by decide +kernel
theorem dX11_leans_18 : decode cX11_leans 18 = .ok (.getfield 101, 3) := by decide +kernel
theorem dX11_leans_21 : decode cX11_leans 21 = .ok (.iload_n 1, 1) := by decide +kernel
theorem dX11_leans_22 : decode cX11_leans 22 = .ok (.invokevirtual 145, 3) := by decide +kernel
theorem dX11_leans_25 : decode cX11_leans 25 = .ok (.ireturn, 1) := by decide +kernel
theorem dX11_quarrel_0 : decode cX11_quarrel 0 = .ok (.aload_n 0, 1) := by decide +kernel
theorem dX11_quarrel_1 : decode cX11_quarrel 1 = .ok (.getfield 23, 3) := by decide +kernel
theorem dX11_quarrel_4 : decode cX11_quarrel 4 = .ok (.getfield 101, 3) := by decide +kernel
theorem dX11_quarrel_7 : decode cX11_quarrel 7 = .ok (.iload_n 1, 1) := by decide +kernel
theorem dX11_quarrel_8 : decode cX11_quarrel 8 = .ok (.invokevirtual 148, 3) := by decide +kernel
theorem dX11_quarrel_11 : decode cX11_quarrel 11 = .ok (.ireturn, 1) := by decide +kernel
theorem dX11_order_0 : decode cX11_order 0 = .ok (.aload_n 0, 1) := by decide +kernel
theorem dX11_order_1 : decode cX11_order 1 = .ok (.getfield 23, 3) := by decide +kernel
theorem dX11_order_4 : decode cX11_order 4 = .ok (.getfield 101, 3) := by decide +kernel
theorem dX11_order_7 : decode cX11_order 7 = .ok (.iload_n 1, 1) := by decide +kernel
theorem dX11_order_8 : decode cX11_order 8 = .ok (.invokevirtual 151, 3) := by decide +kernel
theorem dX11_order_11 : decode cX11_order 11 = .ok (.ireturn, 1) := by decide +kernel
theorem dX11_way_0 : decode cX11_way 0 = .ok (.iload_n 1, 1) := by decide +kernel
theorem dX11_way_1 : decode cX11_way 1 = .ok (.aload_n 0, 1) := by decide +kernel
theorem dX11_way_2 : decode cX11_way 2 = .ok (.getfield 23, 3) := by decide +kernel
theorem dX11_way_5 : decode cX11_way 5 = .ok (.getfield 101, 3) := by decide +kernel
theorem dX11_way_8 : decode cX11_way 8 = .ok (.getfield 105, 3) := by decide +kernel
theorem dX11_way_11 : decode cX11_way 11 = .ok (.invokestatic 54, 3) := by decide +kernel
theorem dX11_way_14 : decode cX11_way 14 = .ok (.iload_n 2, 1) := by decide +kernel
theorem dX11_way_15 : decode cX11_way 15 = .ok (.iconst 0, 1) := by decide +kernel
theorem dX11_way_16 : decode cX11_way 16 = .ok (.iconst 2, 1) := by decide +kernel
theorem dX11_way_17 : decode cX11_way 17 = .ok (.invokestatic 44, 3) := by decide +kernel
theorem dX11_way_20 : decode cX11_way 20 = .ok (.aload_n 0, 1) := by decide +kernel
theorem dX11_way_21 : decode cX11_way 21 = .ok (.getfield 23, 3) := by decide +kernel
theorem dX11_way_24 : decode cX11_way 24 = .ok (.getfield 101, 3) := by decide +kernel
theorem dX11_way_27 : decode cX11_way 27 = .ok (.iload_n 1, 1) := by decide +kernel
theorem dX11_way_28 : decode cX11_way 28 = .ok (.invokevirtual 115, 3) := by decide +kernel
theorem dX11_way_31 : decode cX11_way 31 = .ok (.astore_n 3, 1) := by decide +kernel
theorem dX11_way_32 : decode cX11_way 32 = .ok (.aload_n 3, 1) := by decide +kernel
theorem dX11_way_33 : decode cX11_way 33 = .ok (.getfield 154, 3) := by decide +kernel
theorem dX11_way_36 : decode cX11_way 36 = .ok (.ifCond .ne 18, 3) := by decide +kernel
theorem dX11_way_39 : decode cX11_way 39 = .ok (.aload_n 3, 1) := by decide +kernel
theorem dX11_way_40 : decode cX11_way 40 = .ok (.getfield 157, 3) := by decide +kernel
theorem dX11_way_43 : decode cX11_way 43 = .ok (.ifCond .gt 11, 3) := by decide +kernel
theorem dX11_way_46 : decode cX11_way 46 = .ok (.aload_n 3, 1) := by decide +kernel
theorem dX11_way_47 : decode cX11_way 47 = .ok (.iload_n 2, 1) := by decide +kernel
theorem dX11_way_48 : decode cX11_way 48 = .ok (.invokevirtual 160, 3) := by decide +kernel
theorem dX11_way_51 : decode cX11_way 51 = .ok (.ifCond .ne 5, 3) := by decide +kernel
theorem dX11_way_54 : decode cX11_way 54 = .ok (.iconst 0, 1) := by decide +kernel
theorem dX11_way_55 : decode cX11_way 55 = .ok (.ireturn, 1) := by decide +kernel
theorem dX11_way_56 : decode cX11_way 56 = .ok (.aload_n 3, 1) := by decide +kernel
theorem dX11_way_57 : decode cX11_way 57 = .ok (.iload_n 2, 1) := by decide +kernel
theorem dX11_way_58 : decode cX11_way 58 = .ok (.putfield 164, 3) := by decide +kernel
theorem dX11_way_61 : decode cX11_way 61 = .ok (.iconst 1, 1) := by decide +kernel
theorem dX11_way_62 : decode cX11_way 62 = .ok (.ireturn, 1) := by decide +kernel
theorem dX11_drop_0 : decode cX11_drop 0 = .ok (.iload_n 1, 1) := by decide +kernel
theorem dX11_drop_1 : decode cX11_drop 1 = .ok (.aload_n 0, 1) := by decide +kernel
theorem dX11_drop_2 : decode cX11_drop 2 = .ok (.getfield 23, 3) := by decide +kernel
theorem dX11_drop_5 : decode cX11_drop 5 = .ok (.getfield 101, 3) := by decide +kernel
theorem dX11_drop_8 : decode cX11_drop 8 = .ok (.getfield 105, 3) := by decide +kernel
theorem dX11_drop_11 : decode cX11_drop 11 = .ok (.invokestatic 54, 3) := by decide +kernel
theorem dX11_drop_14 : decode cX11_drop 14 = .ok (.aload_n 0, 1) := by decide +kernel
theorem dX11_drop_15 : decode cX11_drop 15 = .ok (.getfield 23, 3) := by decide +kernel
theorem dX11_drop_18 : decode cX11_drop 18 = .ok (.getfield 101, 3) := by decide +kernel
theorem dX11_drop_21 : decode cX11_drop 21 = .ok (.iload_n 1, 1) := by decide +kernel
theorem dX11_drop_22 : decode cX11_drop 22 = .ok (.invokevirtual 115, 3) := by decide +kernel
theorem dX11_drop_25 : decode cX11_drop 25 = .ok (.astore_n 2, 1) := by decide +kernel
theorem dX11_drop_26 : decode cX11_drop 26 = .ok (.aload_n 2, 1) := by decide +kernel
theorem dX11_drop_27 : decode cX11_drop 27 = .ok (.getfield 154, 3) := by decide +kernel
theorem dX11_drop_30 : decode cX11_drop 30 = .ok (.ifCond .eq 5, 3) := by decide +kernel
theorem dX11_drop_33 : decode cX11_drop 33 = .ok (.iconst 0, 1) := by decide +kernel
theorem dX11_drop_34 : decode cX11_drop 34 = .ok (.ireturn, 1) := by decide +kernel
theorem dX11_drop_35 : decode cX11_drop 35 = .ok (.aload_n 2, 1) := by decide +kernel
theorem dX11_drop_36 : decode cX11_drop 36 = .ok (.iconst 5, 1) := by decide +kernel
theorem dX11_drop_37 : decode cX11_drop 37 = .ok (.putfield 154, 3) := by decide +kernel
theorem dX11_drop_40 : decode cX11_drop 40 = .ok (.iconst 1, 1) := by decide +kernel
theorem dX11_drop_41 : decode cX11_drop 41 = .ok (.ireturn, 1) := by decide +kernel
theorem dX11_again_0 : decode cX11_again 0 = .ok (.iload_n 1, 1) := by decide +kernel
theorem dX11_again_1 : decode cX11_again 1 = .ok (.aload_n 0, 1) := by decide +kernel
theorem dX11_again_2 : decode cX11_again 2 = .ok (.getfield 23, 3) := by decide +kernel
theorem dX11_again_5 : decode cX11_again 5 = .ok (.getfield 101, 3) := by decide +kernel
theorem dX11_again_8 : decode cX11_again 8 = .ok (.getfield 105, 3) := by decide +kernel
theorem dX11_again_11 : decode cX11_again 11 = .ok (.invokestatic 54, 3) := by decide +kernel
theorem dX11_again_14 : decode cX11_again 14 = .ok (.aload_n 0, 1) := by decide +kernel
theorem dX11_again_15 : decode cX11_again 15 = .ok (.getfield 23, 3) := by decide +kernel
theorem dX11_again_18 : decode cX11_again 18 = .ok (.getfield 101, 3) := by decide +kernel
theorem dX11_again_21 : decode cX11_again 21 = .ok (.iload_n 1, 1) := by decide +kernel
theorem dX11_again_22 : decode cX11_again 22 = .ok (.invokevirtual 115, 3) := by decide +kernel
theorem dX11_again_25 : decode cX11_again 25 = .ok (.astore_n 2, 1) := by decide +kernel
theorem dX11_again_26 : decode cX11_again 26 = .ok (.aload_n 2, 1) := by decide +kernel
theorem dX11_again_27 : decode cX11_again 27 = .ok (.getfield 154, 3) := by decide +kernel
theorem dX11_again_30 : decode cX11_again 30 = .ok (.ifCond .eq 11, 3) := by decide +kernel
theorem dX11_again_33 : decode cX11_again 33 = .ok (.aload_n 2, 1) := by decide +kernel
theorem dX11_again_34 : decode cX11_again 34 = .ok (.getfield 154, 3) := by decide +kernel
theorem dX11_again_37 : decode cX11_again 37 = .ok (.iconst 1, 1) := by decide +kernel
theorem dX11_again_38 : decode cX11_again 38 = .ok (.if_icmp .ne 5, 3) := by decide +kernel
theorem dX11_again_41 : decode cX11_again 41 = .ok (.iconst 0, 1) := by decide +kernel
theorem dX11_again_42 : decode cX11_again 42 = .ok (.ireturn, 1) := by decide +kernel
theorem dX11_again_43 : decode cX11_again 43 = .ok (.aload_n 2, 1) := by decide +kernel
theorem dX11_again_44 : decode cX11_again 44 = .ok (.iconst 0, 1) := by decide +kernel
theorem dX11_again_45 : decode cX11_again 45 = .ok (.putfield 154, 3) := by decide +kernel
theorem dX11_again_48 : decode cX11_again 48 = .ok (.aload_n 2, 1) := by decide +kernel
theorem dX11_again_49 : decode cX11_again 49 = .ok (.iconst 0, 1) := by decide +kernel
theorem dX11_again_50 : decode cX11_again 50 = .ok (.putfield 157, 3) := by decide +kernel
theorem dX11_again_53 : decode cX11_again 53 = .ok (.iconst 1, 1) := by decide +kernel
theorem dX11_again_54 : decode cX11_again 54 = .ok (.ireturn, 1) := by decide +kernel
theorem dX11_out_0 : decode cX11_out 0 = .ok (.iload_n 1, 1) := by decide +kernel
theorem dX11_out_1 : decode cX11_out 1 = .ok (.iconst 1, 1) := by decide +kernel
theorem dX11_out_2 : decode cX11_out 2 = .ok (.bipush 60, 2) := by decide +kernel
theorem dX11_out_4 : decode cX11_out 4 = .ok (.invokestatic 44, 3) := by decide +kernel
theorem dX11_out_7 : decode cX11_out 7 = .ok (.aload_n 0, 1) := by decide +kernel
theorem dX11_out_8 : decode cX11_out 8 = .ok (.getfield 23, 3) := by decide +kernel
theorem dX11_out_11 : decode cX11_out 11 = .ok (.getfield 167, 3) := by decide +kernel
theorem dX11_out_14 : decode cX11_out 14 = .ok (.iload_n 1, 1) := by decide +kernel
theorem dX11_out_15 : decode cX11_out 15 = .ok (.iadd, 1) := by decide +kernel
theorem dX11_out_16 : decode cX11_out 16 = .ok (.sipush 480, 3) := by decide +kernel
theorem dX11_out_19 : decode cX11_out 19 = .ok (.if_icmp .le 13, 3) := by decide +kernel
theorem dX11_out_22 : decode cX11_out 22 = .ok (.new 170, 3) := by decide +kernel
theorem dX11_out_25 : decode cX11_out 25 = .ok (.dup, 1) := by decide +kernel
theorem dX11_out_26 : decode cX11_out 26 = .ok (.ldc 172, 2) := by decide +kernel
theorem dX11_out_28 : decode cX11_out 28 = .ok (.invokespecial 174, 3) := by decide +kernel
theorem dX11_out_31 : decode cX11_out 31 = .ok (.athrow, 1) := by decide +kernel
theorem dX11_out_32 : decode cX11_out 32 = .ok (.aload_n 0, 1) := by decide +kernel
theorem dX11_out_33 : decode cX11_out 33 = .ok (.getfield 23, 3) := by decide +kernel
theorem dX11_out_36 : decode cX11_out 36 = .ok (.iload_n 1, 1) := by decide +kernel
theorem dX11_out_37 : decode cX11_out 37 = .ok (.invokevirtual 175, 3) := by decide +kernel
theorem dX11_out_40 : decode cX11_out 40 = .ok (.aload_n 0, 1) := by decide +kernel
theorem dX11_out_41 : decode cX11_out 41 = .ok (.getfield 23, 3) := by decide +kernel
theorem dX11_out_44 : decode cX11_out 44 = .ok (.getfield 167, 3) := by decide +kernel
theorem dX11_out_47 : decode cX11_out 47 = .ok (.ireturn, 1) := by decide +kernel
theorem dX11_minutes_0 : decode cX11_minutes 0 = .ok (.iload_n 1, 1) := by decide +kernel
theorem dX11_minutes_1 : decode cX11_minutes 1 = .ok (.iconst 0, 1) := by decide +kernel
theorem dX11_minutes_2 : decode cX11_minutes 2 = .ok (.bipush 120, 2) := by decide +kernel
theorem dX11_minutes_4 : decode cX11_minutes 4 = .ok (.invokestatic 44, 3) := by decide +kernel
theorem dX11_minutes_7 : decode cX11_minutes 7 = .ok (.iconst 0, 1) := by decide +kernel
theorem dX11_minutes_8 : decode cX11_minutes 8 = .ok (.istore_n 2, 1) := by decide +kernel
theorem dX11_minutes_9 : decode cX11_minutes 9 = .ok (.iload_n 2, 1) := by decide +kernel
theorem dX11_minutes_10 : decode cX11_minutes 10 = .ok (.iload_n 1, 1) := by decide +kernel
theorem dX11_minutes_11 : decode cX11_minutes 11 = .ok (.if_icmp .ge 29, 3) := by decide +kernel
theorem dX11_minutes_14 : decode cX11_minutes 14 = .ok (.aload_n 0, 1) := by decide +kernel
theorem dX11_minutes_15 : decode cX11_minutes 15 = .ok (.getfield 23, 3) := by decide +kernel
theorem dX11_minutes_18 : decode cX11_minutes 18 = .ok (.getfield 178, 3) := by decide +kernel
theorem dX11_minutes_21 : decode cX11_minutes 21 = .ok (.sipush 480, 3) := by decide +kernel
theorem dX11_minutes_24 : decode cX11_minutes 24 = .ok (.if_icmp .ge 16, 3) := by decide +kernel
theorem dX11_minutes_27 : decode cX11_minutes 27 = .ok (.aload_n 0, 1) := by decide +kernel
theorem dX11_minutes_28 : decode cX11_minutes 28 = .ok (.getfield 23, 3) := by decide +kernel
theorem dX11_minutes_31 : decode cX11_minutes 31 = .ok (.invokevirtual 181, 3) := by decide +kernel
theorem dX11_minutes_34 : decode cX11_minutes 34 = .ok (.iinc 2 1, 3) := by decide +kernel
theorem dX11_minutes_37 : decode cX11_minutes 37 = .ok (.goto (-28), 3) := by decide +kernel
theorem dX11_minutes_40 : decode cX11_minutes 40 = .ok (.aload_n 0, 1) := by decide +kernel
theorem dX11_minutes_41 : decode cX11_minutes 41 = .ok (.getfield 23, 3) := by decide +kernel
theorem dX11_minutes_44 : decode cX11_minutes 44 = .ok (.getfield 178, 3) := by decide +kernel
theorem dX11_minutes_47 : decode cX11_minutes 47 = .ok (.ireturn, 1) := by decide +kernel
theorem dX11_look_0 : decode cX11_look 0 = .ok (.iload_n 1, 1) := by decide +kernel
theorem dX11_look_1 : decode cX11_look 1 = .ok (.aload_n 0, 1) := by decide +kernel
theorem dX11_look_2 : decode cX11_look 2 = .ok (.getfield 23, 3) := by decide +kernel
theorem dX11_look_5 : decode cX11_look 5 = .ok (.getfield 101, 3) := by decide +kernel
theorem dX11_look_8 : decode cX11_look 8 = .ok (.getfield 105, 3) := by decide +kernel
theorem dX11_look_11 : decode cX11_look 11 = .ok (.invokestatic 54, 3) := by decide +kernel
theorem dX11_look_14 : decode cX11_look 14 = .ok (.iload_n 2, 1) := by decide +kernel
theorem dX11_look_15 : decode cX11_look 15 = .ok (.bipush 9, 2) := by decide +kernel
theorem dX11_look_17 : decode cX11_look 17 = .ok (.invokestatic 184, 3) := by decide +kernel
theorem dX11_look_20 : decode cX11_look 20 = .ok (.iload_n 2, 1) := by decide +kernel
theorem dX11_look_21 : decode cX11_look 21 = .ok (.bipush 9, 2) := by decide +kernel
theorem dX11_look_23 : decode cX11_look 23 = .ok (.if_icmp .ne 17, 3) := by decide +kernel
theorem dX11_look_26 : decode cX11_look 26 = .ok (.aload_n 0, 1) := by decide +kernel
theorem dX11_look_27 : decode cX11_look 27 = .ok (.getfield 23, 3) := by decide +kernel
theorem dX11_look_30 : decode cX11_look 30 = .ok (.getfield 101, 3) := by decide +kernel
theorem dX11_look_33 : decode cX11_look 33 = .ok (.iload_n 1, 1) := by decide +kernel
theorem dX11_look_34 : decode cX11_look 34 = .ok (.invokevirtual 187, 3) := by decide +kernel
theorem dX11_look_37 : decode cX11_look 37 = .ok (.goto 18, 3) := by decide +kernel
theorem dX11_look_40 : decode cX11_look 40 = .ok (.aload_n 0, 1) := by decide +kernel
theorem dX11_look_41 : decode cX11_look 41 = .ok (.getfield 23, 3) := by decide +kernel
theorem dX11_look_44 : decode cX11_look 44 = .ok (.getfield 101, 3) := by decide +kernel
theorem dX11_look_47 : decode cX11_look 47 = .ok (.iload_n 1, 1) := by decide +kernel
theorem dX11_look_48 : decode cX11_look 48 = .ok (.invokevirtual 115, 3) := by decide +kernel
theorem dX11_look_51 : decode cX11_look 51 = .ok (.iload_n 2, 1) := by decide +kernel
theorem dX11_look_52 : decode cX11_look 52 = .ok (.invokevirtual 190, 3) := by decide +kernel
theorem dX11_look_55 : decode cX11_look 55 = .ok (.ireturn, 1) := by decide +kernel
theorem dX11_lamp_0 : decode cX11_lamp 0 = .ok (.iload_n 1, 1) := by decide +kernel
theorem dX11_lamp_1 : decode cX11_lamp 1 = .ok (.bipush 16, 2) := by decide +kernel
theorem dX11_lamp_3 : decode cX11_lamp 3 = .ok (.invokestatic 54, 3) := by decide +kernel
theorem dX11_lamp_6 : decode cX11_lamp 6 = .ok (.iload_n 2, 1) := by decide +kernel
theorem dX11_lamp_7 : decode cX11_lamp 7 = .ok (.aload_n 0, 1) := by decide +kernel
theorem dX11_lamp_8 : decode cX11_lamp 8 = .ok (.getfield 23, 3) := by decide +kernel
theorem dX11_lamp_11 : decode cX11_lamp 11 = .ok (.getfield 178, 3) := by decide +kernel
theorem dX11_lamp_14 : decode cX11_lamp 14 = .ok (.sipush 480, 3) := by decide +kernel
theorem dX11_lamp_17 : decode cX11_lamp 17 = .ok (.invokestatic 44, 3) := by decide +kernel
theorem dX11_lamp_20 : decode cX11_lamp 20 = .ok (.iload_n 3, 1) := by decide +kernel
theorem dX11_lamp_21 : decode cX11_lamp 21 = .ok (.ifCond .ne 13, 3) := by decide +kernel
theorem dX11_lamp_24 : decode cX11_lamp 24 = .ok (.new 94, 3) := by decide +kernel
theorem dX11_lamp_27 : decode cX11_lamp 27 = .ok (.dup, 1) := by decide +kernel
theorem dX11_lamp_28 : decode cX11_lamp 28 = .ok (.ldc 193, 2) := by decide +kernel
theorem dX11_lamp_30 : decode cX11_lamp 30 = .ok (.invokespecial 98, 3) := by decide +kernel
theorem dX11_lamp_33 : decode cX11_lamp 33 = .ok (.athrow, 1) := by decide +kernel
theorem dX11_lamp_34 : decode cX11_lamp 34 = .ok (.aload_n 0, 1) := by decide +kernel
theorem dX11_lamp_35 : decode cX11_lamp 35 = .ok (.getfield 23, 3) := by decide +kernel
theorem dX11_lamp_38 : decode cX11_lamp 38 = .ok (.getfield 60, 3) := by decide +kernel
theorem dX11_lamp_41 : decode cX11_lamp 41 = .ok (.iload_n 1, 1) := by decide +kernel
theorem dX11_lamp_42 : decode cX11_lamp 42 = .ok (.iload_n 2, 1) := by decide +kernel
theorem dX11_lamp_43 : decode cX11_lamp 43 = .ok (.iload_n 3, 1) := by decide +kernel
theorem dX11_lamp_44 : decode cX11_lamp 44 = .ok (.invokevirtual 195, 3) := by decide +kernel
theorem dX11_lamp_47 : decode cX11_lamp 47 = .ok (.ireturn, 1) := by decide +kernel
theorem dX11_test_0 : decode cX11_test 0 = .ok (.iload_n 1, 1) := by decide +kernel
theorem dX11_test_1 : decode cX11_test 1 = .ok (.bipush 16, 2) := by decide +kernel
theorem dX11_test_3 : decode cX11_test 3 = .ok (.invokestatic 54, 3) := by decide +kernel
theorem dX11_test_6 : decode cX11_test 6 = .ok (.iload_n 2, 1) := by decide +kernel
theorem dX11_test_7 : decode cX11_test 7 = .ok (.bipush 16, 2) := by decide +kernel
theorem dX11_test_9 : decode cX11_test 9 = .ok (.invokestatic 54, 3) := by decide +kernel
theorem dX11_test_12 : decode cX11_test 12 = .ok (.iload_n 2, 1) := by decide +kernel
theorem dX11_test_13 : decode cX11_test 13 = .ok (.iload_n 1, 1) := by decide +kernel
theorem dX11_test_14 : decode cX11_test 14 = .ok (.bipush 15, 2) := by decide +kernel
theorem dX11_test_16 : decode cX11_test 16 = .ok (.invokestatic 44, 3) := by decide +kernel
theorem dX11_test_19 : decode cX11_test 19 = .ok (.aload_n 0, 1) := by decide +kernel
theorem dX11_test_20 : decode cX11_test 20 = .ok (.getfield 23, 3) := by decide +kernel
theorem dX11_test_23 : decode cX11_test 23 = .ok (.getfield 60, 3) := by decide +kernel
theorem dX11_test_26 : decode cX11_test 26 = .ok (.iload_n 1, 1) := by decide +kernel
theorem dX11_test_27 : decode cX11_test 27 = .ok (.iload_n 2, 1) := by decide +kernel
theorem dX11_test_28 : decode cX11_test 28 = .ok (.aload_n 0, 1) := by decide +kernel
theorem dX11_test_29 : decode cX11_test 29 = .ok (.getfield 23, 3) := by decide +kernel
theorem dX11_test_32 : decode cX11_test 32 = .ok (.getfield 178, 3) := by decide +kernel
theorem dX11_test_35 : decode cX11_test 35 = .ok (.invokevirtual 199, 3) := by decide +kernel
theorem dX11_test_38 : decode cX11_test 38 = .ok (.ireturn, 1) := by decide +kernel
theorem dX11_doubted_0 : decode cX11_doubted 0 = .ok (.aload_n 0, 1) := by decide +kernel
theorem dX11_doubted_1 : decode cX11_doubted 1 = .ok (.getfield 23, 3) := by decide +kernel
theorem dX11_doubted_4 : decode cX11_doubted 4 = .ok (.getfield 60, 3) := by decide +kernel
theorem dX11_doubted_7 : decode cX11_doubted 7 = .ok (.aload_n 0, 1) := by decide +kernel
theorem dX11_doubted_8 : decode cX11_doubted 8 = .ok (.getfield 23, 3) := by decide +kernel
theorem dX11_doubted_11 : decode cX11_doubted 11 = .ok (.getfield 101, 3) := by decide +kernel
theorem dX11_doubted_14 : decode cX11_doubted 14 = .ok (.invokevirtual 203, 3) := by decide +kernel
theorem dX11_doubted_17 : decode cX11_doubted 17 = .ok (.lreturn, 1) := by decide +kernel
theorem dX11_doubt_0 : decode cX11_doubt 0 = .ok (.iload_n 1, 1) := by decide +kernel
theorem dX11_doubt_1 : decode cX11_doubt 1 = .ok (.aload_n 0, 1) := by decide +kernel
theorem dX11_doubt_2 : decode cX11_doubt 2 = .ok (.getfield 23, 3) := by decide +kernel
theorem dX11_doubt_5 : decode cX11_doubt 5 = .ok (.getfield 101, 3) := by decide +kernel
theorem dX11_doubt_8 : decode cX11_doubt 8 = .ok (.getfield 105, 3) := by decide +kernel
theorem dX11_doubt_11 : decode cX11_doubt 11 = .ok (.invokestatic 54, 3) := by decide +kernel
theorem dX11_doubt_14 : decode cX11_doubt 14 = .ok (.iload_n 2, 1) := by decide +kernel
theorem dX11_doubt_15 : decode cX11_doubt 15 = .ok (.iconst 1, 1) := by decide +kernel
theorem dX11_doubt_16 : decode cX11_doubt 16 = .ok (.invokestatic 184, 3) := by decide +kernel
theorem dX11_doubt_19 : decode cX11_doubt 19 = .ok (.aload_n 0, 1) := by decide +kernel
theorem dX11_doubt_20 : decode cX11_doubt 20 = .ok (.getfield 23, 3) := by decide +kernel
theorem dX11_doubt_23 : decode cX11_doubt 23 = .ok (.getfield 60, 3) := by decide +kernel
theorem dX11_doubt_26 : decode cX11_doubt 26 = .ok (.aload_n 0, 1) := by decide +kernel
theorem dX11_doubt_27 : decode cX11_doubt 27 = .ok (.getfield 23, 3) := by decide +kernel
theorem dX11_doubt_30 : decode cX11_doubt 30 = .ok (.getfield 101, 3) := by decide +kernel
theorem dX11_doubt_33 : decode cX11_doubt 33 = .ok (.invokevirtual 203, 3) := by decide +kernel
theorem dX11_doubt_36 : decode cX11_doubt 36 = .ok (.lstore_n 3, 1) := by decide +kernel
theorem dX11_doubt_37 : decode cX11_doubt 37 = .ok (.iload_n 2, 1) := by decide +kernel
theorem dX11_doubt_38 : decode cX11_doubt 38 = .ok (.ifCond .ne 32, 3) := by decide +kernel
theorem dX11_doubt_41 : decode cX11_doubt 41 = .ok (.aload_n 0, 1) := by decide +kernel
theorem dX11_doubt_42 : decode cX11_doubt 42 = .ok (.getfield 23, 3) := by decide +kernel
theorem dX11_doubt_45 : decode cX11_doubt 45 = .ok (.getfield 101, 3) := by decide +kernel
theorem dX11_doubt_48 : decode cX11_doubt 48 = .ok (.iload_n 1, 1) := by decide +kernel
theorem dX11_doubt_49 : decode cX11_doubt 49 = .ok (.invokevirtual 115, 3) := by decide +kernel
theorem dX11_doubt_52 : decode cX11_doubt 52 = .ok (.invokevirtual 138, 3) := by decide +kernel
theorem dX11_doubt_55 : decode cX11_doubt 55 = .ok (.lload_n 3, 1) := by decide +kernel
theorem dX11_doubt_56 : decode cX11_doubt 56 = .ok (.land, 1) := by decide +kernel
theorem dX11_doubt_57 : decode cX11_doubt 57 = .ok (.lconst 0, 1) := by decide +kernel
theorem dX11_doubt_58 : decode cX11_doubt 58 = .ok (.lcmp, 1) := by decide +kernel
theorem dX11_doubt_59 : decode cX11_doubt 59 = .ok (.ifCond .eq 7, 3) := by decide +kernel
theorem dX11_doubt_62 : decode cX11_doubt 62 = .ok (.iconst 1, 1) := by decide +kernel
theorem dX11_doubt_63 : decode cX11_doubt 63 = .ok (.goto 19, 3) := by decide +kernel
theorem dX11_doubt_66 : decode cX11_doubt 66 = .ok (.iconst 0, 1) := by decide +kernel
theorem dX11_doubt_67 : decode cX11_doubt 67 = .ok (.goto 15, 3) := by decide +kernel
theorem dX11_doubt_70 : decode cX11_doubt 70 = .ok (.aload_n 0, 1) := by decide +kernel
theorem dX11_doubt_71 : decode cX11_doubt 71 = .ok (.getfield 23, 3) := by decide +kernel
theorem dX11_doubt_74 : decode cX11_doubt 74 = .ok (.getfield 101, 3) := by decide +kernel
theorem dX11_doubt_77 : decode cX11_doubt 77 = .ok (.iload_n 1, 1) := by decide +kernel
theorem dX11_doubt_78 : decode cX11_doubt 78 = .ok (.lload_n 3, 1) := by decide +kernel
theorem dX11_doubt_79 : decode cX11_doubt 79 = .ok (.invokevirtual 207, 3) := by decide +kernel
theorem dX11_doubt_82 : decode cX11_doubt 82 = .ok (.ireturn, 1) := by decide +kernel
theorem dX11_wanted_0 : decode cX11_wanted 0 = .ok (.iload_n 1, 1) := by decide +kernel
theorem dX11_wanted_1 : decode cX11_wanted 1 = .ok (.iconst 4, 1) := by decide +kernel
theorem dX11_wanted_2 : decode cX11_wanted 2 = .ok (.invokestatic 54, 3) := by decide +kernel
theorem dX11_wanted_5 : decode cX11_wanted 5 = .ok (.iload_n 2, 1) := by decide +kernel
theorem dX11_wanted_6 : decode cX11_wanted 6 = .ok (.iconst 4, 1) := by decide +kernel
theorem dX11_wanted_7 : decode cX11_wanted 7 = .ok (.invokestatic 54, 3) := by decide +kernel
theorem dX11_wanted_10 : decode cX11_wanted 10 = .ok (.iload_n 3, 1) := by decide +kernel
theorem dX11_wanted_11 : decode cX11_wanted 11 = .ok (.iconst 0, 1) := by decide +kernel
theorem dX11_wanted_12 : decode cX11_wanted 12 = .ok (.bipush 6, 2) := by decide +kernel
theorem dX11_wanted_14 : decode cX11_wanted 14 = .ok (.invokestatic 44, 3) := by decide +kernel
theorem dX11_wanted_17 : decode cX11_wanted 17 = .ok (.iload 4, 2) := by decide +kernel
theorem dX11_wanted_19 : decode cX11_wanted 19 = .ok (.iconst 0, 1) := by decide +kernel
theorem dX11_wanted_20 : decode cX11_wanted 20 = .ok (.bipush 9, 2) := by decide +kernel
theorem dX11_wanted_22 : decode cX11_wanted 22 = .ok (.invokestatic 44, 3) := by decide +kernel
theorem dX11_wanted_25 : decode cX11_wanted 25 = .ok (.iload 5, 2) := by decide +kernel
theorem dX11_wanted_27 : decode cX11_wanted 27 = .ok (.iconst 0, 1) := by decide +kernel
theorem dX11_wanted_28 : decode cX11_wanted 28 = .ok (.ldc 69, 2) := by decide +kernel
theorem dX11_wanted_30 : decode cX11_wanted 30 = .ok (.invokestatic 44, 3) := by decide +kernel
theorem dX11_wanted_33 : decode cX11_wanted 33 = .ok (.aload_n 0, 1) := by decide +kernel
theorem dX11_wanted_34 : decode cX11_wanted 34 = .ok (.getfield 23, 3) := by decide +kernel
theorem dX11_wanted_37 : decode cX11_wanted 37 = .ok (.getfield 211, 3) := by decide +kernel
theorem dX11_wanted_40 : decode cX11_wanted 40 = .ok (.iconst 4, 1) := by decide +kernel
theorem dX11_wanted_41 : decode cX11_wanted 41 = .ok (.iload_n 1, 1) := by decide +kernel
theorem dX11_wanted_42 : decode cX11_wanted 42 = .ok (.imul, 1) := by decide +kernel
theorem dX11_wanted_43 : decode cX11_wanted 43 = .ok (.iload_n 2, 1) := by decide +kernel
theorem dX11_wanted_44 : decode cX11_wanted 44 = .ok (.iadd, 1) := by decide +kernel
theorem dX11_wanted_45 : decode cX11_wanted 45 = .ok (.iload_n 3, 1) := by decide +kernel
theorem dX11_wanted_46 : decode cX11_wanted 46 = .ok (.iload 4, 2) := by decide +kernel
theorem dX11_wanted_48 : decode cX11_wanted 48 = .ok (.iload 5, 2) := by decide +kernel
theorem dX11_wanted_50 : decode cX11_wanted 50 = .ok (.invokevirtual 215, 3) := by decide +kernel
theorem dX11_wanted_53 : decode cX11_wanted 53 = .ok (.ireturn, 1) := by decide +kernel
theorem dX11_foretell_0 : decode cX11_foretell 0 = .ok (.iload_n 1, 1) := by decide +kernel
theorem dX11_foretell_1 : decode cX11_foretell 1 = .ok (.iconst 4, 1) := by decide +kernel
theorem dX11_foretell_2 : decode cX11_foretell 2 = .ok (.invokestatic 54, 3) := by decide +kernel
theorem dX11_foretell_5 : decode cX11_foretell 5 = .ok (.iload_n 2, 1) := by decide +kernel
theorem dX11_foretell_6 : decode cX11_foretell 6 = .ok (.iconst 4, 1) := by decide +kernel
theorem dX11_foretell_7 : decode cX11_foretell 7 = .ok (.invokestatic 54, 3) := by decide +kernel
theorem dX11_foretell_10 : decode cX11_foretell 10 = .ok (.iload_n 3, 1) := by decide +kernel
theorem dX11_foretell_11 : decode cX11_foretell 11 = .ok (.iconst 3, 1) := by decide +kernel
theorem dX11_foretell_12 : decode cX11_foretell 12 = .ok (.invokestatic 184, 3) := by decide +kernel
theorem dX11_foretell_15 : decode cX11_foretell 15 = .ok (.aload_n 0, 1) := by decide +kernel
theorem dX11_foretell_16 : decode cX11_foretell 16 = .ok (.getfield 23, 3) := by decide +kernel
theorem dX11_foretell_19 : decode cX11_foretell 19 = .ok (.getfield 211, 3) := by decide +kernel
theorem dX11_foretell_22 : decode cX11_foretell 22 = .ok (.iconst 4, 1) := by decide +kernel
theorem dX11_foretell_23 : decode cX11_foretell 23 = .ok (.iload_n 1, 1) := by decide +kernel
theorem dX11_foretell_24 : decode cX11_foretell 24 = .ok (.imul, 1) := by decide +kernel
theorem dX11_foretell_25 : decode cX11_foretell 25 = .ok (.iload_n 2, 1) := by decide +kernel
theorem dX11_foretell_26 : decode cX11_foretell 26 = .ok (.iadd, 1) := by decide +kernel
theorem dX11_foretell_27 : decode cX11_foretell 27 = .ok (.aload_n 0, 1) := by decide +kernel
theorem dX11_foretell_28 : decode cX11_foretell 28 = .ok (.getfield 23, 3) := by decide +kernel
theorem dX11_foretell_31 : decode cX11_foretell 31 = .ok (.getfield 48, 3) := by decide +kernel
theorem dX11_foretell_34 : decode cX11_foretell 34 = .ok (.invokevirtual 221, 3) := by decide +kernel
theorem dX11_foretell_37 : decode cX11_foretell 37 = .ok (.aload_n 0, 1) := by decide +kernel
theorem dX11_foretell_38 : decode cX11_foretell 38 = .ok (.getfield 23, 3) := by decide +kernel
theorem dX11_foretell_41 : decode cX11_foretell 41 = .ok (.getfield 211, 3) := by decide +kernel
theorem dX11_foretell_44 : decode cX11_foretell 44 = .ok (.aload_n 0, 1) := by decide +kernel
theorem dX11_foretell_45 : decode cX11_foretell 45 = .ok (.getfield 23, 3) := by decide +kernel
theorem dX11_foretell_48 : decode cX11_foretell 48 = .ok (.getfield 51, 3) := by decide +kernel
theorem dX11_foretell_51 : decode cX11_foretell 51 = .ok (.iload_n 3, 1) := by decide +kernel
theorem dX11_foretell_52 : decode cX11_foretell 52 = .ok (.invokevirtual 224, 3) := by decide +kernel
theorem dX11_foretell_55 : decode cX11_foretell 55 = .ok (.ireturn, 1) := by decide +kernel
theorem dX11_far_0 : decode cX11_far 0 = .ok (.iload_n 1, 1) := by decide +kernel
theorem dX11_far_1 : decode cX11_far 1 = .ok (.iconst 4, 1) := by decide +kernel
theorem dX11_far_2 : decode cX11_far 2 = .ok (.invokestatic 54, 3) := by decide +kernel
theorem dX11_far_5 : decode cX11_far 5 = .ok (.iload_n 2, 1) := by decide +kernel
theorem dX11_far_6 : decode cX11_far 6 = .ok (.iconst 4, 1) := by decide +kernel
theorem dX11_far_7 : decode cX11_far 7 = .ok (.invokestatic 54, 3) := by decide +kernel
theorem dX11_far_10 : decode cX11_far 10 = .ok (.iconst 4, 1) := by decide +kernel
theorem dX11_far_11 : decode cX11_far 11 = .ok (.iload_n 1, 1) := by decide +kernel
theorem dX11_far_12 : decode cX11_far 12 = .ok (.imul, 1) := by decide +kernel
theorem dX11_far_13 : decode cX11_far 13 = .ok (.iload_n 2, 1) := by decide +kernel
theorem dX11_far_14 : decode cX11_far 14 = .ok (.iadd, 1) := by decide +kernel
theorem dX11_far_15 : decode cX11_far 15 = .ok (.istore_n 3, 1) := by decide +kernel
theorem dX11_far_16 : decode cX11_far 16 = .ok (.aload_n 0, 1) := by decide +kernel
theorem dX11_far_17 : decode cX11_far 17 = .ok (.getfield 23, 3) := by decide +kernel
theorem dX11_far_20 : decode cX11_far 20 = .ok (.getfield 211, 3) := by decide +kernel
theorem dX11_far_23 : decode cX11_far 23 = .ok (.iload_n 3, 1) := by decide +kernel
theorem dX11_far_24 : decode cX11_far 24 = .ok (.aload_n 0, 1) := by decide +kernel
theorem dX11_far_25 : decode cX11_far 25 = .ok (.getfield 23, 3) := by decide +kernel
theorem dX11_far_28 : decode cX11_far 28 = .ok (.getfield 48, 3) := by decide +kernel
theorem dX11_far_31 : decode cX11_far 31 = .ok (.invokevirtual 221, 3) := by decide +kernel
theorem dX11_far_34 : decode cX11_far 34 = .ok (.aload_n 0, 1) := by decide +kernel
theorem dX11_far_35 : decode cX11_far 35 = .ok (.getfield 23, 3) := by decide +kernel
theorem dX11_far_38 : decode cX11_far 38 = .ok (.getfield 211, 3) := by decide +kernel
theorem dX11_far_41 : decode cX11_far 41 = .ok (.aload_n 0, 1) := by decide +kernel
theorem dX11_far_42 : decode cX11_far 42 = .ok (.getfield 23, 3) := by decide +kernel
theorem dX11_far_45 : decode cX11_far 45 = .ok (.getfield 60, 3) := by decide +kernel
theorem dX11_far_48 : decode cX11_far 48 = .ok (.iload_n 3, 1) := by decide +kernel
theorem dX11_far_49 : decode cX11_far 49 = .ok (.invokevirtual 74, 3) := by decide +kernel
theorem dX11_far_52 : decode cX11_far 52 = .ok (.invokevirtual 227, 3) := by decide +kernel
theorem dX11_far_55 : decode cX11_far 55 = .ok (.ireturn, 1) := by decide +kernel
theorem dX11_good_0 : decode cX11_good 0 = .ok (.iload_n 1, 1) := by decide +kernel
theorem dX11_good_1 : decode cX11_good 1 = .ok (.iconst 4, 1) := by decide +kernel
theorem dX11_good_2 : decode cX11_good 2 = .ok (.invokestatic 54, 3) := by decide +kernel
theorem dX11_good_5 : decode cX11_good 5 = .ok (.iload_n 2, 1) := by decide +kernel
theorem dX11_good_6 : decode cX11_good 6 = .ok (.iconst 1, 1) := by decide +kernel
theorem dX11_good_7 : decode cX11_good 7 = .ok (.sipush 9999, 3) := by decide +kernel
theorem dX11_good_10 : decode cX11_good 10 = .ok (.invokestatic 44, 3) := by decide +kernel
theorem dX11_good_13 : decode cX11_good 13 = .ok (.iload_n 3, 1) := by decide +kernel
theorem dX11_good_14 : decode cX11_good 14 = .ok (.iconst 1, 1) := by decide +kernel
theorem dX11_good_15 : decode cX11_good 15 = .ok (.bipush 100, 2) := by decide +kernel
theorem dX11_good_17 : decode cX11_good 17 = .ok (.invokestatic 44, 3) := by decide +kernel
theorem dX11_good_20 : decode cX11_good 20 = .ok (.iload 4, 2) := by decide +kernel
theorem dX11_good_22 : decode cX11_good 22 = .ok (.iconst 1, 1) := by decide +kernel
theorem dX11_good_23 : decode cX11_good 23 = .ok (.bipush 100, 2) := by decide +kernel
theorem dX11_good_25 : decode cX11_good 25 = .ok (.invokestatic 44, 3) := by decide +kernel
theorem dX11_good_28 : decode cX11_good 28 = .ok (.iload 5, 2) := by decide +kernel
theorem dX11_good_30 : decode cX11_good 30 = .ok (.iconst 0, 1) := by decide +kernel
theorem dX11_good_31 : decode cX11_good 31 = .ok (.sipush 9999, 3) := by decide +kernel
theorem dX11_good_34 : decode cX11_good 34 = .ok (.invokestatic 44, 3) := by decide +kernel
theorem dX11_good_37 : decode cX11_good 37 = .ok (.aload_n 0, 1) := by decide +kernel
theorem dX11_good_38 : decode cX11_good 38 = .ok (.getfield 23, 3) := by decide +kernel
theorem dX11_good_41 : decode cX11_good 41 = .ok (.getfield 230, 3) := by decide +kernel
theorem dX11_good_44 : decode cX11_good 44 = .ok (.iload_n 1, 1) := by decide +kernel
theorem dX11_good_45 : decode cX11_good 45 = .ok (.iload_n 2, 1) := by decide +kernel
theorem dX11_good_46 : decode cX11_good 46 = .ok (.iload_n 3, 1) := by decide +kernel
theorem dX11_good_47 : decode cX11_good 47 = .ok (.iload 4, 2) := by decide +kernel
theorem dX11_good_49 : decode cX11_good 49 = .ok (.iload 5, 2) := by decide +kernel
theorem dX11_good_51 : decode cX11_good 51 = .ok (.invokevirtual 234, 3) := by decide +kernel
theorem dX11_good_54 : decode cX11_good 54 = .ok (.return_, 1) := by decide +kernel
theorem dX11_fleet_0 : decode cX11_fleet 0 = .ok (.iload_n 1, 1) := by decide +kernel
theorem dX11_fleet_1 : decode cX11_fleet 1 = .ok (.iconst 0, 1) := by decide +kernel
theorem dX11_fleet_2 : decode cX11_fleet 2 = .ok (.ldc 240, 2) := by decide +kernel
theorem dX11_fleet_4 : decode cX11_fleet 4 = .ok (.invokestatic 44, 3) := by decide +kernel
theorem dX11_fleet_7 : decode cX11_fleet 7 = .ok (.iload_n 2, 1) := by decide +kernel
theorem dX11_fleet_8 : decode cX11_fleet 8 = .ok (.iconst 0, 1) := by decide +kernel
theorem dX11_fleet_9 : decode cX11_fleet 9 = .ok (.ldc 240, 2) := by decide +kernel
theorem dX11_fleet_11 : decode cX11_fleet 11 = .ok (.invokestatic 44, 3) := by decide +kernel
theorem dX11_fleet_14 : decode cX11_fleet 14 = .ok (.iload_n 3, 1) := by decide +kernel
theorem dX11_fleet_15 : decode cX11_fleet 15 = .ok (.iconst 0, 1) := by decide +kernel
theorem dX11_fleet_16 : decode cX11_fleet 16 = .ok (.ldc 240, 2) := by decide +kernel
theorem dX11_fleet_18 : decode cX11_fleet 18 = .ok (.invokestatic 44, 3) := by decide +kernel
theorem dX11_fleet_21 : decode cX11_fleet 21 = .ok (.iload 4, 2) := by decide +kernel
theorem dX11_fleet_23 : decode cX11_fleet 23 = .ok (.iconst 0, 1) := by decide +kernel
theorem dX11_fleet_24 : decode cX11_fleet 24 = .ok (.ldc 241, 2) := by decide +kernel
theorem dX11_fleet_26 : decode cX11_fleet 26 = .ok (.invokestatic 44, 3) := by decide +kernel
theorem dX11_fleet_29 : decode cX11_fleet 29 = .ok (.iload 5, 2) := by decide +kernel
theorem dX11_fleet_31 : decode cX11_fleet 31 = .ok (.iconst 0, 1) := by decide +kernel
theorem dX11_fleet_32 : decode cX11_fleet 32 = .ok (.ldc 241, 2) := by decide +kernel
theorem dX11_fleet_34 : decode cX11_fleet 34 = .ok (.invokestatic 44, 3) := by decide +kernel
theorem dX11_fleet_37 : decode cX11_fleet 37 = .ok (.aload_n 0, 1) := by decide +kernel
theorem dX11_fleet_38 : decode cX11_fleet 38 = .ok (.getfield 23, 3) := by decide +kernel
theorem dX11_fleet_41 : decode cX11_fleet 41 = .ok (.getfield 230, 3) := by decide +kernel
theorem dX11_fleet_44 : decode cX11_fleet 44 = .ok (.iload_n 1, 1) := by decide +kernel
theorem dX11_fleet_45 : decode cX11_fleet 45 = .ok (.iload_n 2, 1) := by decide +kernel
theorem dX11_fleet_46 : decode cX11_fleet 46 = .ok (.iload_n 3, 1) := by decide +kernel
theorem dX11_fleet_47 : decode cX11_fleet 47 = .ok (.iload 4, 2) := by decide +kernel
theorem dX11_fleet_49 : decode cX11_fleet 49 = .ok (.iload 5, 2) := by decide +kernel
theorem dX11_fleet_51 : decode cX11_fleet 51 = .ok (.invokevirtual 242, 3) := by decide +kernel
theorem dX11_fleet_54 : decode cX11_fleet 54 = .ok (.return_, 1) := by decide +kernel
theorem dX11_fill_0 : decode cX11_fill 0 = .ok (.iload_n 1, 1) := by decide +kernel
theorem dX11_fill_1 : decode cX11_fill 1 = .ok (.ifCond .eq 23, 3) := by decide +kernel
theorem dX11_fill_4 : decode cX11_fill 4 = .ok (.aload_n 0, 1) := by decide +kernel
theorem dX11_fill_5 : decode cX11_fill 5 = .ok (.getfield 23, 3) := by decide +kernel
theorem dX11_fill_8 : decode cX11_fill 8 = .ok (.getfield 230, 3) := by decide +kernel
theorem dX11_fill_11 : decode cX11_fill 11 = .ok (.aload_n 0, 1) := by decide +kernel
theorem dX11_fill_12 : decode cX11_fill 12 = .ok (.getfield 23, 3) := by decide +kernel
theorem dX11_fill_15 : decode cX11_fill 15 = .ok (.getfield 60, 3) := by decide +kernel
theorem dX11_fill_18 : decode cX11_fill 18 = .ok (.invokevirtual 245, 3) := by decide +kernel
theorem dX11_fill_21 : decode cX11_fill 21 = .ok (.goto 20, 3) := by decide +kernel
theorem dX11_fill_24 : decode cX11_fill 24 = .ok (.aload_n 0, 1) := by decide +kernel
theorem dX11_fill_25 : decode cX11_fill 25 = .ok (.getfield 23, 3) := by decide +kernel
theorem dX11_fill_28 : decode cX11_fill 28 = .ok (.getfield 230, 3) := by decide +kernel
theorem dX11_fill_31 : decode cX11_fill 31 = .ok (.aload_n 0, 1) := by decide +kernel
theorem dX11_fill_32 : decode cX11_fill 32 = .ok (.getfield 23, 3) := by decide +kernel
theorem dX11_fill_35 : decode cX11_fill 35 = .ok (.getfield 60, 3) := by decide +kernel
theorem dX11_fill_38 : decode cX11_fill 38 = .ok (.invokevirtual 249, 3) := by decide +kernel
theorem dX11_fill_41 : decode cX11_fill 41 = .ok (.lreturn, 1) := by decide +kernel
theorem dX11_cost_0 : decode cX11_cost 0 = .ok (.iload_n 1, 1) := by decide +kernel
theorem dX11_cost_1 : decode cX11_cost 1 = .ok (.iconst 4, 1) := by decide +kernel
theorem dX11_cost_2 : decode cX11_cost 2 = .ok (.invokestatic 54, 3) := by decide +kernel
theorem dX11_cost_5 : decode cX11_cost 5 = .ok (.aload_n 0, 1) := by decide +kernel
theorem dX11_cost_6 : decode cX11_cost 6 = .ok (.getfield 23, 3) := by decide +kernel
theorem dX11_cost_9 : decode cX11_cost 9 = .ok (.getfield 230, 3) := by decide +kernel
theorem dX11_cost_12 : decode cX11_cost 12 = .ok (.aload_n 0, 1) := by decide +kernel
theorem dX11_cost_13 : decode cX11_cost 13 = .ok (.getfield 23, 3) := by decide +kernel
theorem dX11_cost_16 : decode cX11_cost 16 = .ok (.getfield 60, 3) := by decide +kernel
theorem dX11_cost_19 : decode cX11_cost 19 = .ok (.iload_n 1, 1) := by decide +kernel
theorem dX11_cost_20 : decode cX11_cost 20 = .ok (.invokevirtual 252, 3) := by decide +kernel
theorem dX11_cost_23 : decode cX11_cost 23 = .ok (.lreturn, 1) := by decide +kernel
theorem dX11_worker_0 : decode cX11_worker 0 = .ok (.iload_n 1, 1) := by decide +kernel
theorem dX11_worker_1 : decode cX11_worker 1 = .ok (.iconst 0, 1) := by decide +kernel
theorem dX11_worker_2 : decode cX11_worker 2 = .ok (.bipush 99, 2) := by decide +kernel
theorem dX11_worker_4 : decode cX11_worker 4 = .ok (.invokestatic 44, 3) := by decide +kernel
theorem dX11_worker_7 : decode cX11_worker 7 = .ok (.iload_n 2, 1) := by decide +kernel
theorem dX11_worker_8 : decode cX11_worker 8 = .ok (.iconst 0, 1) := by decide +kernel
theorem dX11_worker_9 : decode cX11_worker 9 = .ok (.sipush 999, 3) := by decide +kernel
theorem dX11_worker_12 : decode cX11_worker 12 = .ok (.invokestatic 44, 3) := by decide +kernel
theorem dX11_worker_15 : decode cX11_worker 15 = .ok (.aload_n 0, 1) := by decide +kernel
theorem dX11_worker_16 : decode cX11_worker 16 = .ok (.getfield 23, 3) := by decide +kernel
theorem dX11_worker_19 : decode cX11_worker 19 = .ok (.getfield 256, 3) := by decide +kernel
theorem dX11_worker_22 : decode cX11_worker 22 = .ok (.getfield 260, 3) := by decide +kernel
theorem dX11_worker_25 : decode cX11_worker 25 = .ok (.bipush 20, 2) := by decide +kernel
theorem dX11_worker_27 : decode cX11_worker 27 = .ok (.if_icmp .lt 14, 3) := by decide +kernel
theorem dX11_worker_30 : decode cX11_worker 30 = .ok (.new 110, 3) := by decide +kernel
theorem dX11_worker_33 : decode cX11_worker 33 = .ok (.dup, 1) := by decide +kernel
theorem dX11_worker_34 : decode cX11_worker 34 = .ok (.ldc_w 263, 3) := by decide +kernel
theorem dX11_worker_37 : decode cX11_worker 37 = .ok (.invokespecial 114, 3) := by decide +kernel
theorem dX11_worker_40 : decode cX11_worker 40 = .ok (.athrow, 1) := by decide +kernel
theorem dX11_worker_41 : decode cX11_worker 41 = .ok (.aload_n 0, 1) := by decide +kernel
theorem dX11_worker_42 : decode cX11_worker 42 = .ok (.getfield 23, 3) := by decide +kernel
theorem dX11_worker_45 : decode cX11_worker 45 = .ok (.getfield 256, 3) := by decide +kernel
theorem dX11_worker_48 : decode cX11_worker 48 = .ok (.iload_n 1, 1) := by decide +kernel
theorem dX11_worker_49 : decode cX11_worker 49 = .ok (.iload_n 2, 1) := by decide +kernel
theorem dX11_worker_50 : decode cX11_worker 50 = .ok (.invokevirtual 265, 3) := by decide +kernel
theorem dX11_worker_53 : decode cX11_worker 53 = .ok (.ireturn, 1) := by decide +kernel
theorem dX11_alter_0 : decode cX11_alter 0 = .ok (.iload_n 1, 1) := by decide +kernel
theorem dX11_alter_1 : decode cX11_alter 1 = .ok (.aload_n 0, 1) := by decide +kernel
theorem dX11_alter_2 : decode cX11_alter 2 = .ok (.getfield 23, 3) := by decide +kernel
theorem dX11_alter_5 : decode cX11_alter 5 = .ok (.getfield 256, 3) := by decide +kernel
theorem dX11_alter_8 : decode cX11_alter 8 = .ok (.getfield 260, 3) := by decide +kernel
theorem dX11_alter_11 : decode cX11_alter 11 = .ok (.invokestatic 54, 3) := by decide +kernel
theorem dX11_alter_14 : decode cX11_alter 14 = .ok (.iload_n 2, 1) := by decide +kernel
theorem dX11_alter_15 : decode cX11_alter 15 = .ok (.iconst 0, 1) := by decide +kernel
theorem dX11_alter_16 : decode cX11_alter 16 = .ok (.bipush 99, 2) := by decide +kernel
theorem dX11_alter_18 : decode cX11_alter 18 = .ok (.invokestatic 44, 3) := by decide +kernel
theorem dX11_alter_21 : decode cX11_alter 21 = .ok (.iload_n 3, 1) := by decide +kernel
theorem dX11_alter_22 : decode cX11_alter 22 = .ok (.iconst 0, 1) := by decide +kernel
theorem dX11_alter_23 : decode cX11_alter 23 = .ok (.bipush 9, 2) := by decide +kernel
theorem dX11_alter_25 : decode cX11_alter 25 = .ok (.invokestatic 44, 3) := by decide +kernel
theorem dX11_alter_28 : decode cX11_alter 28 = .ok (.aload_n 0, 1) := by decide +kernel
theorem dX11_alter_29 : decode cX11_alter 29 = .ok (.getfield 23, 3) := by decide +kernel
theorem dX11_alter_32 : decode cX11_alter 32 = .ok (.getfield 256, 3) := by decide +kernel
theorem dX11_alter_35 : decode cX11_alter 35 = .ok (.getfield 268, 3) := by decide +kernel
theorem dX11_alter_38 : decode cX11_alter 38 = .ok (.ifCond .eq 14, 3) := by decide +kernel
theorem dX11_alter_41 : decode cX11_alter 41 = .ok (.new 170, 3) := by decide +kernel
theorem dX11_alter_44 : decode cX11_alter 44 = .ok (.dup, 1) := by decide +kernel
theorem dX11_alter_45 : decode cX11_alter 45 = .ok (.ldc_w 272, 3) := by decide +kernel
theorem dX11_alter_48 : decode cX11_alter 48 = .ok (.invokespecial 174, 3) := by decide +kernel
theorem dX11_alter_51 : decode cX11_alter 51 = .ok (.athrow, 1) := by decide +kernel
theorem dX11_alter_52 : decode cX11_alter 52 = .ok (.aload_n 0, 1) := by decide +kernel
theorem dX11_alter_53 : decode cX11_alter 53 = .ok (.getfield 23, 3) := by decide +kernel
theorem dX11_alter_56 : decode cX11_alter 56 = .ok (.getfield 256, 3) := by decide +kernel
theorem dX11_alter_59 : decode cX11_alter 59 = .ok (.iload_n 1, 1) := by decide +kernel
theorem dX11_alter_60 : decode cX11_alter 60 = .ok (.iload_n 2, 1) := by decide +kernel
theorem dX11_alter_61 : decode cX11_alter 61 = .ok (.iload_n 3, 1) := by decide +kernel
theorem dX11_alter_62 : decode cX11_alter 62 = .ok (.invokevirtual 274, 3) := by decide +kernel
theorem dX11_alter_65 : decode cX11_alter 65 = .ok (.ireturn, 1) := by decide +kernel
theorem dX11_pay_0 : decode cX11_pay 0 = .ok (.iload_n 1, 1) := by decide +kernel
theorem dX11_pay_1 : decode cX11_pay 1 = .ok (.aload_n 0, 1) := by decide +kernel
theorem dX11_pay_2 : decode cX11_pay 2 = .ok (.getfield 23, 3) := by decide +kernel
theorem dX11_pay_5 : decode cX11_pay 5 = .ok (.getfield 256, 3) := by decide +kernel
theorem dX11_pay_8 : decode cX11_pay 8 = .ok (.getfield 260, 3) := by decide +kernel
theorem dX11_pay_11 : decode cX11_pay 11 = .ok (.invokestatic 54, 3) := by decide +kernel
theorem dX11_pay_14 : decode cX11_pay 14 = .ok (.iload_n 2, 1) := by decide +kernel
theorem dX11_pay_15 : decode cX11_pay 15 = .ok (.iconst 3, 1) := by decide +kernel
theorem dX11_pay_16 : decode cX11_pay 16 = .ok (.invokestatic 184, 3) := by decide +kernel
theorem dX11_pay_19 : decode cX11_pay 19 = .ok (.aload_n 0, 1) := by decide +kernel
theorem dX11_pay_20 : decode cX11_pay 20 = .ok (.getfield 23, 3) := by decide +kernel
theorem dX11_pay_23 : decode cX11_pay 23 = .ok (.getfield 256, 3) := by decide +kernel
theorem dX11_pay_26 : decode cX11_pay 26 = .ok (.iload_n 1, 1) := by decide +kernel
theorem dX11_pay_27 : decode cX11_pay 27 = .ok (.iload_n 2, 1) := by decide +kernel
theorem dX11_pay_28 : decode cX11_pay 28 = .ok (.invokevirtual 277, 3) := by decide +kernel
theorem dX11_pay_31 : decode cX11_pay 31 = .ok (.ireturn, 1) := by decide +kernel
theorem dX11_wages_0 : decode cX11_wages 0 = .ok (.aload_n 0, 1) := by decide +kernel
theorem dX11_wages_1 : decode cX11_wages 1 = .ok (.getfield 23, 3) := by decide +kernel
theorem dX11_wages_4 : decode cX11_wages 4 = .ok (.getfield 256, 3) := by decide +kernel
theorem dX11_wages_7 : decode cX11_wages 7 = .ok (.getfield 268, 3) := by decide +kernel
theorem dX11_wages_10 : decode cX11_wages 10 = .ok (.ifCond .ne 33, 3) := by decide +kernel
theorem dX11_wages_13 : decode cX11_wages 13 = .ok (.aload_n 0, 1) := by decide +kernel
theorem dX11_wages_14 : decode cX11_wages 14 = .ok (.getfield 23, 3) := by decide +kernel
theorem dX11_wages_17 : decode cX11_wages 17 = .ok (.getfield 101, 3) := by decide +kernel
theorem dX11_wages_20 : decode cX11_wages 20 = .ok (.aload_n 0, 1) := by decide +kernel
theorem dX11_wages_21 : decode cX11_wages 21 = .ok (.getfield 23, 3) := by decide +kernel
theorem dX11_wages_24 : decode cX11_wages 24 = .ok (.getfield 60, 3) := by decide +kernel
theorem dX11_wages_27 : decode cX11_wages 27 = .ok (.aload_n 0, 1) := by decide +kernel
theorem dX11_wages_28 : decode cX11_wages 28 = .ok (.getfield 23, 3) := by decide +kernel
theorem dX11_wages_31 : decode cX11_wages 31 = .ok (.getfield 101, 3) := by decide +kernel
theorem dX11_wages_34 : decode cX11_wages 34 = .ok (.invokevirtual 203, 3) := by decide +kernel
theorem dX11_wages_37 : decode cX11_wages 37 = .ok (.invokevirtual 279, 3) := by decide +kernel
theorem dX11_wages_40 : decode cX11_wages 40 = .ok (.ifCond .ne 5, 3) := by decide +kernel
theorem dX11_wages_43 : decode cX11_wages 43 = .ok (.iconst (-1), 1) := by decide +kernel
theorem dX11_wages_44 : decode cX11_wages 44 = .ok (.ireturn, 1) := by decide +kernel
theorem dX11_wages_45 : decode cX11_wages 45 = .ok (.aload_n 0, 1) := by decide +kernel
theorem dX11_wages_46 : decode cX11_wages 46 = .ok (.getfield 23, 3) := by decide +kernel
theorem dX11_wages_49 : decode cX11_wages 49 = .ok (.getfield 256, 3) := by decide +kernel
theorem dX11_wages_52 : decode cX11_wages 52 = .ok (.iconst 1, 1) := by decide +kernel
theorem dX11_wages_53 : decode cX11_wages 53 = .ok (.putfield 268, 3) := by decide +kernel
theorem dX11_wages_56 : decode cX11_wages 56 = .ok (.aload_n 0, 1) := by decide +kernel
theorem dX11_wages_57 : decode cX11_wages 57 = .ok (.getfield 23, 3) := by decide +kernel
theorem dX11_wages_60 : decode cX11_wages 60 = .ok (.getfield 256, 3) := by decide +kernel
theorem dX11_wages_63 : decode cX11_wages 63 = .ok (.invokevirtual 283, 3) := by decide +kernel
theorem dX11_wages_66 : decode cX11_wages 66 = .ok (.ireturn, 1) := by decide +kernel
theorem dX11_plan_0 : decode cX11_plan 0 = .ok (.iload_n 1, 1) := by decide +kernel
theorem dX11_plan_1 : decode cX11_plan 1 = .ok (.iconst 0, 1) := by decide +kernel
theorem dX11_plan_2 : decode cX11_plan 2 = .ok (.sipush 1000, 3) := by decide +kernel
theorem dX11_plan_5 : decode cX11_plan 5 = .ok (.invokestatic 44, 3) := by decide +kernel
theorem dX11_plan_8 : decode cX11_plan 8 = .ok (.iload_n 2, 1) := by decide +kernel
theorem dX11_plan_9 : decode cX11_plan 9 = .ok (.iconst 0, 1) := by decide +kernel
theorem dX11_plan_10 : decode cX11_plan 10 = .ok (.sipush 1000, 3) := by decide +kernel
theorem dX11_plan_13 : decode cX11_plan 13 = .ok (.invokestatic 44, 3) := by decide +kernel
theorem dX11_plan_16 : decode cX11_plan 16 = .ok (.aload_n 0, 1) := by decide +kernel
theorem dX11_plan_17 : decode cX11_plan 17 = .ok (.getfield 33, 3) := by decide +kernel
theorem dX11_plan_20 : decode cX11_plan 20 = .ok (.aload_n 0, 1) := by decide +kernel
theorem dX11_plan_21 : decode cX11_plan 21 = .ok (.getfield 23, 3) := by decide +kernel
theorem dX11_plan_24 : decode cX11_plan 24 = .ok (.getfield 101, 3) := by decide +kernel
theorem dX11_plan_27 : decode cX11_plan 27 = .ok (.iload_n 1, 1) := by decide +kernel
theorem dX11_plan_28 : decode cX11_plan 28 = .ok (.iload_n 2, 1) := by decide +kernel
theorem dX11_plan_29 : decode cX11_plan 29 = .ok (.invokevirtual 286, 3) := by decide +kernel
theorem dX11_plan_32 : decode cX11_plan 32 = .ok (.ireturn, 1) := by decide +kernel
theorem dX11_which_0 : decode cX11_which 0 = .ok (.iload_n 3, 1) := by decide +kernel
theorem dX11_which_1 : decode cX11_which 1 = .ok (.aload_n 0, 1) := by decide +kernel
theorem dX11_which_2 : decode cX11_which 2 = .ok (.getfield 23, 3) := by decide +kernel
theorem dX11_which_5 : decode cX11_which 5 = .ok (.getfield 101, 3) := by decide +kernel
theorem dX11_which_8 : decode cX11_which 8 = .ok (.getfield 105, 3) := by decide +kernel
theorem dX11_which_11 : decode cX11_which 11 = .ok (.invokestatic 54, 3) := by decide +kernel
theorem dX11_which_14 : decode cX11_which 14 = .ok (.iload_n 1, 1) := by decide +kernel
theorem dX11_which_15 : decode cX11_which 15 = .ok (.iconst 0, 1) := by decide +kernel
theorem dX11_which_16 : decode cX11_which 16 = .ok (.sipush 1000, 3) := by decide +kernel
theorem dX11_which_19 : decode cX11_which 19 = .ok (.invokestatic 44, 3) := by decide +kernel
theorem dX11_which_22 : decode cX11_which 22 = .ok (.iload_n 2, 1) := by decide +kernel
theorem dX11_which_23 : decode cX11_which 23 = .ok (.iconst 0, 1) := by decide +kernel
theorem dX11_which_24 : decode cX11_which 24 = .ok (.sipush 1000, 3) := by decide +kernel
theorem dX11_which_27 : decode cX11_which 27 = .ok (.invokestatic 44, 3) := by decide +kernel
theorem dX11_which_30 : decode cX11_which 30 = .ok (.aload_n 0, 1) := by decide +kernel
theorem dX11_which_31 : decode cX11_which 31 = .ok (.getfield 33, 3) := by decide +kernel
theorem dX11_which_34 : decode cX11_which 34 = .ok (.aload_n 0, 1) := by decide +kernel
theorem dX11_which_35 : decode cX11_which 35 = .ok (.getfield 23, 3) := by decide +kernel
theorem dX11_which_38 : decode cX11_which 38 = .ok (.getfield 101, 3) := by decide +kernel
theorem dX11_which_41 : decode cX11_which 41 = .ok (.iload_n 1, 1) := by decide +kernel
theorem dX11_which_42 : decode cX11_which 42 = .ok (.iload_n 2, 1) := by decide +kernel
theorem dX11_which_43 : decode cX11_which 43 = .ok (.invokevirtual 286, 3) := by decide +kernel
theorem dX11_which_46 : decode cX11_which 46 = .ok (.pop, 1) := by decide +kernel
theorem dX11_which_47 : decode cX11_which 47 = .ok (.aload_n 0, 1) := by decide +kernel
theorem dX11_which_48 : decode cX11_which 48 = .ok (.getfield 33, 3) := by decide +kernel
theorem dX11_which_51 : decode cX11_which 51 = .ok (.iload_n 3, 1) := by decide +kernel
theorem dX11_which_52 : decode cX11_which 52 = .ok (.invokevirtual 290, 3) := by decide +kernel
theorem dX11_which_55 : decode cX11_which 55 = .ok (.ireturn, 1) := by decide +kernel
theorem dX11_beside_0 : decode cX11_beside 0 = .ok (.iload_n 1, 1) := by decide +kernel
theorem dX11_beside_1 : decode cX11_beside 1 = .ok (.ifCond .eq 16, 3) := by decide +kernel
theorem dX11_beside_4 : decode cX11_beside 4 = .ok (.aload_n 0, 1) := by decide +kernel
theorem dX11_beside_5 : decode cX11_beside 5 = .ok (.getfield 23, 3) := by decide +kernel
theorem dX11_beside_8 : decode cX11_beside 8 = .ok (.getfield 101, 3) := by decide +kernel
theorem dX11_beside_11 : decode cX11_beside 11 = .ok (.invokevirtual 293, 3) := by decide +kernel
theorem dX11_beside_14 : decode cX11_beside 14 = .ok (.goto 13, 3) := by decide +kernel
theorem dX11_beside_17 : decode cX11_beside 17 = .ok (.aload_n 0, 1) := by decide +kernel
theorem dX11_beside_18 : decode cX11_beside 18 = .ok (.getfield 23, 3) := by decide +kernel
theorem dX11_beside_21 : decode cX11_beside 21 = .ok (.getfield 101, 3) := by decide +kernel
theorem dX11_beside_24 : decode cX11_beside 24 = .ok (.invokevirtual 296, 3) := by decide +kernel
theorem dX11_beside_27 : decode cX11_beside 27 = .ok (.ireturn, 1) := by decide +kernel
theorem dX11_tear_0 : decode cX11_tear 0 = .ok (.aload_n 0, 1) := by decide +kernel
theorem dX11_tear_1 : decode cX11_tear 1 = .ok (.getfield 23, 3) := by decide +kernel
theorem dX11_tear_4 : decode cX11_tear 4 = .ok (.getfield 60, 3) := by decide +kernel
theorem dX11_tear_7 : decode cX11_tear 7 = .ok (.invokevirtual 299, 3) := by decide +kernel
theorem dX11_tear_10 : decode cX11_tear 10 = .ok (.istore_n 3, 1) := by decide +kernel
theorem dX11_tear_11 : decode cX11_tear 11 = .ok (.iload_n 1, 1) := by decide +kernel
theorem dX11_tear_12 : decode cX11_tear 12 = .ok (.ifCond .lt 8, 3) := by decide +kernel
theorem dX11_tear_15 : decode cX11_tear 15 = .ok (.iload_n 1, 1) := by decide +kernel
theorem dX11_tear_16 : decode cX11_tear 16 = .ok (.iload_n 3, 1) := by decide +kernel
theorem dX11_tear_17 : decode cX11_tear 17 = .ok (.if_icmp .lt 14, 3) := by decide +kernel
theorem dX11_tear_20 : decode cX11_tear 20 = .ok (.new 302, 3) := by decide +kernel
theorem dX11_tear_23 : decode cX11_tear 23 = .ok (.dup, 1) := by decide +kernel
theorem dX11_tear_24 : decode cX11_tear 24 = .ok (.ldc_w 304, 3) := by decide +kernel
theorem dX11_tear_27 : decode cX11_tear 27 = .ok (.invokespecial 306, 3) := by decide +kernel
theorem dX11_tear_30 : decode cX11_tear 30 = .ok (.athrow, 1) := by decide +kernel
theorem dX11_tear_31 : decode cX11_tear 31 = .ok (.aload_n 0, 1) := by decide +kernel
theorem dX11_tear_32 : decode cX11_tear 32 = .ok (.getfield 23, 3) := by decide +kernel
theorem dX11_tear_35 : decode cX11_tear 35 = .ok (.getfield 60, 3) := by decide +kernel
theorem dX11_tear_38 : decode cX11_tear 38 = .ok (.aload_n 0, 1) := by decide +kernel
theorem dX11_tear_39 : decode cX11_tear 39 = .ok (.getfield 23, 3) := by decide +kernel
theorem dX11_tear_42 : decode cX11_tear 42 = .ok (.getfield 60, 3) := by decide +kernel
theorem dX11_tear_45 : decode cX11_tear 45 = .ok (.getfield 307, 3) := by decide +kernel
theorem dX11_tear_48 : decode cX11_tear 48 = .ok (.iload_n 3, 1) := by decide +kernel
theorem dX11_tear_49 : decode cX11_tear 49 = .ok (.isub, 1) := by decide +kernel
theorem dX11_tear_50 : decode cX11_tear 50 = .ok (.iload_n 1, 1) := by decide +kernel
theorem dX11_tear_51 : decode cX11_tear 51 = .ok (.iadd, 1) := by decide +kernel
theorem dX11_tear_52 : decode cX11_tear 52 = .ok (.iload_n 2, 1) := by decide +kernel
theorem dX11_tear_53 : decode cX11_tear 53 = .ok (.invokevirtual 310, 3) := by decide +kernel
theorem dX11_tear_56 : decode cX11_tear 56 = .ok (.ireturn, 1) := by decide +kernel
theorem dX11_check_0 : decode cX11_check 0 = .ok (.aload_n 0, 1) := by decide +kernel
theorem dX11_check_1 : decode cX11_check 1 = .ok (.getfield 23, 3) := by decide +kernel
theorem dX11_check_4 : decode cX11_check 4 = .ok (.getfield 60, 3) := by decide +kernel
theorem dX11_check_7 : decode cX11_check 7 = .ok (.invokevirtual 313, 3) := by decide +kernel
theorem dX11_check_10 : decode cX11_check 10 = .ok (.ireturn, 1) := by decide +kernel
theorem dX11_image_0 : decode cX11_image 0 = .ok (.aload_n 0, 1) := by decide +kernel
theorem dX11_image_1 : decode cX11_image 1 = .ok (.getfield 27, 3) := by decide +kernel
theorem dX11_image_4 : decode cX11_image 4 = .ok (.aload_n 0, 1) := by decide +kernel
theorem dX11_image_5 : decode cX11_image 5 = .ok (.getfield 23, 3) := by decide +kernel
theorem dX11_image_8 : decode cX11_image 8 = .ok (.invokevirtual 316, 3) := by decide +kernel
theorem dX11_image_11 : decode cX11_image 11 = .ok (.aload_n 0, 1) := by decide +kernel
theorem dX11_image_12 : decode cX11_image 12 = .ok (.iconst 1, 1) := by decide +kernel
theorem dX11_image_13 : decode cX11_image 13 = .ok (.putfield 320, 3) := by decide +kernel
theorem dX11_image_16 : decode cX11_image 16 = .ok (.return_, 1) := by decide +kernel
theorem dX11_back_0 : decode cX11_back 0 = .ok (.aload_n 0, 1) := by decide +kernel
theorem dX11_back_1 : decode cX11_back 1 = .ok (.getfield 320, 3) := by decide +kernel
theorem dX11_back_4 : decode cX11_back 4 = .ok (.ifCond .ne 5, 3) := by decide +kernel
theorem dX11_back_7 : decode cX11_back 7 = .ok (.iconst 0, 1) := by decide +kernel
theorem dX11_back_8 : decode cX11_back 8 = .ok (.ireturn, 1) := by decide +kernel
theorem dX11_back_9 : decode cX11_back 9 = .ok (.aload_n 0, 1) := by decide +kernel
theorem dX11_back_10 : decode cX11_back 10 = .ok (.getfield 23, 3) := by decide +kernel
theorem dX11_back_13 : decode cX11_back 13 = .ok (.aload_n 0, 1) := by decide +kernel
theorem dX11_back_14 : decode cX11_back 14 = .ok (.getfield 27, 3) := by decide +kernel
theorem dX11_back_17 : decode cX11_back 17 = .ok (.invokevirtual 316, 3) := by decide +kernel
theorem dX11_back_20 : decode cX11_back 20 = .ok (.iconst 1, 1) := by decide +kernel
theorem dX11_back_21 : decode cX11_back 21 = .ok (.ireturn, 1) := by decide +kernel
theorem dX11_count_0 : decode cX11_count 0 = .ok (.iload_n 1, 1) := by decide +kernel
theorem dX11_count_1 : decode cX11_count 1 = .ok (.tableswitch 206 0 12 #[67, 75, 86, 97, 105, 113, 124, 132, 143, 154, 165, 184, 195], 67) := by decide +kernel
theorem dX11_count_68 : decode cX11_count 68 = .ok (.aload_n 0, 1) := by decide +kernel
theorem dX11_count_69 : decode cX11_count 69 = .ok (.getfield 23, 3) := by decide +kernel
theorem dX11_count_72 : decode cX11_count 72 = .ok (.getfield 178, 3) := by decide +kernel
theorem dX11_count_75 : decode cX11_count 75 = .ok (.ireturn, 1) := by decide +kernel
theorem dX11_count_76 : decode cX11_count 76 = .ok (.aload_n 0, 1) := by decide +kernel
theorem dX11_count_77 : decode cX11_count 77 = .ok (.getfield 23, 3) := by decide +kernel
theorem dX11_count_80 : decode cX11_count 80 = .ok (.getfield 101, 3) := by decide +kernel
theorem dX11_count_83 : decode cX11_count 83 = .ok (.getfield 105, 3) := by decide +kernel
theorem dX11_count_86 : decode cX11_count 86 = .ok (.ireturn, 1) := by decide +kernel
theorem dX11_count_87 : decode cX11_count 87 = .ok (.aload_n 0, 1) := by decide +kernel
theorem dX11_count_88 : decode cX11_count 88 = .ok (.getfield 23, 3) := by decide +kernel
theorem dX11_count_91 : decode cX11_count 91 = .ok (.getfield 60, 3) := by decide +kernel
theorem dX11_count_94 : decode cX11_count 94 = .ok (.getfield 307, 3) := by decide +kernel
theorem dX11_count_97 : decode cX11_count 97 = .ok (.ireturn, 1) := by decide +kernel
theorem dX11_count_98 : decode cX11_count 98 = .ok (.aload_n 0, 1) := by decide +kernel
theorem dX11_count_99 : decode cX11_count 99 = .ok (.getfield 23, 3) := by decide +kernel
theorem dX11_count_102 : decode cX11_count 102 = .ok (.getfield 167, 3) := by decide +kernel
theorem dX11_count_105 : decode cX11_count 105 = .ok (.ireturn, 1) := by decide +kernel
theorem dX11_count_106 : decode cX11_count 106 = .ok (.aload_n 0, 1) := by decide +kernel
theorem dX11_count_107 : decode cX11_count 107 = .ok (.getfield 23, 3) := by decide +kernel
theorem dX11_count_110 : decode cX11_count 110 = .ok (.getfield 323, 3) := by decide +kernel
theorem dX11_count_113 : decode cX11_count 113 = .ok (.ireturn, 1) := by decide +kernel
theorem dX11_count_114 : decode cX11_count 114 = .ok (.aload_n 0, 1) := by decide +kernel
theorem dX11_count_115 : decode cX11_count 115 = .ok (.getfield 23, 3) := by decide +kernel
theorem dX11_count_118 : decode cX11_count 118 = .ok (.getfield 101, 3) := by decide +kernel
theorem dX11_count_121 : decode cX11_count 121 = .ok (.invokevirtual 326, 3) := by decide +kernel
theorem dX11_count_124 : decode cX11_count 124 = .ok (.ireturn, 1) := by decide +kernel
theorem dX11_count_125 : decode cX11_count 125 = .ok (.aload_n 0, 1) := by decide +kernel
theorem dX11_count_126 : decode cX11_count 126 = .ok (.getfield 23, 3) := by decide +kernel
theorem dX11_count_129 : decode cX11_count 129 = .ok (.getfield 329, 3) := by decide +kernel
theorem dX11_count_132 : decode cX11_count 132 = .ok (.ireturn, 1) := by decide +kernel
theorem dX11_count_133 : decode cX11_count 133 = .ok (.aload_n 0, 1) := by decide +kernel
theorem dX11_count_134 : decode cX11_count 134 = .ok (.getfield 23, 3) := by decide +kernel
theorem dX11_count_137 : decode cX11_count 137 = .ok (.getfield 101, 3) := by decide +kernel
theorem dX11_count_140 : decode cX11_count 140 = .ok (.invokevirtual 332, 3) := by decide +kernel
theorem dX11_count_143 : decode cX11_count 143 = .ok (.ireturn, 1) := by decide +kernel
theorem dX11_count_144 : decode cX11_count 144 = .ok (.aload_n 0, 1) := by decide +kernel
theorem dX11_count_145 : decode cX11_count 145 = .ok (.getfield 23, 3) := by decide +kernel
theorem dX11_count_148 : decode cX11_count 148 = .ok (.getfield 101, 3) := by decide +kernel
theorem dX11_count_151 : decode cX11_count 151 = .ok (.invokevirtual 335, 3) := by decide +kernel
theorem dX11_count_154 : decode cX11_count 154 = .ok (.ireturn, 1) := by decide +kernel
theorem dX11_count_155 : decode cX11_count 155 = .ok (.aload_n 0, 1) := by decide +kernel
theorem dX11_count_156 : decode cX11_count 156 = .ok (.getfield 23, 3) := by decide +kernel
theorem dX11_count_159 : decode cX11_count 159 = .ok (.getfield 256, 3) := by decide +kernel
theorem dX11_count_162 : decode cX11_count 162 = .ok (.getfield 260, 3) := by decide +kernel
theorem dX11_count_165 : decode cX11_count 165 = .ok (.ireturn, 1) := by decide +kernel
theorem dX11_count_166 : decode cX11_count 166 = .ok (.aload_n 0, 1) := by decide +kernel
theorem dX11_count_167 : decode cX11_count 167 = .ok (.getfield 23, 3) := by decide +kernel
theorem dX11_count_170 : decode cX11_count 170 = .ok (.getfield 256, 3) := by decide +kernel
theorem dX11_count_173 : decode cX11_count 173 = .ok (.getfield 268, 3) := by decide +kernel
theorem dX11_count_176 : decode cX11_count 176 = .ok (.ifCond .eq 7, 3) := by decide +kernel
theorem dX11_count_179 : decode cX11_count 179 = .ok (.iconst 1, 1) := by decide +kernel
theorem dX11_count_180 : decode cX11_count 180 = .ok (.goto 4, 3) := by decide +kernel
theorem dX11_count_183 : decode cX11_count 183 = .ok (.iconst 0, 1) := by decide +kernel
theorem dX11_count_184 : decode cX11_count 184 = .ok (.ireturn, 1) := by decide +kernel
theorem dX11_count_185 : decode cX11_count 185 = .ok (.aload_n 0, 1) := by decide +kernel
theorem dX11_count_186 : decode cX11_count 186 = .ok (.getfield 23, 3) := by decide +kernel
theorem dX11_count_189 : decode cX11_count 189 = .ok (.getfield 211, 3) := by decide +kernel
theorem dX11_count_192 : decode cX11_count 192 = .ok (.getfield 338, 3) := by decide +kernel
theorem dX11_count_195 : decode cX11_count 195 = .ok (.ireturn, 1) := by decide +kernel
theorem dX11_count_196 : decode cX11_count 196 = .ok (.aload_n 0, 1) := by decide +kernel
theorem dX11_count_197 : decode cX11_count 197 = .ok (.getfield 23, 3) := by decide +kernel
theorem dX11_count_200 : decode cX11_count 200 = .ok (.getfield 60, 3) := by decide +kernel
theorem dX11_count_203 : decode cX11_count 203 = .ok (.getfield 339, 3) := by decide +kernel
theorem dX11_count_206 : decode cX11_count 206 = .ok (.ireturn, 1) := by decide +kernel
theorem dX11_count_207 : decode cX11_count 207 = .ok (.iconst (-1), 1) := by decide +kernel
theorem dX11_count_208 : decode cX11_count 208 = .ok (.ireturn, 1) := by decide +kernel
theorem dX11_needPlace_0 : decode cX11_needPlace 0 = .ok (.iload_n 0, 1) := by decide +kernel
theorem dX11_needPlace_1 : decode cX11_needPlace 1 = .ok (.ifCond .lt 8, 3) := by decide +kernel
theorem dX11_needPlace_4 : decode cX11_needPlace 4 = .ok (.iload_n 0, 1) := by decide +kernel
theorem dX11_needPlace_5 : decode cX11_needPlace 5 = .ok (.iload_n 1, 1) := by decide +kernel
theorem dX11_needPlace_6 : decode cX11_needPlace 6 = .ok (.if_icmp .lt 14, 3) := by decide +kernel
theorem dX11_needPlace_9 : decode cX11_needPlace 9 = .ok (.new 342, 3) := by decide +kernel
theorem dX11_needPlace_12 : decode cX11_needPlace 12 = .ok (.dup, 1) := by decide +kernel
theorem dX11_needPlace_13 : decode cX11_needPlace 13 = .ok (.ldc_w 344, 3) := by decide +kernel
theorem dX11_needPlace_16 : decode cX11_needPlace 16 = .ok (.invokespecial 346, 3) := by decide +kernel
theorem dX11_needPlace_19 : decode cX11_needPlace 19 = .ok (.athrow, 1) := by decide +kernel
theorem dX11_needPlace_20 : decode cX11_needPlace 20 = .ok (.return_, 1) := by decide +kernel
theorem dX11_needNumber_0 : decode cX11_needNumber 0 = .ok (.iload_n 0, 1) := by decide +kernel
theorem dX11_needNumber_1 : decode cX11_needNumber 1 = .ok (.iload_n 1, 1) := by decide +kernel
theorem dX11_needNumber_2 : decode cX11_needNumber 2 = .ok (.if_icmp .lt 8, 3) := by decide +kernel
theorem dX11_needNumber_5 : decode cX11_needNumber 5 = .ok (.iload_n 0, 1) := by decide +kernel
theorem dX11_needNumber_6 : decode cX11_needNumber 6 = .ok (.iload_n 2, 1) := by decide +kernel
theorem dX11_needNumber_7 : decode cX11_needNumber 7 = .ok (.if_icmp .le 14, 3) := by decide +kernel
theorem dX11_needNumber_10 : decode cX11_needNumber 10 = .ok (.new 94, 3) := by decide +kernel
theorem dX11_needNumber_13 : decode cX11_needNumber 13 = .ok (.dup, 1) := by decide +kernel
theorem dX11_needNumber_14 : decode cX11_needNumber 14 = .ok (.ldc_w 347, 3) := by decide +kernel
theorem dX11_needNumber_17 : decode cX11_needNumber 17 = .ok (.invokespecial 98, 3) := by decide +kernel
theorem dX11_needNumber_20 : decode cX11_needNumber 20 = .ok (.athrow, 1) := by decide +kernel
theorem dX11_needNumber_21 : decode cX11_needNumber 21 = .ok (.return_, 1) := by decide +kernel
theorem dX11_needWhat_0 : decode cX11_needWhat 0 = .ok (.iload_n 0, 1) := by decide +kernel
theorem dX11_needWhat_1 : decode cX11_needWhat 1 = .ok (.ifCond .lt 8, 3) := by decide +kernel
theorem dX11_needWhat_4 : decode cX11_needWhat 4 = .ok (.iload_n 0, 1) := by decide +kernel
theorem dX11_needWhat_5 : decode cX11_needWhat 5 = .ok (.iload_n 1, 1) := by decide +kernel
theorem dX11_needWhat_6 : decode cX11_needWhat 6 = .ok (.if_icmp .le 14, 3) := by decide +kernel
theorem dX11_needWhat_9 : decode cX11_needWhat 9 = .ok (.new 302, 3) := by decide +kernel
theorem dX11_needWhat_12 : decode cX11_needWhat 12 = .ok (.dup, 1) := by decide +kernel
theorem dX11_needWhat_13 : decode cX11_needWhat 13 = .ok (.ldc_w 349, 3) := by decide +kernel
theorem dX11_needWhat_16 : decode cX11_needWhat 16 = .ok (.invokespecial 306, 3) := by decide +kernel
theorem dX11_needWhat_19 : decode cX11_needWhat 19 = .ok (.athrow, 1) := by decide +kernel
theorem dX11_needWhat_20 : decode cX11_needWhat 20 = .ok (.return_, 1) := by decide +kernel
theorem dX11_outOfBounds_0 : decode cX11_outOfBounds 0 = .ok (.lload_n 0, 1) := by decide +kernel
theorem dX11_outOfBounds_1 : decode cX11_outOfBounds 1 = .ok (.ldc2_w 351, 3) := by decide +kernel
theorem dX11_outOfBounds_4 : decode cX11_outOfBounds 4 = .ok (.lcmp, 1) := by decide +kernel
theorem dX11_outOfBounds_5 : decode cX11_outOfBounds 5 = .ok (.ifCond .lt 11, 3) := by decide +kernel
theorem dX11_outOfBounds_8 : decode cX11_outOfBounds 8 = .ok (.lload_n 0, 1) := by decide +kernel
theorem dX11_outOfBounds_9 : decode cX11_outOfBounds 9 = .ok (.ldc2_w 353, 3) := by decide +kernel
theorem dX11_outOfBounds_12 : decode cX11_outOfBounds 12 = .ok (.lcmp, 1) := by decide +kernel
theorem dX11_outOfBounds_13 : decode cX11_outOfBounds 13 = .ok (.ifCond .le 7, 3) := by decide +kernel
theorem dX11_outOfBounds_16 : decode cX11_outOfBounds 16 = .ok (.iconst 1, 1) := by decide +kernel
theorem dX11_outOfBounds_17 : decode cX11_outOfBounds 17 = .ok (.goto 4, 3) := by decide +kernel
theorem dX11_outOfBounds_20 : decode cX11_outOfBounds 20 = .ok (.iconst 0, 1) := by decide +kernel
theorem dX11_outOfBounds_21 : decode cX11_outOfBounds 21 = .ok (.ireturn, 1) := by decide +kernel
theorem dX12_thrown_0 : decode cX12_thrown 0 = .ok (.aload_n 0, 1) := by decide +kernel
theorem dX12_thrown_1 : decode cX12_thrown 1 = .ok (.getfield 3, 3) := by decide +kernel
theorem dX12_thrown_4 : decode cX12_thrown 4 = .ok (.ireturn, 1) := by decide +kernel
theorem dX12_throwsIf_0 : decode cX12_throwsIf 0 = .ok (.iload_n 1, 1) := by decide +kernel
theorem dX12_throwsIf_1 : decode cX12_throwsIf 1 = .ok (.ifCond .eq 8, 3) := by decide +kernel
theorem dX12_throwsIf_4 : decode cX12_throwsIf 4 = .ok (.aload_n 0, 1) := by decide +kernel
theorem dX12_throwsIf_5 : decode cX12_throwsIf 5 = .ok (.iload_n 2, 1) := by decide +kernel
theorem dX12_throwsIf_6 : decode cX12_throwsIf 6 = .ok (.putfield 3, 3) := by decide +kernel
theorem dX12_throwsIf_9 : decode cX12_throwsIf 9 = .ok (.iload_n 1, 1) := by decide +kernel
theorem dX12_throwsIf_10 : decode cX12_throwsIf 10 = .ok (.ireturn, 1) := by decide +kernel
theorem dX12_in_0 : decode cX12_in 0 = .ok (.iload_n 0, 1) := by decide +kernel
theorem dX12_in_1 : decode cX12_in 1 = .ok (.iload_n 1, 1) := by decide +kernel
theorem dX12_in_2 : decode cX12_in 2 = .ok (.if_icmp .lt 12, 3) := by decide +kernel
theorem dX12_in_5 : decode cX12_in 5 = .ok (.iload_n 0, 1) := by decide +kernel
theorem dX12_in_6 : decode cX12_in 6 = .ok (.iload_n 2, 1) := by decide +kernel
theorem dX12_in_7 : decode cX12_in 7 = .ok (.if_icmp .gt 7, 3) := by decide +kernel
theorem dX12_in_10 : decode cX12_in 10 = .ok (.iconst 1, 1) := by decide +kernel
theorem dX12_in_11 : decode cX12_in 11 = .ok (.goto 4, 3) := by decide +kernel
theorem dX12_in_14 : decode cX12_in 14 = .ok (.iconst 0, 1) := by decide +kernel
theorem dX12_in_15 : decode cX12_in 15 = .ok (.ireturn, 1) := by decide +kernel
theorem dX12_init_0 : decode cX12_init 0 = .ok (.aload_n 0, 1) := by decide +kernel
theorem dX12_init_1 : decode cX12_init 1 = .ok (.invokespecial 7, 3) := by decide +kernel
theorem dX12_init_4 : decode cX12_init 4 = .ok (.aload_n 0, 1) := by decide +kernel
theorem dX12_init_5 : decode cX12_init 5 = .ok (.ldc 13, 2) := by decide +kernel
theorem dX12_init_7 : decode cX12_init 7 = .ok (.newarray .int, 2) := by decide +kernel
theorem dX12_init_9 : decode cX12_init 9 = .ok (.putfield 14, 3) := by decide +kernel
theorem dX12_init_12 : decode cX12_init 12 = .ok (.aload_n 0, 1) := by decide +kernel
theorem dX12_init_13 : decode cX12_init 13 = .ok (.ldc 13, 2) := by decide +kernel
theorem dX12_init_15 : decode cX12_init 15 = .ok (.newarray .int, 2) := by decide +kernel
theorem dX12_init_17 : decode cX12_init 17 = .ok (.putfield 18, 3) := by decide +kernel
theorem dX12_init_20 : decode cX12_init 20 = .ok (.aload_n 0, 1) := by decide +kernel
theorem dX12_init_21 : decode cX12_init 21 = .ok (.sipush 400, 3) := by decide +kernel
theorem dX12_init_24 : decode cX12_init 24 = .ok (.newarray .byte, 2) := by decide +kernel
theorem dX12_init_26 : decode cX12_init 26 = .ok (.putfield 21, 3) := by decide +kernel
theorem dX12_init_29 : decode cX12_init 29 = .ok (.aload_n 0, 1) := by decide +kernel
theorem dX12_init_30 : decode cX12_init 30 = .ok (.iconst (-1), 1) := by decide +kernel
theorem dX12_init_31 : decode cX12_init 31 = .ok (.putfield 25, 3) := by decide +kernel
theorem dX12_init_34 : decode cX12_init 34 = .ok (.aload_n 0, 1) := by decide +kernel
theorem dX12_init_35 : decode cX12_init 35 = .ok (.iconst 5, 1) := by decide +kernel
theorem dX12_init_36 : decode cX12_init 36 = .ok (.newarray .int, 2) := by decide +kernel
theorem dX12_init_38 : decode cX12_init 38 = .ok (.putfield 28, 3) := by decide +kernel
theorem dX12_init_41 : decode cX12_init 41 = .ok (.aload_n 0, 1) := by decide +kernel
theorem dX12_init_42 : decode cX12_init 42 = .ok (.sipush 882, 3) := by decide +kernel
theorem dX12_init_45 : decode cX12_init 45 = .ok (.newarray .int, 2) := by decide +kernel
theorem dX12_init_47 : decode cX12_init 47 = .ok (.putfield 31, 3) := by decide +kernel
theorem dX12_init_50 : decode cX12_init 50 = .ok (.aload_n 0, 1) := by decide +kernel
theorem dX12_init_51 : decode cX12_init 51 = .ok (.bipush 12, 2) := by decide +kernel
theorem dX12_init_53 : decode cX12_init 53 = .ok (.newarray .int, 2) := by decide +kernel
theorem dX12_init_55 : decode cX12_init 55 = .ok (.putfield 34, 3) := by decide +kernel
theorem dX12_init_58 : decode cX12_init 58 = .ok (.aload_n 0, 1) := by decide +kernel
theorem dX12_init_59 : decode cX12_init 59 = .ok (.sipush 400, 3) := by decide +kernel
theorem dX12_init_62 : decode cX12_init 62 = .ok (.newarray .long, 2) := by decide +kernel
theorem dX12_init_64 : decode cX12_init 64 = .ok (.putfield 37, 3) := by decide +kernel
theorem dX12_init_67 : decode cX12_init 67 = .ok (.aload_n 0, 1) := by decide +kernel
theorem dX12_init_68 : decode cX12_init 68 = .ok (.bipush 64, 2) := by decide +kernel
theorem dX12_init_70 : decode cX12_init 70 = .ok (.newarray .boolean, 2) := by decide +kernel
theorem dX12_init_72 : decode cX12_init 72 = .ok (.putfield 41, 3) := by decide +kernel
theorem dX12_init_75 : decode cX12_init 75 = .ok (.aload_n 0, 1) := by decide +kernel
theorem dX12_init_76 : decode cX12_init 76 = .ok (.iconst 3, 1) := by decide +kernel
theorem dX12_init_77 : decode cX12_init 77 = .ok (.newarray .long, 2) := by decide +kernel
theorem dX12_init_79 : decode cX12_init 79 = .ok (.putfield 45, 3) := by decide +kernel
theorem dX12_init_82 : decode cX12_init 82 = .ok (.aload_n 0, 1) := by decide +kernel
theorem dX12_init_83 : decode cX12_init 83 = .ok (.bipush 7, 2) := by decide +kernel
theorem dX12_init_85 : decode cX12_init 85 = .ok (.newarray .int, 2) := by decide +kernel
theorem dX12_init_87 : decode cX12_init 87 = .ok (.putfield 48, 3) := by decide +kernel
theorem dX12_init_90 : decode cX12_init 90 = .ok (.aload_n 0, 1) := by decide +kernel
theorem dX12_init_91 : decode cX12_init 91 = .ok (.bipush 12, 2) := by decide +kernel
theorem dX12_init_93 : decode cX12_init 93 = .ok (.newarray .int, 2) := by decide +kernel
theorem dX12_init_95 : decode cX12_init 95 = .ok (.putfield 51, 3) := by decide +kernel
theorem dX12_init_98 : decode cX12_init 98 = .ok (.aload_n 0, 1) := by decide +kernel
theorem dX12_init_99 : decode cX12_init 99 = .ok (.iconst 2, 1) := by decide +kernel
theorem dX12_init_100 : decode cX12_init 100 = .ok (.newarray .int, 2) := by decide +kernel
theorem dX12_init_102 : decode cX12_init 102 = .ok (.putfield 54, 3) := by decide +kernel
theorem dX12_init_105 : decode cX12_init 105 = .ok (.aload_n 0, 1) := by decide +kernel
theorem dX12_init_106 : decode cX12_init 106 = .ok (.getfield 14, 3) := by decide +kernel
theorem dX12_init_109 : decode cX12_init 109 = .ok (.iconst 4, 1) := by decide +kernel
theorem dX12_init_110 : decode cX12_init 110 = .ok (.iconst (-1), 1) := by decide +kernel
theorem dX12_init_111 : decode cX12_init 111 = .ok (.iastore, 1) := by decide +kernel
theorem dX12_init_112 : decode cX12_init 112 = .ok (.iconst 0, 1) := by decide +kernel
theorem dX12_init_113 : decode cX12_init 113 = .ok (.istore_n 1, 1) := by decide +kernel
theorem dX12_init_114 : decode cX12_init 114 = .ok (.iload_n 1, 1) := by decide +kernel
theorem dX12_init_115 : decode cX12_init 115 = .ok (.iconst 4, 1) := by decide +kernel
theorem dX12_init_116 : decode cX12_init 116 = .ok (.if_icmp .ge 37, 3) := by decide +kernel
theorem dX12_init_119 : decode cX12_init 119 = .ok (.iconst 0, 1) := by decide +kernel
theorem dX12_init_120 : decode cX12_init 120 = .ok (.istore_n 2, 1) := by decide +kernel
theorem dX12_init_121 : decode cX12_init 121 = .ok (.iload_n 2, 1) := by decide +kernel
theorem dX12_init_122 : decode cX12_init 122 = .ok (.iconst 3, 1) := by decide +kernel
theorem dX12_init_123 : decode cX12_init 123 = .ok (.if_icmp .ge 24, 3) := by decide +kernel
theorem dX12_init_126 : decode cX12_init 126 = .ok (.aload_n 0, 1) := by decide +kernel
theorem dX12_init_127 : decode cX12_init 127 = .ok (.getfield 14, 3) := by decide +kernel
theorem dX12_init_130 : decode cX12_init 130 = .ok (.sipush 11254, 3) := by decide +kernel
theorem dX12_init_133 : decode cX12_init 133 = .ok (.iconst 4, 1) := by decide +kernel
theorem dX12_init_134 : decode cX12_init 134 = .ok (.iload_n 1, 1) := by decide +kernel
theorem dX12_init_135 : decode cX12_init 135 = .ok (.imul, 1) := by decide +kernel
theorem dX12_init_136 : decode cX12_init 136 = .ok (.iadd, 1) := by decide +kernel
theorem dX12_init_137 : decode cX12_init 137 = .ok (.iload_n 2, 1) := by decide +kernel
theorem dX12_init_138 : decode cX12_init 138 = .ok (.iadd, 1) := by decide +kernel
theorem dX12_init_139 : decode cX12_init 139 = .ok (.iconst 1, 1) := by decide +kernel
theorem dX12_init_140 : decode cX12_init 140 = .ok (.iastore, 1) := by decide +kernel
theorem dX12_init_141 : decode cX12_init 141 = .ok (.iinc 2 1, 3) := by decide +kernel
theorem dX12_init_144 : decode cX12_init 144 = .ok (.goto (-23), 3) := by decide +kernel
theorem dX12_init_147 : decode cX12_init 147 = .ok (.iinc 1 1, 3) := by decide +kernel
theorem dX12_init_150 : decode cX12_init 150 = .ok (.goto (-36), 3) := by decide +kernel
theorem dX12_init_153 : decode cX12_init 153 = .ok (.return_, 1) := by decide +kernel
theorem dX12_now_0 : decode cX12_now 0 = .ok (.aload_n 0, 1) := by decide +kernel
theorem dX12_now_1 : decode cX12_now 1 = .ok (.getfield 14, 3) := by decide +kernel
theorem dX12_now_4 : decode cX12_now 4 = .ok (.iconst 0, 1) := by decide +kernel
theorem dX12_now_5 : decode cX12_now 5 = .ok (.iaload, 1) := by decide +kernel
theorem dX12_now_6 : decode cX12_now 6 = .ok (.ireturn, 1) := by decide +kernel
theorem dX12_image_0 : decode cX12_image 0 = .ok (.aload_n 0, 1) := by decide +kernel
theorem dX12_image_1 : decode cX12_image 1 = .ok (.iconst 0, 1) := by decide +kernel
theorem dX12_image_2 : decode cX12_image 2 = .ok (.putfield 3, 3) := by decide +kernel
theorem dX12_image_5 : decode cX12_image 5 = .ok (.iconst 0, 1) := by decide +kernel
theorem dX12_image_6 : decode cX12_image 6 = .ok (.istore_n 1, 1) := by decide +kernel
theorem dX12_image_7 : decode cX12_image 7 = .ok (.iload_n 1, 1) := by decide +kernel
theorem dX12_image_8 : decode cX12_image 8 = .ok (.sipush 11357, 3) := by decide +kernel
theorem dX12_image_11 : decode cX12_image 11 = .ok (.bipush 7, 2) := by decide +kernel
theorem dX12_image_13 : decode cX12_image 13 = .ok (.aload_n 0, 1) := by decide +kernel
theorem dX12_image_14 : decode cX12_image 14 = .ok (.getfield 14, 3) := by decide +kernel
theorem dX12_image_17 : decode cX12_image 17 = .ok (.sipush 11356, 3) := by decide +kernel
theorem dX12_image_20 : decode cX12_image 20 = .ok (.iaload, 1) := by decide +kernel
theorem dX12_image_21 : decode cX12_image 21 = .ok (.imul, 1) := by decide +kernel
theorem dX12_image_22 : decode cX12_image 22 = .ok (.iadd, 1) := by decide +kernel
theorem dX12_image_23 : decode cX12_image 23 = .ok (.if_icmp .ge 21, 3) := by decide +kernel
theorem dX12_image_26 : decode cX12_image 26 = .ok (.aload_n 0, 1) := by decide +kernel
theorem dX12_image_27 : decode cX12_image 27 = .ok (.getfield 18, 3) := by decide +kernel
theorem dX12_image_30 : decode cX12_image 30 = .ok (.iload_n 1, 1) := by decide +kernel
theorem dX12_image_31 : decode cX12_image 31 = .ok (.aload_n 0, 1) := by decide +kernel
theorem dX12_image_32 : decode cX12_image 32 = .ok (.getfield 14, 3) := by decide +kernel
theorem dX12_image_35 : decode cX12_image 35 = .ok (.iload_n 1, 1) := by decide +kernel
theorem dX12_image_36 : decode cX12_image 36 = .ok (.iaload, 1) := by decide +kernel
theorem dX12_image_37 : decode cX12_image 37 = .ok (.iastore, 1) := by decide +kernel
theorem dX12_image_38 : decode cX12_image 38 = .ok (.iinc 1 1, 3) := by decide +kernel
theorem dX12_image_41 : decode cX12_image 41 = .ok (.goto (-34), 3) := by decide +kernel
theorem dX12_image_44 : decode cX12_image 44 = .ok (.aload_n 0, 1) := by decide +kernel
theorem dX12_image_45 : decode cX12_image 45 = .ok (.iconst 1, 1) := by decide +kernel
theorem dX12_image_46 : decode cX12_image 46 = .ok (.putfield 57, 3) := by decide +kernel
theorem dX12_image_49 : decode cX12_image 49 = .ok (.return_, 1) := by decide +kernel
theorem dX12_back_0 : decode cX12_back 0 = .ok (.aload_n 0, 1) := by decide +kernel
theorem dX12_back_1 : decode cX12_back 1 = .ok (.iconst 0, 1) := by decide +kernel
theorem dX12_back_2 : decode cX12_back 2 = .ok (.putfield 3, 3) := by decide +kernel
theorem dX12_back_5 : decode cX12_back 5 = .ok (.aload_n 0, 1) := by decide +kernel
theorem dX12_back_6 : decode cX12_back 6 = .ok (.getfield 57, 3) := by decide +kernel
theorem dX12_back_9 : decode cX12_back 9 = .ok (.ifCond .ne 5, 3) := by decide +kernel
theorem dX12_back_12 : decode cX12_back 12 = .ok (.iconst 0, 1) := by decide +kernel
theorem dX12_back_13 : decode cX12_back 13 = .ok (.ireturn, 1) := by decide +kernel
theorem dX12_back_14 : decode cX12_back 14 = .ok (.iconst 0, 1) := by decide +kernel
theorem dX12_back_15 : decode cX12_back 15 = .ok (.istore_n 1, 1) := by decide +kernel
theorem dX12_back_16 : decode cX12_back 16 = .ok (.iload_n 1, 1) := by decide +kernel
theorem dX12_back_17 : decode cX12_back 17 = .ok (.sipush 11357, 3) := by decide +kernel
theorem dX12_back_20 : decode cX12_back 20 = .ok (.bipush 7, 2) := by decide +kernel
theorem dX12_back_22 : decode cX12_back 22 = .ok (.aload_n 0, 1) := by decide +kernel
theorem dX12_back_23 : decode cX12_back 23 = .ok (.getfield 18, 3) := by decide +kernel
theorem dX12_back_26 : decode cX12_back 26 = .ok (.sipush 11356, 3) := by decide +kernel
theorem dX12_back_29 : decode cX12_back 29 = .ok (.iaload, 1) := by decide +kernel
theorem dX12_back_30 : decode cX12_back 30 = .ok (.imul, 1) := by decide +kernel
theorem dX12_back_31 : decode cX12_back 31 = .ok (.iadd, 1) := by decide +kernel
theorem dX12_back_32 : decode cX12_back 32 = .ok (.if_icmp .ge 21, 3) := by decide +kernel
theorem dX12_back_35 : decode cX12_back 35 = .ok (.aload_n 0, 1) := by decide +kernel
theorem dX12_back_36 : decode cX12_back 36 = .ok (.getfield 14, 3) := by decide +kernel
theorem dX12_back_39 : decode cX12_back 39 = .ok (.iload_n 1, 1) := by decide +kernel
theorem dX12_back_40 : decode cX12_back 40 = .ok (.aload_n 0, 1) := by decide +kernel
theorem dX12_back_41 : decode cX12_back 41 = .ok (.getfield 18, 3) := by decide +kernel
theorem dX12_back_44 : decode cX12_back 44 = .ok (.iload_n 1, 1) := by decide +kernel
theorem dX12_back_45 : decode cX12_back 45 = .ok (.iaload, 1) := by decide +kernel
theorem dX12_back_46 : decode cX12_back 46 = .ok (.iastore, 1) := by decide +kernel
theorem dX12_back_47 : decode cX12_back 47 = .ok (.iinc 1 1, 3) := by decide +kernel
theorem dX12_back_50 : decode cX12_back 50 = .ok (.goto (-34), 3) := by decide +kernel
theorem dX12_back_53 : decode cX12_back 53 = .ok (.iconst 1, 1) := by decide +kernel
theorem dX12_back_54 : decode cX12_back 54 = .ok (.ireturn, 1) := by decide +kernel
theorem dX12_day_0 : decode cX12_day 0 = .ok (.aload_n 0, 1) := by decide +kernel
theorem dX12_day_1 : decode cX12_day 1 = .ok (.iconst 0, 1) := by decide +kernel
theorem dX12_day_2 : decode cX12_day 2 = .ok (.putfield 3, 3) := by decide +kernel
theorem dX12_day_5 : decode cX12_day 5 = .ok (.aload_n 0, 1) := by decide +kernel
theorem dX12_day_6 : decode cX12_day 6 = .ok (.iload_n 1, 1) := by decide +kernel
theorem dX12_day_7 : decode cX12_day 7 = .ok (.iconst 0, 1) := by decide +kernel
theorem dX12_day_8 : decode cX12_day 8 = .ok (.bipush 6, 2) := by decide +kernel
theorem dX12_day_10 : decode cX12_day 10 = .ok (.invokestatic 61, 3) := by decide +kernel
theorem dX12_day_13 : decode cX12_day 13 = .ok (.ifCond .eq 13, 3) := by decide +kernel
theorem dX12_day_16 : decode cX12_day 16 = .ok (.iload_n 2, 1) := by decide +kernel
theorem dX12_day_17 : decode cX12_day 17 = .ok (.iconst 0, 1) := by decide +kernel
theorem dX12_day_18 : decode cX12_day 18 = .ok (.bipush 9, 2) := by decide +kernel
theorem dX12_day_20 : decode cX12_day 20 = .ok (.invokestatic 61, 3) := by decide +kernel
theorem dX12_day_23 : decode cX12_day 23 = .ok (.ifCond .ne 7, 3) := by decide +kernel
theorem dX12_day_26 : decode cX12_day 26 = .ok (.iconst 1, 1) := by decide +kernel
theorem dX12_day_27 : decode cX12_day 27 = .ok (.goto 4, 3) := by decide +kernel
theorem dX12_day_30 : decode cX12_day 30 = .ok (.iconst 0, 1) := by decide +kernel
theorem dX12_day_31 : decode cX12_day 31 = .ok (.iconst 1, 1) := by decide +kernel
theorem dX12_day_32 : decode cX12_day 32 = .ok (.invokevirtual 65, 3) := by decide +kernel
theorem dX12_day_35 : decode cX12_day 35 = .ok (.ifCond .eq 4, 3) := by decide +kernel
theorem dX12_day_38 : decode cX12_day 38 = .ok (.return_, 1) := by decide +kernel
theorem dX12_day_39 : decode cX12_day 39 = .ok (.aload_n 0, 1) := by decide +kernel
theorem dX12_day_40 : decode cX12_day 40 = .ok (.getfield 14, 3) := by decide +kernel
theorem dX12_day_43 : decode cX12_day 43 = .ok (.iconst 1, 1) := by decide +kernel
theorem dX12_day_44 : decode cX12_day 44 = .ok (.iload_n 1, 1) := by decide +kernel
theorem dX12_day_45 : decode cX12_day 45 = .ok (.iastore, 1) := by decide +kernel
theorem dX12_day_46 : decode cX12_day 46 = .ok (.aload_n 0, 1) := by decide +kernel
theorem dX12_day_47 : decode cX12_day 47 = .ok (.getfield 14, 3) := by decide +kernel
theorem dX12_day_50 : decode cX12_day 50 = .ok (.iconst 2, 1) := by decide +kernel
theorem dX12_day_51 : decode cX12_day 51 = .ok (.iload_n 2, 1) := by decide +kernel
theorem dX12_day_52 : decode cX12_day 52 = .ok (.iastore, 1) := by decide +kernel
theorem dX12_day_53 : decode cX12_day 53 = .ok (.return_, 1) := by decide +kernel
theorem dX12_noWord_0 : decode cX12_noWord 0 = .ok (.iload_n 0, 1) := by decide +kernel
theorem dX12_noWord_1 : decode cX12_noWord 1 = .ok (.iconst 0, 1) := by decide +kernel
theorem dX12_noWord_2 : decode cX12_noWord 2 = .ok (.bipush 63, 2) := by decide +kernel
theorem dX12_noWord_4 : decode cX12_noWord 4 = .ok (.invokestatic 61, 3) := by decide +kernel
theorem dX12_noWord_7 : decode cX12_noWord 7 = .ok (.ifCond .ne 7, 3) := by decide +kernel
theorem dX12_noWord_10 : decode cX12_noWord 10 = .ok (.iconst 1, 1) := by decide +kernel
theorem dX12_noWord_11 : decode cX12_noWord 11 = .ok (.goto 4, 3) := by decide +kernel
theorem dX12_noWord_14 : decode cX12_noWord 14 = .ok (.iconst 0, 1) := by decide +kernel
theorem dX12_noWord_15 : decode cX12_noWord 15 = .ok (.ireturn, 1) := by decide +kernel
theorem dX12_old_0 : decode cX12_old 0 = .ok (.aload_n 0, 1) := by decide +kernel
theorem dX12_old_1 : decode cX12_old 1 = .ok (.iconst 0, 1) := by decide +kernel
theorem dX12_old_2 : decode cX12_old 2 = .ok (.putfield 3, 3) := by decide +kernel
theorem dX12_old_5 : decode cX12_old 5 = .ok (.aload_n 0, 1) := by decide +kernel
theorem dX12_old_6 : decode cX12_old 6 = .ok (.iload_n 1, 1) := by decide +kernel
theorem dX12_old_7 : decode cX12_old 7 = .ok (.invokestatic 69, 3) := by decide +kernel
theorem dX12_old_10 : decode cX12_old 10 = .ok (.iconst 1, 1) := by decide +kernel
theorem dX12_old_11 : decode cX12_old 11 = .ok (.invokevirtual 65, 3) := by decide +kernel
theorem dX12_old_14 : decode cX12_old 14 = .ok (.ifCond .ne 27, 3) := by decide +kernel
theorem dX12_old_17 : decode cX12_old 17 = .ok (.aload_n 0, 1) := by decide +kernel
theorem dX12_old_18 : decode cX12_old 18 = .ok (.iload_n 2, 1) := by decide +kernel
theorem dX12_old_19 : decode cX12_old 19 = .ok (.ldc 73, 2) := by decide +kernel
theorem dX12_old_21 : decode cX12_old 21 = .ok (.ldc 74, 2) := by decide +kernel
theorem dX12_old_23 : decode cX12_old 23 = .ok (.invokestatic 61, 3) := by decide +kernel
theorem dX12_old_26 : decode cX12_old 26 = .ok (.ifCond .ne 7, 3) := by decide +kernel
theorem dX12_old_29 : decode cX12_old 29 = .ok (.iconst 1, 1) := by decide +kernel
theorem dX12_old_30 : decode cX12_old 30 = .ok (.goto 4, 3) := by decide +kernel
theorem dX12_old_33 : decode cX12_old 33 = .ok (.iconst 0, 1) := by decide +kernel
theorem dX12_old_34 : decode cX12_old 34 = .ok (.iconst 2, 1) := by decide +kernel
theorem dX12_old_35 : decode cX12_old 35 = .ok (.invokevirtual 65, 3) := by decide +kernel
theorem dX12_old_38 : decode cX12_old 38 = .ok (.ifCond .eq 4, 3) := by decide +kernel
theorem dX12_old_41 : decode cX12_old 41 = .ok (.return_, 1) := by decide +kernel
theorem dX12_old_42 : decode cX12_old 42 = .ok (.aload_n 0, 1) := by decide +kernel
theorem dX12_old_43 : decode cX12_old 43 = .ok (.getfield 14, 3) := by decide +kernel
theorem dX12_old_46 : decode cX12_old 46 = .ok (.bipush 73, 2) := by decide +kernel
theorem dX12_old_48 : decode cX12_old 48 = .ok (.iload_n 1, 1) := by decide +kernel
theorem dX12_old_49 : decode cX12_old 49 = .ok (.iadd, 1) := by decide +kernel
theorem dX12_old_50 : decode cX12_old 50 = .ok (.iload_n 2, 1) := by decide +kernel
theorem dX12_old_51 : decode cX12_old 51 = .ok (.iastore, 1) := by decide +kernel
theorem dX12_old_52 : decode cX12_old 52 = .ok (.return_, 1) := by decide +kernel
theorem dX12_writingAt_0 : decode cX12_writingAt 0 = .ok (.sipush 11357, 3) := by decide +kernel
theorem dX12_writingAt_3 : decode cX12_writingAt 3 = .ok (.bipush 7, 2) := by decide +kernel
theorem dX12_writingAt_5 : decode cX12_writingAt 5 = .ok (.iload_n 1, 1) := by decide +kernel
theorem dX12_writingAt_6 : decode cX12_writingAt 6 = .ok (.imul, 1) := by decide +kernel
theorem dX12_writingAt_7 : decode cX12_writingAt 7 = .ok (.iadd, 1) := by decide +kernel
theorem dX12_writingAt_8 : decode cX12_writingAt 8 = .ok (.iload_n 2, 1) := by decide +kernel
theorem dX12_writingAt_9 : decode cX12_writingAt 9 = .ok (.iadd, 1) := by decide +kernel
theorem dX12_writingAt_10 : decode cX12_writingAt 10 = .ok (.ireturn, 1) := by decide +kernel
theorem dX12_of_0 : decode cX12_of 0 = .ok (.aload_n 0, 1) := by decide +kernel
theorem dX12_of_1 : decode cX12_of 1 = .ok (.getfield 14, 3) := by decide +kernel
theorem dX12_of_4 : decode cX12_of 4 = .ok (.aload_n 0, 1) := by decide +kernel
theorem dX12_of_5 : decode cX12_of 5 = .ok (.iload_n 1, 1) := by decide +kernel
theorem dX12_of_6 : decode cX12_of 6 = .ok (.iload_n 2, 1) := by decide +kernel
theorem dX12_of_7 : decode cX12_of 7 = .ok (.invokevirtual 75, 3) := by decide +kernel
theorem dX12_of_10 : decode cX12_of 10 = .ok (.iaload, 1) := by decide +kernel
theorem dX12_of_11 : decode cX12_of 11 = .ok (.ireturn, 1) := by decide +kernel
theorem dX12_writings_0 : decode cX12_writings 0 = .ok (.aload_n 0, 1) := by decide +kernel
theorem dX12_writings_1 : decode cX12_writings 1 = .ok (.getfield 14, 3) := by decide +kernel
theorem dX12_writings_4 : decode cX12_writings 4 = .ok (.sipush 11356, 3) := by decide +kernel
theorem dX12_writings_7 : decode cX12_writings 7 = .ok (.iaload, 1) := by decide +kernel
theorem dX12_writings_8 : decode cX12_writings 8 = .ok (.ireturn, 1) := by decide +kernel
theorem dX12_writes_0 : decode cX12_writes 0 = .ok (.aload_n 0, 1) := by decide +kernel
theorem dX12_writes_1 : decode cX12_writes 1 = .ok (.invokevirtual 79, 3) := by decide +kernel
theorem dX12_writes_4 : decode cX12_writes 4 = .ok (.istore 6, 2) := by decide +kernel
theorem dX12_writes_6 : decode cX12_writes 6 = .ok (.aload_n 0, 1) := by decide +kernel
theorem dX12_writes_7 : decode cX12_writes 7 = .ok (.getfield 14, 3) := by decide +kernel
theorem dX12_writes_10 : decode cX12_writes 10 = .ok (.aload_n 0, 1) := by decide +kernel
theorem dX12_writes_11 : decode cX12_writes 11 = .ok (.iload 6, 2) := by decide +kernel
theorem dX12_writes_13 : decode cX12_writes 13 = .ok (.iconst 0, 1) := by decide +kernel
theorem dX12_writes_14 : decode cX12_writes 14 = .ok (.invokevirtual 75, 3) := by decide +kernel
theorem dX12_writes_17 : decode cX12_writes 17 = .ok (.aload_n 0, 1) := by decide +kernel
theorem dX12_writes_18 : decode cX12_writes 18 = .ok (.invokevirtual 83, 3) := by decide +kernel
theorem dX12_writes_21 : decode cX12_writes 21 = .ok (.iastore, 1) := by decide +kernel
theorem dX12_writes_22 : decode cX12_writes 22 = .ok (.aload_n 0, 1) := by decide +kernel
theorem dX12_writes_23 : decode cX12_writes 23 = .ok (.getfield 14, 3) := by decide +kernel
theorem dX12_writes_26 : decode cX12_writes 26 = .ok (.aload_n 0, 1) := by decide +kernel
theorem dX12_writes_27 : decode cX12_writes 27 = .ok (.iload 6, 2) := by decide +kernel
theorem dX12_writes_29 : decode cX12_writes 29 = .ok (.iconst 1, 1) := by decide +kernel
theorem dX12_writes_30 : decode cX12_writes 30 = .ok (.invokevirtual 75, 3) := by decide +kernel
theorem dX12_writes_33 : decode cX12_writes 33 = .ok (.iload_n 1, 1) := by decide +kernel
theorem dX12_writes_34 : decode cX12_writes 34 = .ok (.iastore, 1) := by decide +kernel
theorem dX12_writes_35 : decode cX12_writes 35 = .ok (.aload_n 0, 1) := by decide +kernel
theorem dX12_writes_36 : decode cX12_writes 36 = .ok (.getfield 14, 3) := by decide +kernel
theorem dX12_writes_39 : decode cX12_writes 39 = .ok (.aload_n 0, 1) := by decide +kernel
theorem dX12_writes_40 : decode cX12_writes 40 = .ok (.iload 6, 2) := by decide +kernel
theorem dX12_writes_42 : decode cX12_writes 42 = .ok (.iconst 2, 1) := by decide +kernel
theorem dX12_writes_43 : decode cX12_writes 43 = .ok (.invokevirtual 75, 3) := by decide +kernel
theorem dX12_writes_46 : decode cX12_writes 46 = .ok (.iload_n 2, 1) := by decide +kernel
theorem dX12_writes_47 : decode cX12_writes 47 = .ok (.iastore, 1) := by decide +kernel
theorem dX12_writes_48 : decode cX12_writes 48 = .ok (.aload_n 0, 1) := by decide +kernel
theorem dX12_writes_49 : decode cX12_writes 49 = .ok (.getfield 14, 3) := by decide +kernel
theorem dX12_writes_52 : decode cX12_writes 52 = .ok (.aload_n 0, 1) := by decide +kernel
theorem dX12_writes_53 : decode cX12_writes 53 = .ok (.iload 6, 2) := by decide +kernel
theorem dX12_writes_55 : decode cX12_writes 55 = .ok (.iconst 3, 1) := by decide +kernel
theorem dX12_writes_56 : decode cX12_writes 56 = .ok (.invokevirtual 75, 3) := by decide +kernel
theorem dX12_writes_59 : decode cX12_writes 59 = .ok (.iload_n 2, 1) := by decide +kernel
theorem dX12_writes_60 : decode cX12_writes 60 = .ok (.iastore, 1) := by decide +kernel
theorem dX12_writes_61 : decode cX12_writes 61 = .ok (.aload_n 0, 1) := by decide +kernel
theorem dX12_writes_62 : decode cX12_writes 62 = .ok (.getfield 14, 3) := by decide +kernel
theorem dX12_writes_65 : decode cX12_writes 65 = .ok (.aload_n 0, 1) := by decide +kernel
theorem dX12_writes_66 : decode cX12_writes 66 = .ok (.iload 6, 2) := by decide +kernel
theorem dX12_writes_68 : decode cX12_writes 68 = .ok (.iconst 4, 1) := by decide +kernel
theorem dX12_writes_69 : decode cX12_writes 69 = .ok (.invokevirtual 75, 3) := by decide +kernel
theorem dX12_writes_72 : decode cX12_writes 72 = .ok (.iload_n 3, 1) := by decide +kernel
theorem dX12_writes_73 : decode cX12_writes 73 = .ok (.iastore, 1) := by decide +kernel
theorem dX12_writes_74 : decode cX12_writes 74 = .ok (.aload_n 0, 1) := by decide +kernel
theorem dX12_writes_75 : decode cX12_writes 75 = .ok (.getfield 14, 3) := by decide +kernel
theorem dX12_writes_78 : decode cX12_writes 78 = .ok (.aload_n 0, 1) := by decide +kernel
theorem dX12_writes_79 : decode cX12_writes 79 = .ok (.iload 6, 2) := by decide +kernel
theorem dX12_writes_81 : decode cX12_writes 81 = .ok (.iconst 5, 1) := by decide +kernel
theorem dX12_writes_82 : decode cX12_writes 82 = .ok (.invokevirtual 75, 3) := by decide +kernel
theorem dX12_writes_85 : decode cX12_writes 85 = .ok (.iload 4, 2) := by decide +kernel
theorem dX12_writes_87 : decode cX12_writes 87 = .ok (.iastore, 1) := by decide +kernel
theorem dX12_writes_88 : decode cX12_writes 88 = .ok (.aload_n 0, 1) := by decide +kernel
theorem dX12_writes_89 : decode cX12_writes 89 = .ok (.getfield 14, 3) := by decide +kernel
theorem dX12_writes_92 : decode cX12_writes 92 = .ok (.aload_n 0, 1) := by decide +kernel
theorem dX12_writes_93 : decode cX12_writes 93 = .ok (.iload 6, 2) := by decide +kernel
theorem dX12_writes_95 : decode cX12_writes 95 = .ok (.bipush 6, 2) := by decide +kernel
theorem dX12_writes_97 : decode cX12_writes 97 = .ok (.invokevirtual 75, 3) := by decide +kernel
theorem dX12_writes_100 : decode cX12_writes 100 = .ok (.iload 5, 2) := by decide +kernel
theorem dX12_writes_102 : decode cX12_writes 102 = .ok (.iastore, 1) := by decide +kernel
theorem dX12_writes_103 : decode cX12_writes 103 = .ok (.aload_n 0, 1) := by decide +kernel
theorem dX12_writes_104 : decode cX12_writes 104 = .ok (.getfield 14, 3) := by decide +kernel
theorem dX12_writes_107 : decode cX12_writes 107 = .ok (.sipush 11356, 3) := by decide +kernel
theorem dX12_writes_110 : decode cX12_writes 110 = .ok (.dup2, 1) := by decide +kernel
theorem dX12_writes_111 : decode cX12_writes 111 = .ok (.iaload, 1) := by decide +kernel
theorem dX12_writes_112 : decode cX12_writes 112 = .ok (.iconst 1, 1) := by decide +kernel
theorem dX12_writes_113 : decode cX12_writes 113 = .ok (.iadd, 1) := by decide +kernel
theorem dX12_writes_114 : decode cX12_writes 114 = .ok (.iastore, 1) := by decide +kernel
theorem dX12_writes_115 : decode cX12_writes 115 = .ok (.aload_n 0, 1) := by decide +kernel
theorem dX12_writes_116 : decode cX12_writes 116 = .ok (.getfield 14, 3) := by decide +kernel
theorem dX12_writes_119 : decode cX12_writes 119 = .ok (.bipush 9, 2) := by decide +kernel
theorem dX12_writes_121 : decode cX12_writes 121 = .ok (.iload_n 1, 1) := by decide +kernel
theorem dX12_writes_122 : decode cX12_writes 122 = .ok (.iadd, 1) := by decide +kernel
theorem dX12_writes_123 : decode cX12_writes 123 = .ok (.iload_n 2, 1) := by decide +kernel
theorem dX12_writes_124 : decode cX12_writes 124 = .ok (.iastore, 1) := by decide +kernel
theorem dX12_writes_125 : decode cX12_writes 125 = .ok (.return_, 1) := by decide +kernel
theorem dX12_tells_0 : decode cX12_tells 0 = .ok (.aload_n 0, 1) := by decide +kernel
theorem dX12_tells_1 : decode cX12_tells 1 = .ok (.getfield 14, 3) := by decide +kernel
theorem dX12_tells_4 : decode cX12_tells 4 = .ok (.iconst 5, 1) := by decide +kernel
theorem dX12_tells_5 : decode cX12_tells 5 = .ok (.iaload, 1) := by decide +kernel
theorem dX12_tells_6 : decode cX12_tells 6 = .ok (.sipush 400, 3) := by decide +kernel
theorem dX12_tells_9 : decode cX12_tells 9 = .ok (.if_icmp .ne 5, 3) := by decide +kernel
theorem dX12_tells_12 : decode cX12_tells 12 = .ok (.iconst (-1), 1) := by decide +kernel
theorem dX12_tells_13 : decode cX12_tells 13 = .ok (.ireturn, 1) := by decide +kernel
theorem dX12_tells_14 : decode cX12_tells 14 = .ok (.aload_n 0, 1) := by decide +kernel
theorem dX12_tells_15 : decode cX12_tells 15 = .ok (.iload_n 1, 1) := by decide +kernel
theorem dX12_tells_16 : decode cX12_tells 16 = .ok (.iload_n 2, 1) := by decide +kernel
theorem dX12_tells_17 : decode cX12_tells 17 = .ok (.iconst (-1), 1) := by decide +kernel
theorem dX12_tells_18 : decode cX12_tells 18 = .ok (.aload_n 0, 1) := by decide +kernel
theorem dX12_tells_19 : decode cX12_tells 19 = .ok (.invokevirtual 79, 3) := by decide +kernel
theorem dX12_tells_22 : decode cX12_tells 22 = .ok (.iconst 0, 1) := by decide +kernel
theorem dX12_tells_23 : decode cX12_tells 23 = .ok (.invokevirtual 86, 3) := by decide +kernel
theorem dX12_tells_26 : decode cX12_tells 26 = .ok (.aload_n 0, 1) := by decide +kernel
theorem dX12_tells_27 : decode cX12_tells 27 = .ok (.getfield 14, 3) := by decide +kernel
theorem dX12_tells_30 : decode cX12_tells 30 = .ok (.iconst 5, 1) := by decide +kernel
theorem dX12_tells_31 : decode cX12_tells 31 = .ok (.dup2, 1) := by decide +kernel
theorem dX12_tells_32 : decode cX12_tells 32 = .ok (.iaload, 1) := by decide +kernel
theorem dX12_tells_33 : decode cX12_tells 33 = .ok (.iconst 1, 1) := by decide +kernel
theorem dX12_tells_34 : decode cX12_tells 34 = .ok (.iadd, 1) := by decide +kernel
theorem dX12_tells_35 : decode cX12_tells 35 = .ok (.iastore, 1) := by decide +kernel
theorem dX12_tells_36 : decode cX12_tells 36 = .ok (.aload_n 0, 1) := by decide +kernel
theorem dX12_tells_37 : decode cX12_tells 37 = .ok (.getfield 14, 3) := by decide +kernel
theorem dX12_tells_40 : decode cX12_tells 40 = .ok (.iconst 5, 1) := by decide +kernel
theorem dX12_tells_41 : decode cX12_tells 41 = .ok (.iaload, 1) := by decide +kernel
theorem dX12_tells_42 : decode cX12_tells 42 = .ok (.ireturn, 1) := by decide +kernel
theorem dX12_noShop_0 : decode cX12_noShop 0 = .ok (.iload_n 0, 1) := by decide +kernel
theorem dX12_noShop_1 : decode cX12_noShop 1 = .ok (.iconst 0, 1) := by decide +kernel
theorem dX12_noShop_2 : decode cX12_noShop 2 = .ok (.iconst 3, 1) := by decide +kernel
theorem dX12_noShop_3 : decode cX12_noShop 3 = .ok (.invokestatic 61, 3) := by decide +kernel
theorem dX12_noShop_6 : decode cX12_noShop 6 = .ok (.ifCond .ne 7, 3) := by decide +kernel
theorem dX12_noShop_9 : decode cX12_noShop 9 = .ok (.iconst 1, 1) := by decide +kernel
theorem dX12_noShop_10 : decode cX12_noShop 10 = .ok (.goto 4, 3) := by decide +kernel
theorem dX12_noShop_13 : decode cX12_noShop 13 = .ok (.iconst 0, 1) := by decide +kernel
theorem dX12_noShop_14 : decode cX12_noShop 14 = .ok (.ireturn, 1) := by decide +kernel
theorem dX12_noGood_0 : decode cX12_noGood 0 = .ok (.iload_n 0, 1) := by decide +kernel
theorem dX12_noGood_1 : decode cX12_noGood 1 = .ok (.iconst 0, 1) := by decide +kernel
theorem dX12_noGood_2 : decode cX12_noGood 2 = .ok (.iconst 3, 1) := by decide +kernel
theorem dX12_noGood_3 : decode cX12_noGood 3 = .ok (.invokestatic 61, 3) := by decide +kernel
theorem dX12_noGood_6 : decode cX12_noGood 6 = .ok (.ifCond .ne 7, 3) := by decide +kernel
theorem dX12_noGood_9 : decode cX12_noGood 9 = .ok (.iconst 1, 1) := by decide +kernel
theorem dX12_noGood_10 : decode cX12_noGood 10 = .ok (.goto 4, 3) := by decide +kernel
theorem dX12_noGood_13 : decode cX12_noGood 13 = .ok (.iconst 0, 1) := by decide +kernel
theorem dX12_noGood_14 : decode cX12_noGood 14 = .ok (.ireturn, 1) := by decide +kernel
theorem dX12_ring_0 : decode cX12_ring 0 = .ok (.aload_n 0, 1) := by decide +kernel
theorem dX12_ring_1 : decode cX12_ring 1 = .ok (.iconst 0, 1) := by decide +kernel
theorem dX12_ring_2 : decode cX12_ring 2 = .ok (.putfield 3, 3) := by decide +kernel
theorem dX12_ring_5 : decode cX12_ring 5 = .ok (.aload_n 0, 1) := by decide +kernel
theorem dX12_ring_6 : decode cX12_ring 6 = .ok (.iload_n 1, 1) := by decide +kernel
theorem dX12_ring_7 : decode cX12_ring 7 = .ok (.invokestatic 90, 3) := by decide +kernel
theorem dX12_ring_10 : decode cX12_ring 10 = .ok (.ifCond .ne 10, 3) := by decide +kernel
theorem dX12_ring_13 : decode cX12_ring 13 = .ok (.iload_n 2, 1) := by decide +kernel
theorem dX12_ring_14 : decode cX12_ring 14 = .ok (.invokestatic 93, 3) := by decide +kernel
theorem dX12_ring_17 : decode cX12_ring 17 = .ok (.ifCond .eq 7, 3) := by decide +kernel
theorem dX12_ring_20 : decode cX12_ring 20 = .ok (.iconst 1, 1) := by decide +kernel
theorem dX12_ring_21 : decode cX12_ring 21 = .ok (.goto 4, 3) := by decide +kernel
theorem dX12_ring_24 : decode cX12_ring 24 = .ok (.iconst 0, 1) := by decide +kernel
theorem dX12_ring_25 : decode cX12_ring 25 = .ok (.iconst 1, 1) := by decide +kernel
theorem dX12_ring_26 : decode cX12_ring 26 = .ok (.invokevirtual 65, 3) := by decide +kernel
theorem dX12_ring_29 : decode cX12_ring 29 = .ok (.ifCond .ne 26, 3) := by decide +kernel
theorem dX12_ring_32 : decode cX12_ring 32 = .ok (.aload_n 0, 1) := by decide +kernel
theorem dX12_ring_33 : decode cX12_ring 33 = .ok (.iload_n 3, 1) := by decide +kernel
theorem dX12_ring_34 : decode cX12_ring 34 = .ok (.iconst 0, 1) := by decide +kernel
theorem dX12_ring_35 : decode cX12_ring 35 = .ok (.ldc 96, 2) := by decide +kernel
theorem dX12_ring_37 : decode cX12_ring 37 = .ok (.invokestatic 61, 3) := by decide +kernel
theorem dX12_ring_40 : decode cX12_ring 40 = .ok (.ifCond .ne 7, 3) := by decide +kernel
theorem dX12_ring_43 : decode cX12_ring 43 = .ok (.iconst 1, 1) := by decide +kernel
theorem dX12_ring_44 : decode cX12_ring 44 = .ok (.goto 4, 3) := by decide +kernel
theorem dX12_ring_47 : decode cX12_ring 47 = .ok (.iconst 0, 1) := by decide +kernel
theorem dX12_ring_48 : decode cX12_ring 48 = .ok (.iconst 2, 1) := by decide +kernel
theorem dX12_ring_49 : decode cX12_ring 49 = .ok (.invokevirtual 65, 3) := by decide +kernel
theorem dX12_ring_52 : decode cX12_ring 52 = .ok (.ifCond .eq 7, 3) := by decide +kernel
theorem dX12_ring_55 : decode cX12_ring 55 = .ok (.iconst 0, 1) := by decide +kernel
theorem dX12_ring_56 : decode cX12_ring 56 = .ok (.goto 13, 3) := by decide +kernel
theorem dX12_ring_59 : decode cX12_ring 59 = .ok (.aload_n 0, 1) := by decide +kernel
theorem dX12_ring_60 : decode cX12_ring 60 = .ok (.iconst 4, 1) := by decide +kernel
theorem dX12_ring_61 : decode cX12_ring 61 = .ok (.iload_n 1, 1) := by decide +kernel
theorem dX12_ring_62 : decode cX12_ring 62 = .ok (.imul, 1) := by decide +kernel
theorem dX12_ring_63 : decode cX12_ring 63 = .ok (.iload_n 2, 1) := by decide +kernel
theorem dX12_ring_64 : decode cX12_ring 64 = .ok (.iadd, 1) := by decide +kernel
theorem dX12_ring_65 : decode cX12_ring 65 = .ok (.iload_n 3, 1) := by decide +kernel
theorem dX12_ring_66 : decode cX12_ring 66 = .ok (.invokevirtual 97, 3) := by decide +kernel
theorem dX12_ring_69 : decode cX12_ring 69 = .ok (.ireturn, 1) := by decide +kernel
theorem dX12_tell_0 : decode cX12_tell 0 = .ok (.aload_n 0, 1) := by decide +kernel
theorem dX12_tell_1 : decode cX12_tell 1 = .ok (.iconst 0, 1) := by decide +kernel
theorem dX12_tell_2 : decode cX12_tell 2 = .ok (.putfield 3, 3) := by decide +kernel
theorem dX12_tell_5 : decode cX12_tell 5 = .ok (.aload_n 0, 1) := by decide +kernel
theorem dX12_tell_6 : decode cX12_tell 6 = .ok (.iload_n 1, 1) := by decide +kernel
theorem dX12_tell_7 : decode cX12_tell 7 = .ok (.invokestatic 69, 3) := by decide +kernel
theorem dX12_tell_10 : decode cX12_tell 10 = .ok (.iconst 1, 1) := by decide +kernel
theorem dX12_tell_11 : decode cX12_tell 11 = .ok (.invokevirtual 65, 3) := by decide +kernel
theorem dX12_tell_14 : decode cX12_tell 14 = .ok (.ifCond .ne 27, 3) := by decide +kernel
theorem dX12_tell_17 : decode cX12_tell 17 = .ok (.aload_n 0, 1) := by decide +kernel
theorem dX12_tell_18 : decode cX12_tell 18 = .ok (.iload_n 2, 1) := by decide +kernel
theorem dX12_tell_19 : decode cX12_tell 19 = .ok (.ldc 73, 2) := by decide +kernel
theorem dX12_tell_21 : decode cX12_tell 21 = .ok (.ldc 74, 2) := by decide +kernel
theorem dX12_tell_23 : decode cX12_tell 23 = .ok (.invokestatic 61, 3) := by decide +kernel
theorem dX12_tell_26 : decode cX12_tell 26 = .ok (.ifCond .ne 7, 3) := by decide +kernel
theorem dX12_tell_29 : decode cX12_tell 29 = .ok (.iconst 1, 1) := by decide +kernel
theorem dX12_tell_30 : decode cX12_tell 30 = .ok (.goto 4, 3) := by decide +kernel
theorem dX12_tell_33 : decode cX12_tell 33 = .ok (.iconst 0, 1) := by decide +kernel
theorem dX12_tell_34 : decode cX12_tell 34 = .ok (.iconst 2, 1) := by decide +kernel
theorem dX12_tell_35 : decode cX12_tell 35 = .ok (.invokevirtual 65, 3) := by decide +kernel
theorem dX12_tell_38 : decode cX12_tell 38 = .ok (.ifCond .eq 7, 3) := by decide +kernel
theorem dX12_tell_41 : decode cX12_tell 41 = .ok (.iconst 0, 1) := by decide +kernel
theorem dX12_tell_42 : decode cX12_tell 42 = .ok (.goto 9, 3) := by decide +kernel
theorem dX12_tell_45 : decode cX12_tell 45 = .ok (.aload_n 0, 1) := by decide +kernel
theorem dX12_tell_46 : decode cX12_tell 46 = .ok (.iload_n 1, 1) := by decide +kernel
theorem dX12_tell_47 : decode cX12_tell 47 = .ok (.iload_n 2, 1) := by decide +kernel
theorem dX12_tell_48 : decode cX12_tell 48 = .ok (.invokevirtual 97, 3) := by decide +kernel
theorem dX12_tell_51 : decode cX12_tell 51 = .ok (.ireturn, 1) := by decide +kernel
theorem dX12_word_0 : decode cX12_word 0 = .ok (.aload_n 0, 1) := by decide +kernel
theorem dX12_word_1 : decode cX12_word 1 = .ok (.iconst 0, 1) := by decide +kernel
theorem dX12_word_2 : decode cX12_word 2 = .ok (.putfield 3, 3) := by decide +kernel
theorem dX12_word_5 : decode cX12_word 5 = .ok (.aload_n 0, 1) := by decide +kernel
theorem dX12_word_6 : decode cX12_word 6 = .ok (.iload_n 1, 1) := by decide +kernel
theorem dX12_word_7 : decode cX12_word 7 = .ok (.invokestatic 69, 3) := by decide +kernel
theorem dX12_word_10 : decode cX12_word 10 = .ok (.iconst 1, 1) := by decide +kernel
theorem dX12_word_11 : decode cX12_word 11 = .ok (.invokevirtual 65, 3) := by decide +kernel
theorem dX12_word_14 : decode cX12_word 14 = .ok (.ifCond .eq 7, 3) := by decide +kernel
theorem dX12_word_17 : decode cX12_word 17 = .ok (.iconst 0, 1) := by decide +kernel
theorem dX12_word_18 : decode cX12_word 18 = .ok (.goto 12, 3) := by decide +kernel
theorem dX12_word_21 : decode cX12_word 21 = .ok (.aload_n 0, 1) := by decide +kernel
theorem dX12_word_22 : decode cX12_word 22 = .ok (.getfield 14, 3) := by decide +kernel
theorem dX12_word_25 : decode cX12_word 25 = .ok (.bipush 9, 2) := by decide +kernel
theorem dX12_word_27 : decode cX12_word 27 = .ok (.iload_n 1, 1) := by decide +kernel
theorem dX12_word_28 : decode cX12_word 28 = .ok (.iadd, 1) := by decide +kernel
theorem dX12_word_29 : decode cX12_word 29 = .ok (.iaload, 1) := by decide +kernel
theorem dX12_word_30 : decode cX12_word 30 = .ok (.ireturn, 1) := by decide +kernel
theorem dX12_latest_0 : decode cX12_latest 0 = .ok (.aload_n 0, 1) := by decide +kernel
theorem dX12_latest_1 : decode cX12_latest 1 = .ok (.invokevirtual 79, 3) := by decide +kernel
theorem dX12_latest_4 : decode cX12_latest 4 = .ok (.iconst 1, 1) := by decide +kernel
theorem dX12_latest_5 : decode cX12_latest 5 = .ok (.isub, 1) := by decide +kernel
theorem dX12_latest_6 : decode cX12_latest 6 = .ok (.istore_n 3, 1) := by decide +kernel
theorem dX12_latest_7 : decode cX12_latest 7 = .ok (.iload_n 3, 1) := by decide +kernel
theorem dX12_latest_8 : decode cX12_latest 8 = .ok (.ifCond .lt 29, 3) := by decide +kernel
theorem dX12_latest_11 : decode cX12_latest 11 = .ok (.aload_n 0, 1) := by decide +kernel
theorem dX12_latest_12 : decode cX12_latest 12 = .ok (.iload_n 3, 1) := by decide +kernel
theorem dX12_latest_13 : decode cX12_latest 13 = .ok (.iconst 1, 1) := by decide +kernel
theorem dX12_latest_14 : decode cX12_latest 14 = .ok (.invokevirtual 100, 3) := by decide +kernel
theorem dX12_latest_17 : decode cX12_latest 17 = .ok (.iload_n 1, 1) := by decide +kernel
theorem dX12_latest_18 : decode cX12_latest 18 = .ok (.if_icmp .ne 13, 3) := by decide +kernel
theorem dX12_latest_21 : decode cX12_latest 21 = .ok (.aload_n 0, 1) := by decide +kernel
theorem dX12_latest_22 : decode cX12_latest 22 = .ok (.iload_n 3, 1) := by decide +kernel
theorem dX12_latest_23 : decode cX12_latest 23 = .ok (.iconst 0, 1) := by decide +kernel
theorem dX12_latest_24 : decode cX12_latest 24 = .ok (.invokevirtual 100, 3) := by decide +kernel
theorem dX12_latest_27 : decode cX12_latest 27 = .ok (.iload_n 2, 1) := by decide +kernel
theorem dX12_latest_28 : decode cX12_latest 28 = .ok (.if_icmp .le 9, 3) := by decide +kernel
theorem dX12_latest_31 : decode cX12_latest 31 = .ok (.iinc 3 (-1), 3) := by decide +kernel
theorem dX12_latest_34 : decode cX12_latest 34 = .ok (.goto (-27), 3) := by decide +kernel
theorem dX12_latest_37 : decode cX12_latest 37 = .ok (.iload_n 3, 1) := by decide +kernel
theorem dX12_latest_38 : decode cX12_latest 38 = .ok (.ireturn, 1) := by decide +kernel
theorem dX12_as_0 : decode cX12_as 0 = .ok (.aload_n 0, 1) := by decide +kernel
theorem dX12_as_1 : decode cX12_as 1 = .ok (.iconst 0, 1) := by decide +kernel
theorem dX12_as_2 : decode cX12_as 2 = .ok (.putfield 3, 3) := by decide +kernel
theorem dX12_as_5 : decode cX12_as 5 = .ok (.aload_n 0, 1) := by decide +kernel
theorem dX12_as_6 : decode cX12_as 6 = .ok (.iload_n 1, 1) := by decide +kernel
theorem dX12_as_7 : decode cX12_as 7 = .ok (.invokestatic 69, 3) := by decide +kernel
theorem dX12_as_10 : decode cX12_as 10 = .ok (.iconst 1, 1) := by decide +kernel
theorem dX12_as_11 : decode cX12_as 11 = .ok (.invokevirtual 65, 3) := by decide +kernel
theorem dX12_as_14 : decode cX12_as 14 = .ok (.ifCond .eq 5, 3) := by decide +kernel
theorem dX12_as_17 : decode cX12_as 17 = .ok (.iconst 0, 1) := by decide +kernel
theorem dX12_as_18 : decode cX12_as 18 = .ok (.ireturn, 1) := by decide +kernel
theorem dX12_as_19 : decode cX12_as 19 = .ok (.aload_n 0, 1) := by decide +kernel
theorem dX12_as_20 : decode cX12_as 20 = .ok (.iload_n 1, 1) := by decide +kernel
theorem dX12_as_21 : decode cX12_as 21 = .ok (.iload_n 2, 1) := by decide +kernel
theorem dX12_as_22 : decode cX12_as 22 = .ok (.invokevirtual 103, 3) := by decide +kernel
theorem dX12_as_25 : decode cX12_as 25 = .ok (.istore_n 3, 1) := by decide +kernel
theorem dX12_as_26 : decode cX12_as 26 = .ok (.iload_n 3, 1) := by decide +kernel
theorem dX12_as_27 : decode cX12_as 27 = .ok (.ifCond .ge 7, 3) := by decide +kernel
theorem dX12_as_30 : decode cX12_as 30 = .ok (.iconst 0, 1) := by decide +kernel
theorem dX12_as_31 : decode cX12_as 31 = .ok (.goto 9, 3) := by decide +kernel
theorem dX12_as_34 : decode cX12_as 34 = .ok (.aload_n 0, 1) := by decide +kernel
theorem dX12_as_35 : decode cX12_as 35 = .ok (.iload_n 3, 1) := by decide +kernel
theorem dX12_as_36 : decode cX12_as 36 = .ok (.iconst 2, 1) := by decide +kernel
theorem dX12_as_37 : decode cX12_as 37 = .ok (.invokevirtual 100, 3) := by decide +kernel
theorem dX12_as_40 : decode cX12_as 40 = .ok (.ireturn, 1) := by decide +kernel
theorem dX12_led_0 : decode cX12_led 0 = .ok (.aload_n 0, 1) := by decide +kernel
theorem dX12_led_1 : decode cX12_led 1 = .ok (.iconst 0, 1) := by decide +kernel
theorem dX12_led_2 : decode cX12_led 2 = .ok (.putfield 3, 3) := by decide +kernel
theorem dX12_led_5 : decode cX12_led 5 = .ok (.aload_n 0, 1) := by decide +kernel
theorem dX12_led_6 : decode cX12_led 6 = .ok (.iload_n 1, 1) := by decide +kernel
theorem dX12_led_7 : decode cX12_led 7 = .ok (.invokestatic 69, 3) := by decide +kernel
theorem dX12_led_10 : decode cX12_led 10 = .ok (.iconst 1, 1) := by decide +kernel
theorem dX12_led_11 : decode cX12_led 11 = .ok (.invokevirtual 65, 3) := by decide +kernel
theorem dX12_led_14 : decode cX12_led 14 = .ok (.ifCond .eq 5, 3) := by decide +kernel
theorem dX12_led_17 : decode cX12_led 17 = .ok (.iconst 0, 1) := by decide +kernel
theorem dX12_led_18 : decode cX12_led 18 = .ok (.ireturn, 1) := by decide +kernel
theorem dX12_led_19 : decode cX12_led 19 = .ok (.aload_n 0, 1) := by decide +kernel
theorem dX12_led_20 : decode cX12_led 20 = .ok (.iload_n 1, 1) := by decide +kernel
theorem dX12_led_21 : decode cX12_led 21 = .ok (.iload_n 2, 1) := by decide +kernel
theorem dX12_led_22 : decode cX12_led 22 = .ok (.invokevirtual 103, 3) := by decide +kernel
theorem dX12_led_25 : decode cX12_led 25 = .ok (.istore_n 3, 1) := by decide +kernel
theorem dX12_led_26 : decode cX12_led 26 = .ok (.iload_n 3, 1) := by decide +kernel
theorem dX12_led_27 : decode cX12_led 27 = .ok (.ifCond .ge 8, 3) := by decide +kernel
theorem dX12_led_30 : decode cX12_led 30 = .ok (.bipush (-2), 2) := by decide +kernel
theorem dX12_led_32 : decode cX12_led 32 = .ok (.goto 9, 3) := by decide +kernel
theorem dX12_led_35 : decode cX12_led 35 = .ok (.aload_n 0, 1) := by decide +kernel
theorem dX12_led_36 : decode cX12_led 36 = .ok (.iload_n 3, 1) := by decide +kernel
theorem dX12_led_37 : decode cX12_led 37 = .ok (.iconst 4, 1) := by decide +kernel
theorem dX12_led_38 : decode cX12_led 38 = .ok (.invokevirtual 100, 3) := by decide +kernel
theorem dX12_led_41 : decode cX12_led 41 = .ok (.ireturn, 1) := by decide +kernel
theorem dX12_feed_0 : decode cX12_feed 0 = .ok (.aload_n 0, 1) := by decide +kernel
theorem dX12_feed_1 : decode cX12_feed 1 = .ok (.iconst 0, 1) := by decide +kernel
theorem dX12_feed_2 : decode cX12_feed 2 = .ok (.putfield 3, 3) := by decide +kernel
theorem dX12_feed_5 : decode cX12_feed 5 = .ok (.aload_n 0, 1) := by decide +kernel
theorem dX12_feed_6 : decode cX12_feed 6 = .ok (.getfield 106, 3) := by decide +kernel
theorem dX12_feed_9 : decode cX12_feed 9 = .ok (.bipush 20, 2) := by decide +kernel
theorem dX12_feed_11 : decode cX12_feed 11 = .ok (.iadd, 1) := by decide +kernel
theorem dX12_feed_12 : decode cX12_feed 12 = .ok (.sipush 400, 3) := by decide +kernel
theorem dX12_feed_15 : decode cX12_feed 15 = .ok (.if_icmp .le 5, 3) := by decide +kernel
theorem dX12_feed_18 : decode cX12_feed 18 = .ok (.iconst (-1), 1) := by decide +kernel
theorem dX12_feed_19 : decode cX12_feed 19 = .ok (.ireturn, 1) := by decide +kernel
theorem dX12_feed_20 : decode cX12_feed 20 = .ok (.aload_n 0, 1) := by decide +kernel
theorem dX12_feed_21 : decode cX12_feed 21 = .ok (.getfield 28, 3) := by decide +kernel
theorem dX12_feed_24 : decode cX12_feed 24 = .ok (.iconst 0, 1) := by decide +kernel
theorem dX12_feed_25 : decode cX12_feed 25 = .ok (.iload_n 1, 1) := by decide +kernel
theorem dX12_feed_26 : decode cX12_feed 26 = .ok (.iastore, 1) := by decide +kernel
theorem dX12_feed_27 : decode cX12_feed 27 = .ok (.aload_n 0, 1) := by decide +kernel
theorem dX12_feed_28 : decode cX12_feed 28 = .ok (.getfield 28, 3) := by decide +kernel
theorem dX12_feed_31 : decode cX12_feed 31 = .ok (.iconst 1, 1) := by decide +kernel
theorem dX12_feed_32 : decode cX12_feed 32 = .ok (.iload_n 2, 1) := by decide +kernel
theorem dX12_feed_33 : decode cX12_feed 33 = .ok (.iastore, 1) := by decide +kernel
theorem dX12_feed_34 : decode cX12_feed 34 = .ok (.aload_n 0, 1) := by decide +kernel
theorem dX12_feed_35 : decode cX12_feed 35 = .ok (.getfield 28, 3) := by decide +kernel
theorem dX12_feed_38 : decode cX12_feed 38 = .ok (.iconst 2, 1) := by decide +kernel
theorem dX12_feed_39 : decode cX12_feed 39 = .ok (.iload_n 3, 1) := by decide +kernel
theorem dX12_feed_40 : decode cX12_feed 40 = .ok (.iastore, 1) := by decide +kernel
theorem dX12_feed_41 : decode cX12_feed 41 = .ok (.aload_n 0, 1) := by decide +kernel
theorem dX12_feed_42 : decode cX12_feed 42 = .ok (.getfield 28, 3) := by decide +kernel
theorem dX12_feed_45 : decode cX12_feed 45 = .ok (.iconst 3, 1) := by decide +kernel
theorem dX12_feed_46 : decode cX12_feed 46 = .ok (.iload 4, 2) := by decide +kernel
theorem dX12_feed_48 : decode cX12_feed 48 = .ok (.iastore, 1) := by decide +kernel
theorem dX12_feed_49 : decode cX12_feed 49 = .ok (.aload_n 0, 1) := by decide +kernel
theorem dX12_feed_50 : decode cX12_feed 50 = .ok (.getfield 28, 3) := by decide +kernel
theorem dX12_feed_53 : decode cX12_feed 53 = .ok (.iconst 4, 1) := by decide +kernel
theorem dX12_feed_54 : decode cX12_feed 54 = .ok (.iload 5, 2) := by decide +kernel
theorem dX12_feed_56 : decode cX12_feed 56 = .ok (.iastore, 1) := by decide +kernel
theorem dX12_feed_57 : decode cX12_feed 57 = .ok (.iconst 0, 1) := by decide +kernel
theorem dX12_feed_58 : decode cX12_feed 58 = .ok (.istore 6, 2) := by decide +kernel
theorem dX12_feed_60 : decode cX12_feed 60 = .ok (.iload 6, 2) := by decide +kernel
theorem dX12_feed_62 : decode cX12_feed 62 = .ok (.bipush 20, 2) := by decide +kernel
theorem dX12_feed_64 : decode cX12_feed 64 = .ok (.if_icmp .ge 42, 3) := by decide +kernel
theorem dX12_feed_67 : decode cX12_feed 67 = .ok (.aload_n 0, 1) := by decide +kernel
theorem dX12_feed_68 : decode cX12_feed 68 = .ok (.getfield 21, 3) := by decide +kernel
theorem dX12_feed_71 : decode cX12_feed 71 = .ok (.aload_n 0, 1) := by decide +kernel
theorem dX12_feed_72 : decode cX12_feed 72 = .ok (.getfield 106, 3) := by decide +kernel
theorem dX12_feed_75 : decode cX12_feed 75 = .ok (.iload 6, 2) := by decide +kernel
theorem dX12_feed_77 : decode cX12_feed 77 = .ok (.iadd, 1) := by decide +kernel
theorem dX12_feed_78 : decode cX12_feed 78 = .ok (.aload_n 0, 1) := by decide +kernel
theorem dX12_feed_79 : decode cX12_feed 79 = .ok (.getfield 28, 3) := by decide +kernel
theorem dX12_feed_82 : decode cX12_feed 82 = .ok (.iload 6, 2) := by decide +kernel
theorem dX12_feed_84 : decode cX12_feed 84 = .ok (.iconst 4, 1) := by decide +kernel
theorem dX12_feed_85 : decode cX12_feed 85 = .ok (.idiv, 1) := by decide +kernel
theorem dX12_feed_86 : decode cX12_feed 86 = .ok (.iaload, 1) := by decide +kernel
theorem dX12_feed_87 : decode cX12_feed 87 = .ok (.bipush 24, 2) := by decide +kernel
theorem dX12_feed_89 : decode cX12_feed 89 = .ok (.bipush 8, 2) := by decide +kernel
theorem dX12_feed_91 : decode cX12_feed 91 = .ok (.iload 6, 2) := by decide +kernel
theorem dX12_feed_93 : decode cX12_feed 93 = .ok (.iconst 4, 1) := by decide +kernel
theorem dX12_feed_94 : decode cX12_feed 94 = .ok (.irem, 1) := by decide +kernel
theorem dX12_feed_95 : decode cX12_feed 95 = .ok (.imul, 1) := by decide +kernel
theorem dX12_feed_96 : decode cX12_feed 96 = .ok (.isub, 1) := by decide +kernel
theorem dX12_feed_97 : decode cX12_feed 97 = .ok (.ishr, 1) := by decide +kernel
theorem dX12_feed_98 : decode cX12_feed 98 = .ok (.i2b, 1) := by decide +kernel
theorem dX12_feed_99 : decode cX12_feed 99 = .ok (.bastore, 1) := by decide +kernel
theorem dX12_feed_100 : decode cX12_feed 100 = .ok (.iinc 6 1, 3) := by decide +kernel
theorem dX12_feed_103 : decode cX12_feed 103 = .ok (.goto (-43), 3) := by decide +kernel
theorem dX12_feed_106 : decode cX12_feed 106 = .ok (.aload_n 0, 1) := by decide +kernel
theorem dX12_feed_107 : decode cX12_feed 107 = .ok (.dup, 1) := by decide +kernel
theorem dX12_feed_108 : decode cX12_feed 108 = .ok (.getfield 106, 3) := by decide +kernel
theorem dX12_feed_111 : decode cX12_feed 111 = .ok (.bipush 20, 2) := by decide +kernel
theorem dX12_feed_113 : decode cX12_feed 113 = .ok (.iadd, 1) := by decide +kernel
theorem dX12_feed_114 : decode cX12_feed 114 = .ok (.putfield 106, 3) := by decide +kernel
theorem dX12_feed_117 : decode cX12_feed 117 = .ok (.aload_n 0, 1) := by decide +kernel
theorem dX12_feed_118 : decode cX12_feed 118 = .ok (.getfield 106, 3) := by decide +kernel
theorem dX12_feed_121 : decode cX12_feed 121 = .ok (.ireturn, 1) := by decide +kernel
theorem dX12_end_0 : decode cX12_end 0 = .ok (.aload_n 0, 1) := by decide +kernel
theorem dX12_end_1 : decode cX12_end 1 = .ok (.iconst 0, 1) := by decide +kernel
theorem dX12_end_2 : decode cX12_end 2 = .ok (.putfield 3, 3) := by decide +kernel
theorem dX12_end_5 : decode cX12_end 5 = .ok (.iload_n 1, 1) := by decide +kernel
theorem dX12_end_6 : decode cX12_end 6 = .ok (.ifCond .lt 11, 3) := by decide +kernel
theorem dX12_end_9 : decode cX12_end 9 = .ok (.iload_n 1, 1) := by decide +kernel
theorem dX12_end_10 : decode cX12_end 10 = .ok (.aload_n 0, 1) := by decide +kernel
theorem dX12_end_11 : decode cX12_end 11 = .ok (.getfield 106, 3) := by decide +kernel
theorem dX12_end_14 : decode cX12_end 14 = .ok (.if_icmp .le 5, 3) := by decide +kernel
theorem dX12_end_17 : decode cX12_end 17 = .ok (.iconst 0, 1) := by decide +kernel
theorem dX12_end_18 : decode cX12_end 18 = .ok (.ireturn, 1) := by decide +kernel
theorem dX12_end_19 : decode cX12_end 19 = .ok (.aload_n 0, 1) := by decide +kernel
theorem dX12_end_20 : decode cX12_end 20 = .ok (.iload_n 1, 1) := by decide +kernel
theorem dX12_end_21 : decode cX12_end 21 = .ok (.putfield 106, 3) := by decide +kernel
theorem dX12_end_24 : decode cX12_end 24 = .ok (.iconst 1, 1) := by decide +kernel
theorem dX12_end_25 : decode cX12_end 25 = .ok (.ireturn, 1) := by decide +kernel
theorem dX12_isAt_0 : decode cX12_isAt 0 = .ok (.aload_n 0, 1) := by decide +kernel
theorem dX12_isAt_1 : decode cX12_isAt 1 = .ok (.getfield 109, 3) := by decide +kernel
theorem dX12_isAt_4 : decode cX12_isAt 4 = .ok (.aload_n 0, 1) := by decide +kernel
theorem dX12_isAt_5 : decode cX12_isAt 5 = .ok (.getfield 112, 3) := by decide +kernel
theorem dX12_isAt_8 : decode cX12_isAt 8 = .ok (.if_icmp .ge 33, 3) := by decide +kernel
theorem dX12_isAt_11 : decode cX12_isAt 11 = .ok (.aload_n 0, 1) := by decide +kernel
theorem dX12_isAt_12 : decode cX12_isAt 12 = .ok (.getfield 21, 3) := by decide +kernel
theorem dX12_isAt_15 : decode cX12_isAt 15 = .ok (.aload_n 0, 1) := by decide +kernel
theorem dX12_isAt_16 : decode cX12_isAt 16 = .ok (.getfield 109, 3) := by decide +kernel
theorem dX12_isAt_19 : decode cX12_isAt 19 = .ok (.baload, 1) := by decide +kernel
theorem dX12_isAt_20 : decode cX12_isAt 20 = .ok (.iload_n 1, 1) := by decide +kernel
theorem dX12_isAt_21 : decode cX12_isAt 21 = .ok (.if_icmp .lt 20, 3) := by decide +kernel
theorem dX12_isAt_24 : decode cX12_isAt 24 = .ok (.aload_n 0, 1) := by decide +kernel
theorem dX12_isAt_25 : decode cX12_isAt 25 = .ok (.getfield 21, 3) := by decide +kernel
theorem dX12_isAt_28 : decode cX12_isAt 28 = .ok (.aload_n 0, 1) := by decide +kernel
theorem dX12_isAt_29 : decode cX12_isAt 29 = .ok (.getfield 109, 3) := by decide +kernel
theorem dX12_isAt_32 : decode cX12_isAt 32 = .ok (.baload, 1) := by decide +kernel
theorem dX12_isAt_33 : decode cX12_isAt 33 = .ok (.iload_n 2, 1) := by decide +kernel
theorem dX12_isAt_34 : decode cX12_isAt 34 = .ok (.if_icmp .gt 7, 3) := by decide +kernel
theorem dX12_isAt_37 : decode cX12_isAt 37 = .ok (.iconst 1, 1) := by decide +kernel
theorem dX12_isAt_38 : decode cX12_isAt 38 = .ok (.goto 4, 3) := by decide +kernel
theorem dX12_isAt_41 : decode cX12_isAt 41 = .ok (.iconst 0, 1) := by decide +kernel
theorem dX12_isAt_42 : decode cX12_isAt 42 = .ok (.ireturn, 1) := by decide +kernel
theorem dX12_blanks_0 : decode cX12_blanks 0 = .ok (.aload_n 0, 1) := by decide +kernel
theorem dX12_blanks_1 : decode cX12_blanks 1 = .ok (.bipush 32, 2) := by decide +kernel
theorem dX12_blanks_3 : decode cX12_blanks 3 = .ok (.bipush 32, 2) := by decide +kernel
theorem dX12_blanks_5 : decode cX12_blanks 5 = .ok (.invokevirtual 115, 3) := by decide +kernel
theorem dX12_blanks_8 : decode cX12_blanks 8 = .ok (.ifCond .eq 16, 3) := by decide +kernel
theorem dX12_blanks_11 : decode cX12_blanks 11 = .ok (.aload_n 0, 1) := by decide +kernel
theorem dX12_blanks_12 : decode cX12_blanks 12 = .ok (.dup, 1) := by decide +kernel
theorem dX12_blanks_13 : decode cX12_blanks 13 = .ok (.getfield 109, 3) := by decide +kernel
theorem dX12_blanks_16 : decode cX12_blanks 16 = .ok (.iconst 1, 1) := by decide +kernel
theorem dX12_blanks_17 : decode cX12_blanks 17 = .ok (.iadd, 1) := by decide +kernel
theorem dX12_blanks_18 : decode cX12_blanks 18 = .ok (.putfield 109, 3) := by decide +kernel
theorem dX12_blanks_21 : decode cX12_blanks 21 = .ok (.goto (-21), 3) := by decide +kernel
theorem dX12_blanks_24 : decode cX12_blanks 24 = .ok (.aload_n 0, 1) := by decide +kernel
theorem dX12_blanks_25 : decode cX12_blanks 25 = .ok (.aload_n 0, 1) := by decide +kernel
theorem dX12_blanks_26 : decode cX12_blanks 26 = .ok (.getfield 109, 3) := by decide +kernel
theorem dX12_blanks_29 : decode cX12_blanks 29 = .ok (.putfield 119, 3) := by decide +kernel
theorem dX12_blanks_32 : decode cX12_blanks 32 = .ok (.return_, 1) := by decide +kernel
theorem dX12_letters_0 : decode cX12_letters 0 = .ok (.aload_n 0, 1) := by decide +kernel
theorem dX12_letters_1 : decode cX12_letters 1 = .ok (.invokevirtual 122, 3) := by decide +kernel
theorem dX12_letters_4 : decode cX12_letters 4 = .ok (.aload_n 0, 1) := by decide +kernel
theorem dX12_letters_5 : decode cX12_letters 5 = .ok (.bipush 97, 2) := by decide +kernel
theorem dX12_letters_7 : decode cX12_letters 7 = .ok (.bipush 122, 2) := by decide +kernel
theorem dX12_letters_9 : decode cX12_letters 9 = .ok (.invokevirtual 115, 3) := by decide +kernel
theorem dX12_letters_12 : decode cX12_letters 12 = .ok (.ifCond .eq 16, 3) := by decide +kernel
theorem dX12_letters_15 : decode cX12_letters 15 = .ok (.aload_n 0, 1) := by decide +kernel
theorem dX12_letters_16 : decode cX12_letters 16 = .ok (.dup, 1) := by decide +kernel
theorem dX12_letters_17 : decode cX12_letters 17 = .ok (.getfield 109, 3) := by decide +kernel
theorem dX12_letters_20 : decode cX12_letters 20 = .ok (.iconst 1, 1) := by decide +kernel
theorem dX12_letters_21 : decode cX12_letters 21 = .ok (.iadd, 1) := by decide +kernel
theorem dX12_letters_22 : decode cX12_letters 22 = .ok (.putfield 109, 3) := by decide +kernel
theorem dX12_letters_25 : decode cX12_letters 25 = .ok (.goto (-21), 3) := by decide +kernel
theorem dX12_letters_28 : decode cX12_letters 28 = .ok (.return_, 1) := by decide +kernel
theorem dX12_isWord_0 : decode cX12_isWord 0 = .ok (.aload_n 0, 1) := by decide +kernel
theorem dX12_isWord_1 : decode cX12_isWord 1 = .ok (.getfield 109, 3) := by decide +kernel
theorem dX12_isWord_4 : decode cX12_isWord 4 = .ok (.aload_n 0, 1) := by decide +kernel
theorem dX12_isWord_5 : decode cX12_isWord 5 = .ok (.getfield 119, 3) := by decide +kernel
theorem dX12_isWord_8 : decode cX12_isWord 8 = .ok (.isub, 1) := by decide +kernel
theorem dX12_isWord_9 : decode cX12_isWord 9 = .ok (.aload_n 1, 1) := by decide +kernel
theorem dX12_isWord_10 : decode cX12_isWord 10 = .ok (.invokevirtual 125, 3) := by decide +kernel
theorem dX12_isWord_13 : decode cX12_isWord 13 = .ok (.if_icmp .ne 7, 3) := by decide +kernel
theorem dX12_isWord_16 : decode cX12_isWord 16 = .ok (.iconst 1, 1) := by decide +kernel
theorem dX12_isWord_17 : decode cX12_isWord 17 = .ok (.goto 4, 3) := by decide +kernel
theorem dX12_isWord_20 : decode cX12_isWord 20 = .ok (.iconst 0, 1) := by decide +kernel
theorem dX12_isWord_21 : decode cX12_isWord 21 = .ok (.istore_n 2, 1) := by decide +kernel
theorem dX12_isWord_22 : decode cX12_isWord 22 = .ok (.iconst 0, 1) := by decide +kernel
theorem dX12_isWord_23 : decode cX12_isWord 23 = .ok (.istore_n 3, 1) := by decide +kernel
theorem dX12_isWord_24 : decode cX12_isWord 24 = .ok (.iload_n 2, 1) := by decide +kernel
theorem dX12_isWord_25 : decode cX12_isWord 25 = .ok (.ifCond .eq 42, 3) := by decide +kernel
theorem dX12_isWord_28 : decode cX12_isWord 28 = .ok (.iload_n 3, 1) := by decide +kernel
theorem dX12_isWord_29 : decode cX12_isWord 29 = .ok (.aload_n 1, 1) := by decide +kernel
theorem dX12_isWord_30 : decode cX12_isWord 30 = .ok (.invokevirtual 125, 3) := by decide +kernel
theorem dX12_isWord_33 : decode cX12_isWord 33 = .ok (.if_icmp .ge 34, 3) := by decide +kernel
theorem dX12_isWord_36 : decode cX12_isWord 36 = .ok (.aload_n 0, 1) := by decide +kernel
theorem dX12_isWord_37 : decode cX12_isWord 37 = .ok (.getfield 21, 3) := by decide +kernel
theorem dX12_isWord_40 : decode cX12_isWord 40 = .ok (.aload_n 0, 1) := by decide +kernel
theorem dX12_isWord_41 : decode cX12_isWord 41 = .ok (.getfield 119, 3) := by decide +kernel
theorem dX12_isWord_44 : decode cX12_isWord 44 = .ok (.iload_n 3, 1) := by decide +kernel
theorem dX12_isWord_45 : decode cX12_isWord 45 = .ok (.iadd, 1) := by decide +kernel
theorem dX12_isWord_46 : decode cX12_isWord 46 = .ok (.baload, 1) := by decide +kernel
theorem dX12_isWord_47 : decode cX12_isWord 47 = .ok (.aload_n 1, 1) := by decide +kernel
theorem dX12_isWord_48 : decode cX12_isWord 48 = .ok (.iload_n 3, 1) := by decide +kernel
theorem dX12_isWord_49 : decode cX12_isWord 49 = .ok (.invokevirtual 130, 3) := by decide +kernel
theorem dX12_isWord_52 : decode cX12_isWord 52 = .ok (.if_icmp .ne 7, 3) := by decide +kernel
theorem dX12_isWord_55 : decode cX12_isWord 55 = .ok (.iconst 1, 1) := by decide +kernel
theorem dX12_isWord_56 : decode cX12_isWord 56 = .ok (.goto 4, 3) := by decide +kernel
theorem dX12_isWord_59 : decode cX12_isWord 59 = .ok (.iconst 0, 1) := by decide +kernel
theorem dX12_isWord_60 : decode cX12_isWord 60 = .ok (.istore_n 2, 1) := by decide +kernel
theorem dX12_isWord_61 : decode cX12_isWord 61 = .ok (.iinc 3 1, 3) := by decide +kernel
theorem dX12_isWord_64 : decode cX12_isWord 64 = .ok (.goto (-40), 3) := by decide +kernel
theorem dX12_isWord_67 : decode cX12_isWord 67 = .ok (.iload_n 2, 1) := by decide +kernel
theorem dX12_isWord_68 : decode cX12_isWord 68 = .ok (.ireturn, 1) := by decide +kernel
theorem dX12_passes_0 : decode cX12_passes 0 = .ok (.aload_n 0, 1) := by decide +kernel
theorem dX12_passes_1 : decode cX12_passes 1 = .ok (.invokevirtual 134, 3) := by decide +kernel
theorem dX12_passes_4 : decode cX12_passes 4 = .ok (.aload_n 0, 1) := by decide +kernel
theorem dX12_passes_5 : decode cX12_passes 5 = .ok (.aload_n 1, 1) := by decide +kernel
theorem dX12_passes_6 : decode cX12_passes 6 = .ok (.invokevirtual 137, 3) := by decide +kernel
theorem dX12_passes_9 : decode cX12_passes 9 = .ok (.ifCond .eq 5, 3) := by decide +kernel
theorem dX12_passes_12 : decode cX12_passes 12 = .ok (.iconst 1, 1) := by decide +kernel
theorem dX12_passes_13 : decode cX12_passes 13 = .ok (.ireturn, 1) := by decide +kernel
theorem dX12_passes_14 : decode cX12_passes 14 = .ok (.aload_n 0, 1) := by decide +kernel
theorem dX12_passes_15 : decode cX12_passes 15 = .ok (.aload_n 0, 1) := by decide +kernel
theorem dX12_passes_16 : decode cX12_passes 16 = .ok (.getfield 119, 3) := by decide +kernel
theorem dX12_passes_19 : decode cX12_passes 19 = .ok (.putfield 109, 3) := by decide +kernel
theorem dX12_passes_22 : decode cX12_passes 22 = .ok (.iconst 0, 1) := by decide +kernel
theorem dX12_passes_23 : decode cX12_passes 23 = .ok (.ireturn, 1) := by decide +kernel
theorem dX12_needs_0 : decode cX12_needs 0 = .ok (.aload_n 0, 1) := by decide +kernel
theorem dX12_needs_1 : decode cX12_needs 1 = .ok (.invokevirtual 134, 3) := by decide +kernel
theorem dX12_needs_4 : decode cX12_needs 4 = .ok (.aload_n 0, 1) := by decide +kernel
theorem dX12_needs_5 : decode cX12_needs 5 = .ok (.aload_n 1, 1) := by decide +kernel
theorem dX12_needs_6 : decode cX12_needs 6 = .ok (.invokevirtual 137, 3) := by decide +kernel
theorem dX12_needs_9 : decode cX12_needs 9 = .ok (.ireturn, 1) := by decide +kernel
theorem dX12_sign_0 : decode cX12_sign 0 = .ok (.aload_n 0, 1) := by decide +kernel
theorem dX12_sign_1 : decode cX12_sign 1 = .ok (.invokevirtual 122, 3) := by decide +kernel
theorem dX12_sign_4 : decode cX12_sign 4 = .ok (.aload_n 0, 1) := by decide +kernel
theorem dX12_sign_5 : decode cX12_sign 5 = .ok (.iload_n 1, 1) := by decide +kernel
theorem dX12_sign_6 : decode cX12_sign 6 = .ok (.iload_n 1, 1) := by decide +kernel
theorem dX12_sign_7 : decode cX12_sign 7 = .ok (.invokevirtual 115, 3) := by decide +kernel
theorem dX12_sign_10 : decode cX12_sign 10 = .ok (.ifCond .ne 5, 3) := by decide +kernel
theorem dX12_sign_13 : decode cX12_sign 13 = .ok (.iconst 0, 1) := by decide +kernel
theorem dX12_sign_14 : decode cX12_sign 14 = .ok (.ireturn, 1) := by decide +kernel
theorem dX12_sign_15 : decode cX12_sign 15 = .ok (.aload_n 0, 1) := by decide +kernel
theorem dX12_sign_16 : decode cX12_sign 16 = .ok (.dup, 1) := by decide +kernel
theorem dX12_sign_17 : decode cX12_sign 17 = .ok (.getfield 109, 3) := by decide +kernel
theorem dX12_sign_20 : decode cX12_sign 20 = .ok (.iconst 1, 1) := by decide +kernel
theorem dX12_sign_21 : decode cX12_sign 21 = .ok (.iadd, 1) := by decide +kernel
theorem dX12_sign_22 : decode cX12_sign 22 = .ok (.putfield 109, 3) := by decide +kernel
theorem dX12_sign_25 : decode cX12_sign 25 = .ok (.iconst 1, 1) := by decide +kernel
theorem dX12_sign_26 : decode cX12_sign 26 = .ok (.ireturn, 1) := by decide +kernel
theorem dX12_number_0 : decode cX12_number 0 = .ok (.aload_n 0, 1) := by decide +kernel
theorem dX12_number_1 : decode cX12_number 1 = .ok (.invokevirtual 122, 3) := by decide +kernel
theorem dX12_number_4 : decode cX12_number 4 = .ok (.iconst 0, 1) := by decide +kernel
theorem dX12_number_5 : decode cX12_number 5 = .ok (.istore_n 3, 1) := by decide +kernel
theorem dX12_number_6 : decode cX12_number 6 = .ok (.aload_n 0, 1) := by decide +kernel
theorem dX12_number_7 : decode cX12_number 7 = .ok (.bipush 48, 2) := by decide +kernel
theorem dX12_number_9 : decode cX12_number 9 = .ok (.bipush 57, 2) := by decide +kernel
theorem dX12_number_11 : decode cX12_number 11 = .ok (.invokevirtual 115, 3) := by decide +kernel
theorem dX12_number_14 : decode cX12_number 14 = .ok (.ifCond .eq 52, 3) := by decide +kernel
theorem dX12_number_17 : decode cX12_number 17 = .ok (.aload_n 0, 1) := by decide +kernel
theorem dX12_number_18 : decode cX12_number 18 = .ok (.getfield 109, 3) := by decide +kernel
theorem dX12_number_21 : decode cX12_number 21 = .ok (.aload_n 0, 1) := by decide +kernel
theorem dX12_number_22 : decode cX12_number 22 = .ok (.getfield 119, 3) := by decide +kernel
theorem dX12_number_25 : decode cX12_number 25 = .ok (.isub, 1) := by decide +kernel
theorem dX12_number_26 : decode cX12_number 26 = .ok (.bipush 6, 2) := by decide +kernel
theorem dX12_number_28 : decode cX12_number 28 = .ok (.if_icmp .ge 23, 3) := by decide +kernel
theorem dX12_number_31 : decode cX12_number 31 = .ok (.bipush 10, 2) := by decide +kernel
theorem dX12_number_33 : decode cX12_number 33 = .ok (.iload_n 3, 1) := by decide +kernel
theorem dX12_number_34 : decode cX12_number 34 = .ok (.imul, 1) := by decide +kernel
theorem dX12_number_35 : decode cX12_number 35 = .ok (.aload_n 0, 1) := by decide +kernel
theorem dX12_number_36 : decode cX12_number 36 = .ok (.getfield 21, 3) := by decide +kernel
theorem dX12_number_39 : decode cX12_number 39 = .ok (.aload_n 0, 1) := by decide +kernel
theorem dX12_number_40 : decode cX12_number 40 = .ok (.getfield 109, 3) := by decide +kernel
theorem dX12_number_43 : decode cX12_number 43 = .ok (.baload, 1) := by decide +kernel
theorem dX12_number_44 : decode cX12_number 44 = .ok (.iadd, 1) := by decide +kernel
theorem dX12_number_45 : decode cX12_number 45 = .ok (.bipush 48, 2) := by decide +kernel
theorem dX12_number_47 : decode cX12_number 47 = .ok (.isub, 1) := by decide +kernel
theorem dX12_number_48 : decode cX12_number 48 = .ok (.goto 4, 3) := by decide +kernel
theorem dX12_number_51 : decode cX12_number 51 = .ok (.iload_n 3, 1) := by decide +kernel
theorem dX12_number_52 : decode cX12_number 52 = .ok (.istore_n 3, 1) := by decide +kernel
theorem dX12_number_53 : decode cX12_number 53 = .ok (.aload_n 0, 1) := by decide +kernel
theorem dX12_number_54 : decode cX12_number 54 = .ok (.dup, 1) := by decide +kernel
theorem dX12_number_55 : decode cX12_number 55 = .ok (.getfield 109, 3) := by decide +kernel
theorem dX12_number_58 : decode cX12_number 58 = .ok (.iconst 1, 1) := by decide +kernel
theorem dX12_number_59 : decode cX12_number 59 = .ok (.iadd, 1) := by decide +kernel
theorem dX12_number_60 : decode cX12_number 60 = .ok (.putfield 109, 3) := by decide +kernel
theorem dX12_number_63 : decode cX12_number 63 = .ok (.goto (-57), 3) := by decide +kernel
theorem dX12_number_66 : decode cX12_number 66 = .ok (.aload_n 0, 1) := by decide +kernel
theorem dX12_number_67 : decode cX12_number 67 = .ok (.getfield 109, 3) := by decide +kernel
theorem dX12_number_70 : decode cX12_number 70 = .ok (.aload_n 0, 1) := by decide +kernel
theorem dX12_number_71 : decode cX12_number 71 = .ok (.getfield 119, 3) := by decide +kernel
theorem dX12_number_74 : decode cX12_number 74 = .ok (.if_icmp .eq 27, 3) := by decide +kernel
theorem dX12_number_77 : decode cX12_number 77 = .ok (.aload_n 0, 1) := by decide +kernel
theorem dX12_number_78 : decode cX12_number 78 = .ok (.getfield 109, 3) := by decide +kernel
theorem dX12_number_81 : decode cX12_number 81 = .ok (.aload_n 0, 1) := by decide +kernel
theorem dX12_number_82 : decode cX12_number 82 = .ok (.getfield 119, 3) := by decide +kernel
theorem dX12_number_85 : decode cX12_number 85 = .ok (.isub, 1) := by decide +kernel
theorem dX12_number_86 : decode cX12_number 86 = .ok (.bipush 6, 2) := by decide +kernel
theorem dX12_number_88 : decode cX12_number 88 = .ok (.if_icmp .gt 13, 3) := by decide +kernel
theorem dX12_number_91 : decode cX12_number 91 = .ok (.iload_n 3, 1) := by decide +kernel
theorem dX12_number_92 : decode cX12_number 92 = .ok (.iload_n 1, 1) := by decide +kernel
theorem dX12_number_93 : decode cX12_number 93 = .ok (.if_icmp .lt 8, 3) := by decide +kernel
theorem dX12_number_96 : decode cX12_number 96 = .ok (.iload_n 3, 1) := by decide +kernel
theorem dX12_number_97 : decode cX12_number 97 = .ok (.iload_n 2, 1) := by decide +kernel
theorem dX12_number_98 : decode cX12_number 98 = .ok (.if_icmp .le 7, 3) := by decide +kernel
theorem dX12_number_101 : decode cX12_number 101 = .ok (.iconst (-1), 1) := by decide +kernel
theorem dX12_number_102 : decode cX12_number 102 = .ok (.goto 4, 3) := by decide +kernel
theorem dX12_number_105 : decode cX12_number 105 = .ok (.iload_n 3, 1) := by decide +kernel
theorem dX12_number_106 : decode cX12_number 106 = .ok (.ireturn, 1) := by decide +kernel
theorem dX12_fault_0 : decode cX12_fault 0 = .ok (.aload_n 0, 1) := by decide +kernel
theorem dX12_fault_1 : decode cX12_fault 1 = .ok (.iconst 0, 1) := by decide +kernel
theorem dX12_fault_2 : decode cX12_fault 2 = .ok (.putfield 3, 3) := by decide +kernel
theorem dX12_fault_5 : decode cX12_fault 5 = .ok (.aload_n 0, 1) := by decide +kernel
theorem dX12_fault_6 : decode cX12_fault 6 = .ok (.getfield 25, 3) := by decide +kernel
theorem dX12_fault_9 : decode cX12_fault 9 = .ok (.ireturn, 1) := by decide +kernel
theorem dX12_jobAt_0 : decode cX12_jobAt 0 = .ok (.sipush 169, 3) := by decide +kernel
theorem dX12_jobAt_3 : decode cX12_jobAt 3 = .ok (.sipush 882, 3) := by decide +kernel
theorem dX12_jobAt_6 : decode cX12_jobAt 6 = .ok (.iload_n 0, 1) := by decide +kernel
theorem dX12_jobAt_7 : decode cX12_jobAt 7 = .ok (.imul, 1) := by decide +kernel
theorem dX12_jobAt_8 : decode cX12_jobAt 8 = .ok (.iadd, 1) := by decide +kernel
theorem dX12_jobAt_9 : decode cX12_jobAt 9 = .ok (.iload_n 1, 1) := by decide +kernel
theorem dX12_jobAt_10 : decode cX12_jobAt 10 = .ok (.iadd, 1) := by decide +kernel
theorem dX12_jobAt_11 : decode cX12_jobAt 11 = .ok (.ireturn, 1) := by decide +kernel
theorem dX12_its_0 : decode cX12_its 0 = .ok (.aload_n 0, 1) := by decide +kernel
theorem dX12_its_1 : decode cX12_its 1 = .ok (.getfield 14, 3) := by decide +kernel
theorem dX12_its_4 : decode cX12_its 4 = .ok (.iload_n 1, 1) := by decide +kernel
theorem dX12_its_5 : decode cX12_its 5 = .ok (.iload_n 2, 1) := by decide +kernel
theorem dX12_its_6 : decode cX12_its 6 = .ok (.invokestatic 141, 3) := by decide +kernel
theorem dX12_its_9 : decode cX12_its 9 = .ok (.iaload, 1) := by decide +kernel
theorem dX12_its_10 : decode cX12_its 10 = .ok (.ireturn, 1) := by decide +kernel
theorem dX12_sets_0 : decode cX12_sets 0 = .ok (.aload_n 0, 1) := by decide +kernel
theorem dX12_sets_1 : decode cX12_sets 1 = .ok (.getfield 14, 3) := by decide +kernel
theorem dX12_sets_4 : decode cX12_sets 4 = .ok (.iload_n 1, 1) := by decide +kernel
theorem dX12_sets_5 : decode cX12_sets 5 = .ok (.iload_n 2, 1) := by decide +kernel
theorem dX12_sets_6 : decode cX12_sets 6 = .ok (.invokestatic 141, 3) := by decide +kernel
theorem dX12_sets_9 : decode cX12_sets 9 = .ok (.iload_n 3, 1) := by decide +kernel
theorem dX12_sets_10 : decode cX12_sets 10 = .ok (.iastore, 1) := by decide +kernel
theorem dX12_sets_11 : decode cX12_sets 11 = .ok (.return_, 1) := by decide +kernel
theorem dX12_noJob_0 : decode cX12_noJob 0 = .ok (.iload_n 1, 1) := by decide +kernel
theorem dX12_noJob_1 : decode cX12_noJob 1 = .ok (.iconst 0, 1) := by decide +kernel
theorem dX12_noJob_2 : decode cX12_noJob 2 = .ok (.aload_n 0, 1) := by decide +kernel
theorem dX12_noJob_3 : decode cX12_noJob 3 = .ok (.getfield 14, 3) := by decide +kernel
theorem dX12_noJob_6 : decode cX12_noJob 6 = .ok (.bipush 8, 2) := by decide +kernel
theorem dX12_noJob_8 : decode cX12_noJob 8 = .ok (.iaload, 1) := by decide +kernel
theorem dX12_noJob_9 : decode cX12_noJob 9 = .ok (.iconst 1, 1) := by decide +kernel
theorem dX12_noJob_10 : decode cX12_noJob 10 = .ok (.isub, 1) := by decide +kernel
theorem dX12_noJob_11 : decode cX12_noJob 11 = .ok (.invokestatic 61, 3) := by decide +kernel
theorem dX12_noJob_14 : decode cX12_noJob 14 = .ok (.ifCond .ne 7, 3) := by decide +kernel
theorem dX12_noJob_17 : decode cX12_noJob 17 = .ok (.iconst 1, 1) := by decide +kernel
theorem dX12_noJob_18 : decode cX12_noJob 18 = .ok (.goto 4, 3) := by decide +kernel
theorem dX12_noJob_21 : decode cX12_noJob 21 = .ok (.iconst 0, 1) := by decide +kernel
theorem dX12_noJob_22 : decode cX12_noJob 22 = .ok (.ireturn, 1) := by decide +kernel
theorem dX12_emits_0 : decode cX12_emits 0 = .ok (.aload_n 0, 1) := by decide +kernel
theorem dX12_emits_1 : decode cX12_emits 1 = .ok (.getfield 31, 3) := by decide +kernel
theorem dX12_emits_4 : decode cX12_emits 4 = .ok (.bipush 82, 2) := by decide +kernel
theorem dX12_emits_6 : decode cX12_emits 6 = .ok (.iconst 2, 1) := by decide +kernel
theorem dX12_emits_7 : decode cX12_emits 7 = .ok (.aload_n 0, 1) := by decide +kernel
theorem dX12_emits_8 : decode cX12_emits 8 = .ok (.getfield 144, 3) := by decide +kernel
theorem dX12_emits_11 : decode cX12_emits 11 = .ok (.imul, 1) := by decide +kernel
theorem dX12_emits_12 : decode cX12_emits 12 = .ok (.iadd, 1) := by decide +kernel
theorem dX12_emits_13 : decode cX12_emits 13 = .ok (.iload_n 1, 1) := by decide +kernel
theorem dX12_emits_14 : decode cX12_emits 14 = .ok (.iastore, 1) := by decide +kernel
theorem dX12_emits_15 : decode cX12_emits 15 = .ok (.aload_n 0, 1) := by decide +kernel
theorem dX12_emits_16 : decode cX12_emits 16 = .ok (.getfield 31, 3) := by decide +kernel
theorem dX12_emits_19 : decode cX12_emits 19 = .ok (.bipush 82, 2) := by decide +kernel
theorem dX12_emits_21 : decode cX12_emits 21 = .ok (.iconst 2, 1) := by decide +kernel
theorem dX12_emits_22 : decode cX12_emits 22 = .ok (.aload_n 0, 1) := by decide +kernel
theorem dX12_emits_23 : decode cX12_emits 23 = .ok (.getfield 144, 3) := by decide +kernel
theorem dX12_emits_26 : decode cX12_emits 26 = .ok (.imul, 1) := by decide +kernel
theorem dX12_emits_27 : decode cX12_emits 27 = .ok (.iadd, 1) := by decide +kernel
theorem dX12_emits_28 : decode cX12_emits 28 = .ok (.iconst 1, 1) := by decide +kernel
theorem dX12_emits_29 : decode cX12_emits 29 = .ok (.iadd, 1) := by decide +kernel
theorem dX12_emits_30 : decode cX12_emits 30 = .ok (.iload_n 2, 1) := by decide +kernel
theorem dX12_emits_31 : decode cX12_emits 31 = .ok (.iastore, 1) := by decide +kernel
theorem dX12_emits_32 : decode cX12_emits 32 = .ok (.aload_n 0, 1) := by decide +kernel
theorem dX12_emits_33 : decode cX12_emits 33 = .ok (.dup, 1) := by decide +kernel
theorem dX12_emits_34 : decode cX12_emits 34 = .ok (.getfield 144, 3) := by decide +kernel
theorem dX12_emits_37 : decode cX12_emits 37 = .ok (.iconst 1, 1) := by decide +kernel
theorem dX12_emits_38 : decode cX12_emits 38 = .ok (.iadd, 1) := by decide +kernel
theorem dX12_emits_39 : decode cX12_emits 39 = .ok (.putfield 144, 3) := by decide +kernel
theorem dX12_emits_42 : decode cX12_emits 42 = .ok (.return_, 1) := by decide +kernel
theorem dX12_isRead_0 : decode cX12_isRead 0 = .ok (.aload_n 0, 1) := by decide +kernel
theorem dX12_isRead_1 : decode cX12_isRead 1 = .ok (.dup, 1) := by decide +kernel
theorem dX12_isRead_2 : decode cX12_isRead 2 = .ok (.getfield 147, 3) := by decide +kernel
theorem dX12_isRead_5 : decode cX12_isRead 5 = .ok (.aload_n 0, 1) := by decide +kernel
theorem dX12_isRead_6 : decode cX12_isRead 6 = .ok (.getfield 151, 3) := by decide +kernel
theorem dX12_isRead_9 : decode cX12_isRead 9 = .ok (.iload_n 1, 1) := by decide +kernel
theorem dX12_isRead_10 : decode cX12_isRead 10 = .ok (.lshr, 1) := by decide +kernel
theorem dX12_isRead_11 : decode cX12_isRead 11 = .ok (.lconst 1, 1) := by decide +kernel
theorem dX12_isRead_12 : decode cX12_isRead 12 = .ok (.land, 1) := by decide +kernel
theorem dX12_isRead_13 : decode cX12_isRead 13 = .ok (.lconst 0, 1) := by decide +kernel
theorem dX12_isRead_14 : decode cX12_isRead 14 = .ok (.lcmp, 1) := by decide +kernel
theorem dX12_isRead_15 : decode cX12_isRead 15 = .ok (.ifCond .ne 9, 3) := by decide +kernel
theorem dX12_isRead_18 : decode cX12_isRead 18 = .ok (.lconst 1, 1) := by decide +kernel
theorem dX12_isRead_19 : decode cX12_isRead 19 = .ok (.iload_n 1, 1) := by decide +kernel
theorem dX12_isRead_20 : decode cX12_isRead 20 = .ok (.lshl, 1) := by decide +kernel
theorem dX12_isRead_21 : decode cX12_isRead 21 = .ok (.goto 4, 3) := by decide +kernel
theorem dX12_isRead_24 : decode cX12_isRead 24 = .ok (.lconst 0, 1) := by decide +kernel
theorem dX12_isRead_25 : decode cX12_isRead 25 = .ok (.lor, 1) := by decide +kernel
theorem dX12_isRead_26 : decode cX12_isRead 26 = .ok (.putfield 147, 3) := by decide +kernel
theorem dX12_isRead_29 : decode cX12_isRead 29 = .ok (.return_, 1) := by decide +kernel
theorem dX12_readAtom_0 : decode cX12_readAtom 0 = .ok (.aload_n 0, 1) := by decide +kernel
theorem dX12_readAtom_1 : decode cX12_readAtom 1 = .ok (.invokevirtual 134, 3) := by decide +kernel
theorem dX12_readAtom_4 : decode cX12_readAtom 4 = .ok (.aload_n 0, 1) := by decide +kernel
theorem dX12_readAtom_5 : decode cX12_readAtom 5 = .ok (.getfield 109, 3) := by decide +kernel
theorem dX12_readAtom_8 : decode cX12_readAtom 8 = .ok (.aload_n 0, 1) := by decide +kernel
theorem dX12_readAtom_9 : decode cX12_readAtom 9 = .ok (.getfield 119, 3) := by decide +kernel
theorem dX12_readAtom_12 : decode cX12_readAtom 12 = .ok (.if_icmp .ne 25, 3) := by decide +kernel
theorem dX12_readAtom_15 : decode cX12_readAtom 15 = .ok (.aload_n 0, 1) := by decide +kernel
theorem dX12_readAtom_16 : decode cX12_readAtom 16 = .ok (.iconst 0, 1) := by decide +kernel
theorem dX12_readAtom_17 : decode cX12_readAtom 17 = .ok (.ldc 154, 2) := by decide +kernel
theorem dX12_readAtom_19 : decode cX12_readAtom 19 = .ok (.invokevirtual 155, 3) := by decide +kernel
theorem dX12_readAtom_22 : decode cX12_readAtom 22 = .ok (.istore_n 1, 1) := by decide +kernel
theorem dX12_readAtom_23 : decode cX12_readAtom 23 = .ok (.iload_n 1, 1) := by decide +kernel
theorem dX12_readAtom_24 : decode cX12_readAtom 24 = .ok (.ifCond .ge 5, 3) := by decide +kernel
theorem dX12_readAtom_27 : decode cX12_readAtom 27 = .ok (.iconst 0, 1) := by decide +kernel
theorem dX12_readAtom_28 : decode cX12_readAtom 28 = .ok (.ireturn, 1) := by decide +kernel
theorem dX12_readAtom_29 : decode cX12_readAtom 29 = .ok (.aload_n 0, 1) := by decide +kernel
theorem dX12_readAtom_30 : decode cX12_readAtom 30 = .ok (.iconst 0, 1) := by decide +kernel
theorem dX12_readAtom_31 : decode cX12_readAtom 31 = .ok (.iload_n 1, 1) := by decide +kernel
theorem dX12_readAtom_32 : decode cX12_readAtom 32 = .ok (.invokevirtual 158, 3) := by decide +kernel
theorem dX12_readAtom_35 : decode cX12_readAtom 35 = .ok (.iconst 1, 1) := by decide +kernel
theorem dX12_readAtom_36 : decode cX12_readAtom 36 = .ok (.ireturn, 1) := by decide +kernel
theorem dX12_readAtom_37 : decode cX12_readAtom 37 = .ok (.aload_n 0, 1) := by decide +kernel
theorem dX12_readAtom_38 : decode cX12_readAtom 38 = .ok (.ldc 162, 2) := by decide +kernel
theorem dX12_readAtom_40 : decode cX12_readAtom 40 = .ok (.invokevirtual 137, 3) := by decide +kernel
theorem dX12_readAtom_43 : decode cX12_readAtom 43 = .ok (.ifCond .ne 12, 3) := by decide +kernel
theorem dX12_readAtom_46 : decode cX12_readAtom 46 = .ok (.aload_n 0, 1) := by decide +kernel
theorem dX12_readAtom_47 : decode cX12_readAtom 47 = .ok (.ldc 164, 2) := by decide +kernel
theorem dX12_readAtom_49 : decode cX12_readAtom 49 = .ok (.invokevirtual 137, 3) := by decide +kernel
theorem dX12_readAtom_52 : decode cX12_readAtom 52 = .ok (.ifCond .eq 24, 3) := by decide +kernel
theorem dX12_readAtom_55 : decode cX12_readAtom 55 = .ok (.aload_n 0, 1) := by decide +kernel
theorem dX12_readAtom_56 : decode cX12_readAtom 56 = .ok (.aload_n 0, 1) := by decide +kernel
theorem dX12_readAtom_57 : decode cX12_readAtom 57 = .ok (.ldc 162, 2) := by decide +kernel
theorem dX12_readAtom_59 : decode cX12_readAtom 59 = .ok (.invokevirtual 137, 3) := by decide +kernel
theorem dX12_readAtom_62 : decode cX12_readAtom 62 = .ok (.ifCond .eq 7, 3) := by decide +kernel
theorem dX12_readAtom_65 : decode cX12_readAtom 65 = .ok (.iconst 3, 1) := by decide +kernel
theorem dX12_readAtom_66 : decode cX12_readAtom 66 = .ok (.goto 4, 3) := by decide +kernel
theorem dX12_readAtom_69 : decode cX12_readAtom 69 = .ok (.iconst 4, 1) := by decide +kernel
theorem dX12_readAtom_70 : decode cX12_readAtom 70 = .ok (.iconst 0, 1) := by decide +kernel
theorem dX12_readAtom_71 : decode cX12_readAtom 71 = .ok (.invokevirtual 158, 3) := by decide +kernel
theorem dX12_readAtom_74 : decode cX12_readAtom 74 = .ok (.iconst 1, 1) := by decide +kernel
theorem dX12_readAtom_75 : decode cX12_readAtom 75 = .ok (.ireturn, 1) := by decide +kernel
theorem dX12_readAtom_76 : decode cX12_readAtom 76 = .ok (.aload_n 0, 1) := by decide +kernel
theorem dX12_readAtom_77 : decode cX12_readAtom 77 = .ok (.ldc 166, 2) := by decide +kernel
theorem dX12_readAtom_79 : decode cX12_readAtom 79 = .ok (.invokevirtual 137, 3) := by decide +kernel
theorem dX12_readAtom_82 : decode cX12_readAtom 82 = .ok (.istore_n 1, 1) := by decide +kernel
theorem dX12_readAtom_83 : decode cX12_readAtom 83 = .ok (.iload_n 1, 1) := by decide +kernel
theorem dX12_readAtom_84 : decode cX12_readAtom 84 = .ok (.ifCond .ne 14, 3) := by decide +kernel
theorem dX12_readAtom_87 : decode cX12_readAtom 87 = .ok (.aload_n 0, 1) := by decide +kernel
theorem dX12_readAtom_88 : decode cX12_readAtom 88 = .ok (.ldc 168, 2) := by decide +kernel
theorem dX12_readAtom_90 : decode cX12_readAtom 90 = .ok (.invokevirtual 137, 3) := by decide +kernel
theorem dX12_readAtom_93 : decode cX12_readAtom 93 = .ok (.ifCond .ne 5, 3) := by decide +kernel
theorem dX12_readAtom_96 : decode cX12_readAtom 96 = .ok (.iconst 0, 1) := by decide +kernel
theorem dX12_readAtom_97 : decode cX12_readAtom 97 = .ok (.ireturn, 1) := by decide +kernel
theorem dX12_readAtom_98 : decode cX12_readAtom 98 = .ok (.aload_n 0, 1) := by decide +kernel
theorem dX12_readAtom_99 : decode cX12_readAtom 99 = .ok (.iconst 0, 1) := by decide +kernel
theorem dX12_readAtom_100 : decode cX12_readAtom 100 = .ok (.bipush 63, 2) := by decide +kernel
theorem dX12_readAtom_102 : decode cX12_readAtom 102 = .ok (.invokevirtual 155, 3) := by decide +kernel
theorem dX12_readAtom_105 : decode cX12_readAtom 105 = .ok (.istore_n 2, 1) := by decide +kernel
theorem dX12_readAtom_106 : decode cX12_readAtom 106 = .ok (.iload_n 2, 1) := by decide +kernel
theorem dX12_readAtom_107 : decode cX12_readAtom 107 = .ok (.ifCond .ge 5, 3) := by decide +kernel
theorem dX12_readAtom_110 : decode cX12_readAtom 110 = .ok (.iconst 0, 1) := by decide +kernel
theorem dX12_readAtom_111 : decode cX12_readAtom 111 = .ok (.ireturn, 1) := by decide +kernel
theorem dX12_readAtom_112 : decode cX12_readAtom 112 = .ok (.iload_n 1, 1) := by decide +kernel
theorem dX12_readAtom_113 : decode cX12_readAtom 113 = .ok (.ifCond .ne 8, 3) := by decide +kernel
theorem dX12_readAtom_116 : decode cX12_readAtom 116 = .ok (.aload_n 0, 1) := by decide +kernel
theorem dX12_readAtom_117 : decode cX12_readAtom 117 = .ok (.iload_n 2, 1) := by decide +kernel
theorem dX12_readAtom_118 : decode cX12_readAtom 118 = .ok (.invokevirtual 170, 3) := by decide +kernel
theorem dX12_readAtom_121 : decode cX12_readAtom 121 = .ok (.aload_n 0, 1) := by decide +kernel
theorem dX12_readAtom_122 : decode cX12_readAtom 122 = .ok (.iload_n 1, 1) := by decide +kernel
theorem dX12_readAtom_123 : decode cX12_readAtom 123 = .ok (.ifCond .eq 7, 3) := by decide +kernel
theorem dX12_readAtom_126 : decode cX12_readAtom 126 = .ok (.iconst 2, 1) := by decide +kernel
theorem dX12_readAtom_127 : decode cX12_readAtom 127 = .ok (.goto 4, 3) := by decide +kernel
theorem dX12_readAtom_130 : decode cX12_readAtom 130 = .ok (.iconst 1, 1) := by decide +kernel
theorem dX12_readAtom_131 : decode cX12_readAtom 131 = .ok (.iload_n 2, 1) := by decide +kernel
theorem dX12_readAtom_132 : decode cX12_readAtom 132 = .ok (.invokevirtual 158, 3) := by decide +kernel
theorem dX12_readAtom_135 : decode cX12_readAtom 135 = .ok (.iconst 1, 1) := by decide +kernel
theorem dX12_readAtom_136 : decode cX12_readAtom 136 = .ok (.ireturn, 1) := by decide +kernel
theorem dX12_readPart_0 : decode cX12_readPart 0 = .ok (.aload_n 0, 1) := by decide +kernel
theorem dX12_readPart_1 : decode cX12_readPart 1 = .ok (.invokevirtual 122, 3) := by decide +kernel
theorem dX12_readPart_4 : decode cX12_readPart 4 = .ok (.aload_n 0, 1) := by decide +kernel
theorem dX12_readPart_5 : decode cX12_readPart 5 = .ok (.bipush 48, 2) := by decide +kernel
theorem dX12_readPart_7 : decode cX12_readPart 7 = .ok (.bipush 57, 2) := by decide +kernel
theorem dX12_readPart_9 : decode cX12_readPart 9 = .ok (.invokevirtual 115, 3) := by decide +kernel
theorem dX12_readPart_12 : decode cX12_readPart 12 = .ok (.ifCond .ne 8, 3) := by decide +kernel
theorem dX12_readPart_15 : decode cX12_readPart 15 = .ok (.aload_n 0, 1) := by decide +kernel
theorem dX12_readPart_16 : decode cX12_readPart 16 = .ok (.invokevirtual 174, 3) := by decide +kernel
theorem dX12_readPart_19 : decode cX12_readPart 19 = .ok (.ireturn, 1) := by decide +kernel
theorem dX12_readPart_20 : decode cX12_readPart 20 = .ok (.aload_n 0, 1) := by decide +kernel
theorem dX12_readPart_21 : decode cX12_readPart 21 = .ok (.iconst 0, 1) := by decide +kernel
theorem dX12_readPart_22 : decode cX12_readPart 22 = .ok (.ldc 154, 2) := by decide +kernel
theorem dX12_readPart_24 : decode cX12_readPart 24 = .ok (.invokevirtual 155, 3) := by decide +kernel
theorem dX12_readPart_27 : decode cX12_readPart 27 = .ok (.istore_n 1, 1) := by decide +kernel
theorem dX12_readPart_28 : decode cX12_readPart 28 = .ok (.iload_n 1, 1) := by decide +kernel
theorem dX12_readPart_29 : decode cX12_readPart 29 = .ok (.ifCond .ge 5, 3) := by decide +kernel
theorem dX12_readPart_32 : decode cX12_readPart 32 = .ok (.iconst 0, 1) := by decide +kernel
theorem dX12_readPart_33 : decode cX12_readPart 33 = .ok (.ireturn, 1) := by decide +kernel
theorem dX12_readPart_34 : decode cX12_readPart 34 = .ok (.aload_n 0, 1) := by decide +kernel
theorem dX12_readPart_35 : decode cX12_readPart 35 = .ok (.bipush 42, 2) := by decide +kernel
theorem dX12_readPart_37 : decode cX12_readPart 37 = .ok (.invokevirtual 178, 3) := by decide +kernel
theorem dX12_readPart_40 : decode cX12_readPart 40 = .ok (.ifCond .ne 11, 3) := by decide +kernel
theorem dX12_readPart_43 : decode cX12_readPart 43 = .ok (.aload_n 0, 1) := by decide +kernel
theorem dX12_readPart_44 : decode cX12_readPart 44 = .ok (.iconst 0, 1) := by decide +kernel
theorem dX12_readPart_45 : decode cX12_readPart 45 = .ok (.iload_n 1, 1) := by decide +kernel
theorem dX12_readPart_46 : decode cX12_readPart 46 = .ok (.invokevirtual 158, 3) := by decide +kernel
theorem dX12_readPart_49 : decode cX12_readPart 49 = .ok (.iconst 1, 1) := by decide +kernel
theorem dX12_readPart_50 : decode cX12_readPart 50 = .ok (.ireturn, 1) := by decide +kernel
theorem dX12_readPart_51 : decode cX12_readPart 51 = .ok (.aload_n 0, 1) := by decide +kernel
theorem dX12_readPart_52 : decode cX12_readPart 52 = .ok (.invokevirtual 174, 3) := by decide +kernel
theorem dX12_readPart_55 : decode cX12_readPart 55 = .ok (.ifCond .ne 5, 3) := by decide +kernel
theorem dX12_readPart_58 : decode cX12_readPart 58 = .ok (.iconst 0, 1) := by decide +kernel
theorem dX12_readPart_59 : decode cX12_readPart 59 = .ok (.ireturn, 1) := by decide +kernel
theorem dX12_readPart_60 : decode cX12_readPart 60 = .ok (.aload_n 0, 1) := by decide +kernel
theorem dX12_readPart_61 : decode cX12_readPart 61 = .ok (.iconst 5, 1) := by decide +kernel
theorem dX12_readPart_62 : decode cX12_readPart 62 = .ok (.iload_n 1, 1) := by decide +kernel
theorem dX12_readPart_63 : decode cX12_readPart 63 = .ok (.invokevirtual 158, 3) := by decide +kernel
theorem dX12_readPart_66 : decode cX12_readPart 66 = .ok (.iconst 1, 1) := by decide +kernel
theorem dX12_readPart_67 : decode cX12_readPart 67 = .ok (.ireturn, 1) := by decide +kernel
theorem dX12_readSum_0 : decode cX12_readSum 0 = .ok (.aload_n 0, 1) := by decide +kernel
theorem dX12_readSum_1 : decode cX12_readSum 1 = .ok (.invokevirtual 181, 3) := by decide +kernel
theorem dX12_readSum_4 : decode cX12_readSum 4 = .ok (.ifCond .ne 5, 3) := by decide +kernel
theorem dX12_readSum_7 : decode cX12_readSum 7 = .ok (.iconst 0, 1) := by decide +kernel
theorem dX12_readSum_8 : decode cX12_readSum 8 = .ok (.ireturn, 1) := by decide +kernel
theorem dX12_readSum_9 : decode cX12_readSum 9 = .ok (.aload_n 0, 1) := by decide +kernel
theorem dX12_readSum_10 : decode cX12_readSum 10 = .ok (.bipush 43, 2) := by decide +kernel
theorem dX12_readSum_12 : decode cX12_readSum 12 = .ok (.invokevirtual 178, 3) := by decide +kernel
theorem dX12_readSum_15 : decode cX12_readSum 15 = .ok (.istore_n 1, 1) := by decide +kernel
theorem dX12_readSum_16 : decode cX12_readSum 16 = .ok (.iload_n 1, 1) := by decide +kernel
theorem dX12_readSum_17 : decode cX12_readSum 17 = .ok (.ifCond .ne 14, 3) := by decide +kernel
theorem dX12_readSum_20 : decode cX12_readSum 20 = .ok (.aload_n 0, 1) := by decide +kernel
theorem dX12_readSum_21 : decode cX12_readSum 21 = .ok (.bipush 45, 2) := by decide +kernel
theorem dX12_readSum_23 : decode cX12_readSum 23 = .ok (.invokevirtual 178, 3) := by decide +kernel
theorem dX12_readSum_26 : decode cX12_readSum 26 = .ok (.ifCond .ne 5, 3) := by decide +kernel
theorem dX12_readSum_29 : decode cX12_readSum 29 = .ok (.iconst 1, 1) := by decide +kernel
theorem dX12_readSum_30 : decode cX12_readSum 30 = .ok (.ireturn, 1) := by decide +kernel
theorem dX12_readSum_31 : decode cX12_readSum 31 = .ok (.aload_n 0, 1) := by decide +kernel
theorem dX12_readSum_32 : decode cX12_readSum 32 = .ok (.invokevirtual 181, 3) := by decide +kernel
theorem dX12_readSum_35 : decode cX12_readSum 35 = .ok (.ifCond .ne 5, 3) := by decide +kernel
theorem dX12_readSum_38 : decode cX12_readSum 38 = .ok (.iconst 0, 1) := by decide +kernel
theorem dX12_readSum_39 : decode cX12_readSum 39 = .ok (.ireturn, 1) := by decide +kernel
theorem dX12_readSum_40 : decode cX12_readSum 40 = .ok (.aload_n 0, 1) := by decide +kernel
theorem dX12_readSum_41 : decode cX12_readSum 41 = .ok (.iload_n 1, 1) := by decide +kernel
theorem dX12_readSum_42 : decode cX12_readSum 42 = .ok (.ifCond .eq 8, 3) := by decide +kernel
theorem dX12_readSum_45 : decode cX12_readSum 45 = .ok (.bipush 6, 2) := by decide +kernel
theorem dX12_readSum_47 : decode cX12_readSum 47 = .ok (.goto 5, 3) := by decide +kernel
theorem dX12_readSum_50 : decode cX12_readSum 50 = .ok (.bipush 7, 2) := by decide +kernel
theorem dX12_readSum_52 : decode cX12_readSum 52 = .ok (.iconst 0, 1) := by decide +kernel
theorem dX12_readSum_53 : decode cX12_readSum 53 = .ok (.invokevirtual 158, 3) := by decide +kernel
theorem dX12_readSum_56 : decode cX12_readSum 56 = .ok (.goto (-47), 3) := by decide +kernel
theorem dX12_readTest_0 : decode cX12_readTest 0 = .ok (.aload_n 0, 1) := by decide +kernel
theorem dX12_readTest_1 : decode cX12_readTest 1 = .ok (.bipush 40, 2) := by decide +kernel
theorem dX12_readTest_3 : decode cX12_readTest 3 = .ok (.invokevirtual 178, 3) := by decide +kernel
theorem dX12_readTest_6 : decode cX12_readTest 6 = .ok (.ifCond .eq 50, 3) := by decide +kernel
theorem dX12_readTest_9 : decode cX12_readTest 9 = .ok (.aload_n 0, 1) := by decide +kernel
theorem dX12_readTest_10 : decode cX12_readTest 10 = .ok (.getfield 184, 3) := by decide +kernel
theorem dX12_readTest_13 : decode cX12_readTest 13 = .ok (.bipush 6, 2) := by decide +kernel
theorem dX12_readTest_15 : decode cX12_readTest 15 = .ok (.if_icmp .ne 5, 3) := by decide +kernel
theorem dX12_readTest_18 : decode cX12_readTest 18 = .ok (.iconst 0, 1) := by decide +kernel
theorem dX12_readTest_19 : decode cX12_readTest 19 = .ok (.ireturn, 1) := by decide +kernel
theorem dX12_readTest_20 : decode cX12_readTest 20 = .ok (.aload_n 0, 1) := by decide +kernel
theorem dX12_readTest_21 : decode cX12_readTest 21 = .ok (.dup, 1) := by decide +kernel
theorem dX12_readTest_22 : decode cX12_readTest 22 = .ok (.getfield 184, 3) := by decide +kernel
theorem dX12_readTest_25 : decode cX12_readTest 25 = .ok (.iconst 1, 1) := by decide +kernel
theorem dX12_readTest_26 : decode cX12_readTest 26 = .ok (.iadd, 1) := by decide +kernel
theorem dX12_readTest_27 : decode cX12_readTest 27 = .ok (.putfield 184, 3) := by decide +kernel
theorem dX12_readTest_30 : decode cX12_readTest 30 = .ok (.aload_n 0, 1) := by decide +kernel
theorem dX12_readTest_31 : decode cX12_readTest 31 = .ok (.invokevirtual 187, 3) := by decide +kernel
theorem dX12_readTest_34 : decode cX12_readTest 34 = .ok (.ifCond .ne 5, 3) := by decide +kernel
theorem dX12_readTest_37 : decode cX12_readTest 37 = .ok (.iconst 0, 1) := by decide +kernel
theorem dX12_readTest_38 : decode cX12_readTest 38 = .ok (.ireturn, 1) := by decide +kernel
theorem dX12_readTest_39 : decode cX12_readTest 39 = .ok (.aload_n 0, 1) := by decide +kernel
theorem dX12_readTest_40 : decode cX12_readTest 40 = .ok (.dup, 1) := by decide +kernel
theorem dX12_readTest_41 : decode cX12_readTest 41 = .ok (.getfield 184, 3) := by decide +kernel
theorem dX12_readTest_44 : decode cX12_readTest 44 = .ok (.iconst 1, 1) := by decide +kernel
theorem dX12_readTest_45 : decode cX12_readTest 45 = .ok (.isub, 1) := by decide +kernel
theorem dX12_readTest_46 : decode cX12_readTest 46 = .ok (.putfield 184, 3) := by decide +kernel
theorem dX12_readTest_49 : decode cX12_readTest 49 = .ok (.aload_n 0, 1) := by decide +kernel
theorem dX12_readTest_50 : decode cX12_readTest 50 = .ok (.bipush 41, 2) := by decide +kernel
theorem dX12_readTest_52 : decode cX12_readTest 52 = .ok (.invokevirtual 178, 3) := by decide +kernel
theorem dX12_readTest_55 : decode cX12_readTest 55 = .ok (.ireturn, 1) := by decide +kernel
theorem dX12_readTest_56 : decode cX12_readTest 56 = .ok (.aload_n 0, 1) := by decide +kernel
theorem dX12_readTest_57 : decode cX12_readTest 57 = .ok (.ldc 190, 2) := by decide +kernel
theorem dX12_readTest_59 : decode cX12_readTest 59 = .ok (.invokevirtual 192, 3) := by decide +kernel
theorem dX12_readTest_62 : decode cX12_readTest 62 = .ok (.ifCond .eq 52, 3) := by decide +kernel
theorem dX12_readTest_65 : decode cX12_readTest 65 = .ok (.aload_n 0, 1) := by decide +kernel
theorem dX12_readTest_66 : decode cX12_readTest 66 = .ok (.getfield 184, 3) := by decide +kernel
theorem dX12_readTest_69 : decode cX12_readTest 69 = .ok (.bipush 6, 2) := by decide +kernel
theorem dX12_readTest_71 : decode cX12_readTest 71 = .ok (.if_icmp .ne 5, 3) := by decide +kernel
theorem dX12_readTest_74 : decode cX12_readTest 74 = .ok (.iconst 0, 1) := by decide +kernel
theorem dX12_readTest_75 : decode cX12_readTest 75 = .ok (.ireturn, 1) := by decide +kernel
theorem dX12_readTest_76 : decode cX12_readTest 76 = .ok (.aload_n 0, 1) := by decide +kernel
theorem dX12_readTest_77 : decode cX12_readTest 77 = .ok (.dup, 1) := by decide +kernel
theorem dX12_readTest_78 : decode cX12_readTest 78 = .ok (.getfield 184, 3) := by decide +kernel
theorem dX12_readTest_81 : decode cX12_readTest 81 = .ok (.iconst 1, 1) := by decide +kernel
theorem dX12_readTest_82 : decode cX12_readTest 82 = .ok (.iadd, 1) := by decide +kernel
theorem dX12_readTest_83 : decode cX12_readTest 83 = .ok (.putfield 184, 3) := by decide +kernel
theorem dX12_readTest_86 : decode cX12_readTest 86 = .ok (.aload_n 0, 1) := by decide +kernel
theorem dX12_readTest_87 : decode cX12_readTest 87 = .ok (.invokevirtual 195, 3) := by decide +kernel
theorem dX12_readTest_90 : decode cX12_readTest 90 = .ok (.ifCond .ne 5, 3) := by decide +kernel
theorem dX12_readTest_93 : decode cX12_readTest 93 = .ok (.iconst 0, 1) := by decide +kernel
theorem dX12_readTest_94 : decode cX12_readTest 94 = .ok (.ireturn, 1) := by decide +kernel
theorem dX12_readTest_95 : decode cX12_readTest 95 = .ok (.aload_n 0, 1) := by decide +kernel
theorem dX12_readTest_96 : decode cX12_readTest 96 = .ok (.dup, 1) := by decide +kernel
theorem dX12_readTest_97 : decode cX12_readTest 97 = .ok (.getfield 184, 3) := by decide +kernel
theorem dX12_readTest_100 : decode cX12_readTest 100 = .ok (.iconst 1, 1) := by decide +kernel
theorem dX12_readTest_101 : decode cX12_readTest 101 = .ok (.isub, 1) := by decide +kernel
theorem dX12_readTest_102 : decode cX12_readTest 102 = .ok (.putfield 184, 3) := by decide +kernel
theorem dX12_readTest_105 : decode cX12_readTest 105 = .ok (.aload_n 0, 1) := by decide +kernel
theorem dX12_readTest_106 : decode cX12_readTest 106 = .ok (.bipush 10, 2) := by decide +kernel
theorem dX12_readTest_108 : decode cX12_readTest 108 = .ok (.iconst 0, 1) := by decide +kernel
theorem dX12_readTest_109 : decode cX12_readTest 109 = .ok (.invokevirtual 158, 3) := by decide +kernel
theorem dX12_readTest_112 : decode cX12_readTest 112 = .ok (.iconst 1, 1) := by decide +kernel
theorem dX12_readTest_113 : decode cX12_readTest 113 = .ok (.ireturn, 1) := by decide +kernel
theorem dX12_readTest_114 : decode cX12_readTest 114 = .ok (.aload_n 0, 1) := by decide +kernel
theorem dX12_readTest_115 : decode cX12_readTest 115 = .ok (.invokevirtual 198, 3) := by decide +kernel
theorem dX12_readTest_118 : decode cX12_readTest 118 = .ok (.ifCond .ne 5, 3) := by decide +kernel
theorem dX12_readTest_121 : decode cX12_readTest 121 = .ok (.iconst 0, 1) := by decide +kernel
theorem dX12_readTest_122 : decode cX12_readTest 122 = .ok (.ireturn, 1) := by decide +kernel
theorem dX12_readTest_123 : decode cX12_readTest 123 = .ok (.aload_n 0, 1) := by decide +kernel
theorem dX12_readTest_124 : decode cX12_readTest 124 = .ok (.bipush 60, 2) := by decide +kernel
theorem dX12_readTest_126 : decode cX12_readTest 126 = .ok (.invokevirtual 178, 3) := by decide +kernel
theorem dX12_readTest_129 : decode cX12_readTest 129 = .ok (.istore_n 1, 1) := by decide +kernel
theorem dX12_readTest_130 : decode cX12_readTest 130 = .ok (.iload_n 1, 1) := by decide +kernel
theorem dX12_readTest_131 : decode cX12_readTest 131 = .ok (.ifCond .ne 12, 3) := by decide +kernel
theorem dX12_readTest_134 : decode cX12_readTest 134 = .ok (.aload_n 0, 1) := by decide +kernel
theorem dX12_readTest_135 : decode cX12_readTest 135 = .ok (.bipush 62, 2) := by decide +kernel
theorem dX12_readTest_137 : decode cX12_readTest 137 = .ok (.invokevirtual 178, 3) := by decide +kernel
theorem dX12_readTest_140 : decode cX12_readTest 140 = .ok (.ifCond .eq 10, 3) := by decide +kernel
theorem dX12_readTest_143 : decode cX12_readTest 143 = .ok (.aload_n 0, 1) := by decide +kernel
theorem dX12_readTest_144 : decode cX12_readTest 144 = .ok (.invokevirtual 198, 3) := by decide +kernel
theorem dX12_readTest_147 : decode cX12_readTest 147 = .ok (.ifCond .ne 5, 3) := by decide +kernel
theorem dX12_readTest_150 : decode cX12_readTest 150 = .ok (.iconst 0, 1) := by decide +kernel
theorem dX12_readTest_151 : decode cX12_readTest 151 = .ok (.ireturn, 1) := by decide +kernel
theorem dX12_readTest_152 : decode cX12_readTest 152 = .ok (.aload_n 0, 1) := by decide +kernel
theorem dX12_readTest_153 : decode cX12_readTest 153 = .ok (.iload_n 1, 1) := by decide +kernel
theorem dX12_readTest_154 : decode cX12_readTest 154 = .ok (.ifCond .eq 8, 3) := by decide +kernel
theorem dX12_readTest_157 : decode cX12_readTest 157 = .ok (.bipush 8, 2) := by decide +kernel
theorem dX12_readTest_159 : decode cX12_readTest 159 = .ok (.goto 5, 3) := by decide +kernel
theorem dX12_readTest_162 : decode cX12_readTest 162 = .ok (.bipush 9, 2) := by decide +kernel
theorem dX12_readTest_164 : decode cX12_readTest 164 = .ok (.iconst 0, 1) := by decide +kernel
theorem dX12_readTest_165 : decode cX12_readTest 165 = .ok (.invokevirtual 158, 3) := by decide +kernel
theorem dX12_readTest_168 : decode cX12_readTest 168 = .ok (.iconst 1, 1) := by decide +kernel
theorem dX12_readTest_169 : decode cX12_readTest 169 = .ok (.ireturn, 1) := by decide +kernel
theorem dX12_readAllOf_0 : decode cX12_readAllOf 0 = .ok (.aload_n 0, 1) := by decide +kernel
theorem dX12_readAllOf_1 : decode cX12_readAllOf 1 = .ok (.invokevirtual 195, 3) := by decide +kernel
theorem dX12_readAllOf_4 : decode cX12_readAllOf 4 = .ok (.ifCond .ne 5, 3) := by decide +kernel
theorem dX12_readAllOf_7 : decode cX12_readAllOf 7 = .ok (.iconst 0, 1) := by decide +kernel
theorem dX12_readAllOf_8 : decode cX12_readAllOf 8 = .ok (.ireturn, 1) := by decide +kernel
theorem dX12_readAllOf_9 : decode cX12_readAllOf 9 = .ok (.aload_n 0, 1) := by decide +kernel
theorem dX12_readAllOf_10 : decode cX12_readAllOf 10 = .ok (.ldc 201, 2) := by decide +kernel
theorem dX12_readAllOf_12 : decode cX12_readAllOf 12 = .ok (.invokevirtual 192, 3) := by decide +kernel
theorem dX12_readAllOf_15 : decode cX12_readAllOf 15 = .ok (.ifCond .eq 22, 3) := by decide +kernel
theorem dX12_readAllOf_18 : decode cX12_readAllOf 18 = .ok (.aload_n 0, 1) := by decide +kernel
theorem dX12_readAllOf_19 : decode cX12_readAllOf 19 = .ok (.invokevirtual 195, 3) := by decide +kernel
theorem dX12_readAllOf_22 : decode cX12_readAllOf 22 = .ok (.ifCond .ne 5, 3) := by decide +kernel
theorem dX12_readAllOf_25 : decode cX12_readAllOf 25 = .ok (.iconst 0, 1) := by decide +kernel
theorem dX12_readAllOf_26 : decode cX12_readAllOf 26 = .ok (.ireturn, 1) := by decide +kernel
theorem dX12_readAllOf_27 : decode cX12_readAllOf 27 = .ok (.aload_n 0, 1) := by decide +kernel
theorem dX12_readAllOf_28 : decode cX12_readAllOf 28 = .ok (.bipush 11, 2) := by decide +kernel
theorem dX12_readAllOf_30 : decode cX12_readAllOf 30 = .ok (.iconst 0, 1) := by decide +kernel
theorem dX12_readAllOf_31 : decode cX12_readAllOf 31 = .ok (.invokevirtual 158, 3) := by decide +kernel
theorem dX12_readAllOf_34 : decode cX12_readAllOf 34 = .ok (.goto (-25), 3) := by decide +kernel
theorem dX12_readAllOf_37 : decode cX12_readAllOf 37 = .ok (.iconst 1, 1) := by decide +kernel
theorem dX12_readAllOf_38 : decode cX12_readAllOf 38 = .ok (.ireturn, 1) := by decide +kernel
theorem dX12_readCond_0 : decode cX12_readCond 0 = .ok (.aload_n 0, 1) := by decide +kernel
theorem dX12_readCond_1 : decode cX12_readCond 1 = .ok (.invokevirtual 203, 3) := by decide +kernel
theorem dX12_readCond_4 : decode cX12_readCond 4 = .ok (.ifCond .ne 5, 3) := by decide +kernel
theorem dX12_readCond_7 : decode cX12_readCond 7 = .ok (.iconst 0, 1) := by decide +kernel
theorem dX12_readCond_8 : decode cX12_readCond 8 = .ok (.ireturn, 1) := by decide +kernel
theorem dX12_readCond_9 : decode cX12_readCond 9 = .ok (.aload_n 0, 1) := by decide +kernel
theorem dX12_readCond_10 : decode cX12_readCond 10 = .ok (.ldc 206, 2) := by decide +kernel
theorem dX12_readCond_12 : decode cX12_readCond 12 = .ok (.invokevirtual 192, 3) := by decide +kernel
theorem dX12_readCond_15 : decode cX12_readCond 15 = .ok (.ifCond .eq 22, 3) := by decide +kernel
theorem dX12_readCond_18 : decode cX12_readCond 18 = .ok (.aload_n 0, 1) := by decide +kernel
theorem dX12_readCond_19 : decode cX12_readCond 19 = .ok (.invokevirtual 203, 3) := by decide +kernel
theorem dX12_readCond_22 : decode cX12_readCond 22 = .ok (.ifCond .ne 5, 3) := by decide +kernel
theorem dX12_readCond_25 : decode cX12_readCond 25 = .ok (.iconst 0, 1) := by decide +kernel
theorem dX12_readCond_26 : decode cX12_readCond 26 = .ok (.ireturn, 1) := by decide +kernel
theorem dX12_readCond_27 : decode cX12_readCond 27 = .ok (.aload_n 0, 1) := by decide +kernel
theorem dX12_readCond_28 : decode cX12_readCond 28 = .ok (.bipush 12, 2) := by decide +kernel
theorem dX12_readCond_30 : decode cX12_readCond 30 = .ok (.iconst 0, 1) := by decide +kernel
theorem dX12_readCond_31 : decode cX12_readCond 31 = .ok (.invokevirtual 158, 3) := by decide +kernel
theorem dX12_readCond_34 : decode cX12_readCond 34 = .ok (.goto (-25), 3) := by decide +kernel
theorem dX12_readCond_37 : decode cX12_readCond 37 = .ok (.iconst 1, 1) := by decide +kernel
theorem dX12_readCond_38 : decode cX12_readCond 38 = .ok (.ireturn, 1) := by decide +kernel
theorem dX12_tellsWord_0 : decode cX12_tellsWord 0 = .ok (.aload_n 0, 1) := by decide +kernel
theorem dX12_tellsWord_1 : decode cX12_tellsWord 1 = .ok (.getfield 31, 3) := by decide +kernel
theorem dX12_tellsWord_4 : decode cX12_tellsWord 4 = .ok (.iload_n 1, 1) := by decide +kernel
theorem dX12_tellsWord_5 : decode cX12_tellsWord 5 = .ok (.aload_n 0, 1) := by decide +kernel
theorem dX12_tellsWord_6 : decode cX12_tellsWord 6 = .ok (.iload_n 2, 1) := by decide +kernel
theorem dX12_tellsWord_7 : decode cX12_tellsWord 7 = .ok (.bipush 63, 2) := by decide +kernel
theorem dX12_tellsWord_9 : decode cX12_tellsWord 9 = .ok (.invokevirtual 155, 3) := by decide +kernel
theorem dX12_tellsWord_12 : decode cX12_tellsWord 12 = .ok (.iastore, 1) := by decide +kernel
theorem dX12_tellsWord_13 : decode cX12_tellsWord 13 = .ok (.aload_n 0, 1) := by decide +kernel
theorem dX12_tellsWord_14 : decode cX12_tellsWord 14 = .ok (.getfield 31, 3) := by decide +kernel
theorem dX12_tellsWord_17 : decode cX12_tellsWord 17 = .ok (.iload_n 1, 1) := by decide +kernel
theorem dX12_tellsWord_18 : decode cX12_tellsWord 18 = .ok (.iaload, 1) := by decide +kernel
theorem dX12_tellsWord_19 : decode cX12_tellsWord 19 = .ok (.ifCond .lt 7, 3) := by decide +kernel
theorem dX12_tellsWord_22 : decode cX12_tellsWord 22 = .ok (.iconst 1, 1) := by decide +kernel
theorem dX12_tellsWord_23 : decode cX12_tellsWord 23 = .ok (.goto 4, 3) := by decide +kernel
theorem dX12_tellsWord_26 : decode cX12_tellsWord 26 = .ok (.iconst 0, 1) := by decide +kernel
theorem dX12_tellsWord_27 : decode cX12_tellsWord 27 = .ok (.ireturn, 1) := by decide +kernel
theorem dX12_readRest_0 : decode cX12_readRest 0 = .ok (.aload_n 0, 1) := by decide +kernel
theorem dX12_readRest_1 : decode cX12_readRest 1 = .ok (.getfield 31, 3) := by decide +kernel
theorem dX12_readRest_4 : decode cX12_readRest 4 = .ok (.iload_n 1, 1) := by decide +kernel
theorem dX12_readRest_5 : decode cX12_readRest 5 = .ok (.iaload, 1) := by decide +kernel
theorem dX12_readRest_6 : decode cX12_readRest 6 = .ok (.istore_n 2, 1) := by decide +kernel
theorem dX12_readRest_7 : decode cX12_readRest 7 = .ok (.iload_n 2, 1) := by decide +kernel
theorem dX12_readRest_8 : decode cX12_readRest 8 = .ok (.iconst 3, 1) := by decide +kernel
theorem dX12_readRest_9 : decode cX12_readRest 9 = .ok (.if_icmp .eq 8, 3) := by decide +kernel
theorem dX12_readRest_12 : decode cX12_readRest 12 = .ok (.iload_n 2, 1) := by decide +kernel
theorem dX12_readRest_13 : decode cX12_readRest 13 = .ok (.iconst 4, 1) := by decide +kernel
theorem dX12_readRest_14 : decode cX12_readRest 14 = .ok (.if_icmp .ne 30, 3) := by decide +kernel
theorem dX12_readRest_17 : decode cX12_readRest 17 = .ok (.aload_n 0, 1) := by decide +kernel
theorem dX12_readRest_18 : decode cX12_readRest 18 = .ok (.iconst 0, 1) := by decide +kernel
theorem dX12_readRest_19 : decode cX12_readRest 19 = .ok (.putfield 184, 3) := by decide +kernel
theorem dX12_readRest_22 : decode cX12_readRest 22 = .ok (.aload_n 0, 1) := by decide +kernel
theorem dX12_readRest_23 : decode cX12_readRest 23 = .ok (.ldc 208, 2) := by decide +kernel
theorem dX12_readRest_25 : decode cX12_readRest 25 = .ok (.invokevirtual 210, 3) := by decide +kernel
theorem dX12_readRest_28 : decode cX12_readRest 28 = .ok (.ifCond .eq 14, 3) := by decide +kernel
theorem dX12_readRest_31 : decode cX12_readRest 31 = .ok (.aload_n 0, 1) := by decide +kernel
theorem dX12_readRest_32 : decode cX12_readRest 32 = .ok (.invokevirtual 187, 3) := by decide +kernel
theorem dX12_readRest_35 : decode cX12_readRest 35 = .ok (.ifCond .eq 7, 3) := by decide +kernel
theorem dX12_readRest_38 : decode cX12_readRest 38 = .ok (.iconst 1, 1) := by decide +kernel
theorem dX12_readRest_39 : decode cX12_readRest 39 = .ok (.goto 4, 3) := by decide +kernel
theorem dX12_readRest_42 : decode cX12_readRest 42 = .ok (.iconst 0, 1) := by decide +kernel
theorem dX12_readRest_43 : decode cX12_readRest 43 = .ok (.ireturn, 1) := by decide +kernel
theorem dX12_readRest_44 : decode cX12_readRest 44 = .ok (.aload_n 0, 1) := by decide +kernel
theorem dX12_readRest_45 : decode cX12_readRest 45 = .ok (.iload_n 1, 1) := by decide +kernel
theorem dX12_readRest_46 : decode cX12_readRest 46 = .ok (.iconst 1, 1) := by decide +kernel
theorem dX12_readRest_47 : decode cX12_readRest 47 = .ok (.iadd, 1) := by decide +kernel
theorem dX12_readRest_48 : decode cX12_readRest 48 = .ok (.bipush 16, 2) := by decide +kernel
theorem dX12_readRest_50 : decode cX12_readRest 50 = .ok (.invokevirtual 213, 3) := by decide +kernel
theorem dX12_readRest_53 : decode cX12_readRest 53 = .ok (.ifCond .ne 5, 3) := by decide +kernel
theorem dX12_readRest_56 : decode cX12_readRest 56 = .ok (.iconst 0, 1) := by decide +kernel
theorem dX12_readRest_57 : decode cX12_readRest 57 = .ok (.ireturn, 1) := by decide +kernel
theorem dX12_readRest_58 : decode cX12_readRest 58 = .ok (.iload_n 2, 1) := by decide +kernel
theorem dX12_readRest_59 : decode cX12_readRest 59 = .ok (.ifCond .ne 21, 3) := by decide +kernel
theorem dX12_readRest_62 : decode cX12_readRest 62 = .ok (.aload_n 0, 1) := by decide +kernel
theorem dX12_readRest_63 : decode cX12_readRest 63 = .ok (.bipush 61, 2) := by decide +kernel
theorem dX12_readRest_65 : decode cX12_readRest 65 = .ok (.invokevirtual 178, 3) := by decide +kernel
theorem dX12_readRest_68 : decode cX12_readRest 68 = .ok (.ifCond .eq 10, 3) := by decide +kernel
theorem dX12_readRest_71 : decode cX12_readRest 71 = .ok (.aload_n 0, 1) := by decide +kernel
theorem dX12_readRest_72 : decode cX12_readRest 72 = .ok (.invokevirtual 198, 3) := by decide +kernel
theorem dX12_readRest_75 : decode cX12_readRest 75 = .ok (.ifCond .ne 146, 3) := by decide +kernel
theorem dX12_readRest_78 : decode cX12_readRest 78 = .ok (.iconst 0, 1) := by decide +kernel
theorem dX12_readRest_79 : decode cX12_readRest 79 = .ok (.ireturn, 1) := by decide +kernel
theorem dX12_readRest_80 : decode cX12_readRest 80 = .ok (.iload_n 2, 1) := by decide +kernel
theorem dX12_readRest_81 : decode cX12_readRest 81 = .ok (.iconst 1, 1) := by decide +kernel
theorem dX12_readRest_82 : decode cX12_readRest 82 = .ok (.if_icmp .ne 87, 3) := by decide +kernel
theorem dX12_readRest_85 : decode cX12_readRest 85 = .ok (.aload_n 0, 1) := by decide +kernel
theorem dX12_readRest_86 : decode cX12_readRest 86 = .ok (.ldc 216, 2) := by decide +kernel
theorem dX12_readRest_88 : decode cX12_readRest 88 = .ok (.invokevirtual 210, 3) := by decide +kernel
theorem dX12_readRest_91 : decode cX12_readRest 91 = .ok (.ifCond .eq 41, 3) := by decide +kernel
theorem dX12_readRest_94 : decode cX12_readRest 94 = .ok (.aload_n 0, 1) := by decide +kernel
theorem dX12_readRest_95 : decode cX12_readRest 95 = .ok (.iload_n 1, 1) := by decide +kernel
theorem dX12_readRest_96 : decode cX12_readRest 96 = .ok (.iconst 2, 1) := by decide +kernel
theorem dX12_readRest_97 : decode cX12_readRest 97 = .ok (.iadd, 1) := by decide +kernel
theorem dX12_readRest_98 : decode cX12_readRest 98 = .ok (.iconst 0, 1) := by decide +kernel
theorem dX12_readRest_99 : decode cX12_readRest 99 = .ok (.invokevirtual 213, 3) := by decide +kernel
theorem dX12_readRest_102 : decode cX12_readRest 102 = .ok (.ifCond .eq 30, 3) := by decide +kernel
theorem dX12_readRest_105 : decode cX12_readRest 105 = .ok (.aload_n 0, 1) := by decide +kernel
theorem dX12_readRest_106 : decode cX12_readRest 106 = .ok (.ldc 218, 2) := by decide +kernel
theorem dX12_readRest_108 : decode cX12_readRest 108 = .ok (.invokevirtual 210, 3) := by decide +kernel
theorem dX12_readRest_111 : decode cX12_readRest 111 = .ok (.ifCond .eq 21, 3) := by decide +kernel
theorem dX12_readRest_114 : decode cX12_readRest 114 = .ok (.aload_n 0, 1) := by decide +kernel
theorem dX12_readRest_115 : decode cX12_readRest 115 = .ok (.iload_n 1, 1) := by decide +kernel
theorem dX12_readRest_116 : decode cX12_readRest 116 = .ok (.iconst 3, 1) := by decide +kernel
theorem dX12_readRest_117 : decode cX12_readRest 117 = .ok (.iadd, 1) := by decide +kernel
theorem dX12_readRest_118 : decode cX12_readRest 118 = .ok (.aload_n 0, 1) := by decide +kernel
theorem dX12_readRest_119 : decode cX12_readRest 119 = .ok (.getfield 31, 3) := by decide +kernel
theorem dX12_readRest_122 : decode cX12_readRest 122 = .ok (.iload_n 1, 1) := by decide +kernel
theorem dX12_readRest_123 : decode cX12_readRest 123 = .ok (.iconst 2, 1) := by decide +kernel
theorem dX12_readRest_124 : decode cX12_readRest 124 = .ok (.iadd, 1) := by decide +kernel
theorem dX12_readRest_125 : decode cX12_readRest 125 = .ok (.iaload, 1) := by decide +kernel
theorem dX12_readRest_126 : decode cX12_readRest 126 = .ok (.invokevirtual 213, 3) := by decide +kernel
theorem dX12_readRest_129 : decode cX12_readRest 129 = .ok (.ifCond .ne 5, 3) := by decide +kernel
theorem dX12_readRest_132 : decode cX12_readRest 132 = .ok (.iconst 0, 1) := by decide +kernel
theorem dX12_readRest_133 : decode cX12_readRest 133 = .ok (.ireturn, 1) := by decide +kernel
theorem dX12_readRest_134 : decode cX12_readRest 134 = .ok (.aload_n 0, 1) := by decide +kernel
theorem dX12_readRest_135 : decode cX12_readRest 135 = .ok (.getfield 31, 3) := by decide +kernel
theorem dX12_readRest_138 : decode cX12_readRest 138 = .ok (.iload_n 1, 1) := by decide +kernel
theorem dX12_readRest_139 : decode cX12_readRest 139 = .ok (.iconst 2, 1) := by decide +kernel
theorem dX12_readRest_140 : decode cX12_readRest 140 = .ok (.iadd, 1) := by decide +kernel
theorem dX12_readRest_141 : decode cX12_readRest 141 = .ok (.iaload, 1) := by decide +kernel
theorem dX12_readRest_142 : decode cX12_readRest 142 = .ok (.istore_n 3, 1) := by decide +kernel
theorem dX12_readRest_143 : decode cX12_readRest 143 = .ok (.iload_n 3, 1) := by decide +kernel
theorem dX12_readRest_144 : decode cX12_readRest 144 = .ok (.aload_n 0, 1) := by decide +kernel
theorem dX12_readRest_145 : decode cX12_readRest 145 = .ok (.getfield 31, 3) := by decide +kernel
theorem dX12_readRest_148 : decode cX12_readRest 148 = .ok (.iload_n 1, 1) := by decide +kernel
theorem dX12_readRest_149 : decode cX12_readRest 149 = .ok (.iconst 3, 1) := by decide +kernel
theorem dX12_readRest_150 : decode cX12_readRest 150 = .ok (.iadd, 1) := by decide +kernel
theorem dX12_readRest_151 : decode cX12_readRest 151 = .ok (.iaload, 1) := by decide +kernel
theorem dX12_readRest_152 : decode cX12_readRest 152 = .ok (.if_icmp .gt 14, 3) := by decide +kernel
theorem dX12_readRest_155 : decode cX12_readRest 155 = .ok (.aload_n 0, 1) := by decide +kernel
theorem dX12_readRest_156 : decode cX12_readRest 156 = .ok (.iload_n 3, 1) := by decide +kernel
theorem dX12_readRest_157 : decode cX12_readRest 157 = .ok (.invokevirtual 170, 3) := by decide +kernel
theorem dX12_readRest_160 : decode cX12_readRest 160 = .ok (.iinc 3 1, 3) := by decide +kernel
theorem dX12_readRest_163 : decode cX12_readRest 163 = .ok (.goto (-20), 3) := by decide +kernel
theorem dX12_readRest_166 : decode cX12_readRest 166 = .ok (.goto 55, 3) := by decide +kernel
theorem dX12_readRest_169 : decode cX12_readRest 169 = .ok (.aload_n 0, 1) := by decide +kernel
theorem dX12_readRest_170 : decode cX12_readRest 170 = .ok (.ldc 220, 2) := by decide +kernel
theorem dX12_readRest_172 : decode cX12_readRest 172 = .ok (.invokevirtual 210, 3) := by decide +kernel
theorem dX12_readRest_175 : decode cX12_readRest 175 = .ok (.ifCond .ne 5, 3) := by decide +kernel
theorem dX12_readRest_178 : decode cX12_readRest 178 = .ok (.iconst 0, 1) := by decide +kernel
theorem dX12_readRest_179 : decode cX12_readRest 179 = .ok (.ireturn, 1) := by decide +kernel
theorem dX12_readRest_180 : decode cX12_readRest 180 = .ok (.aload_n 0, 1) := by decide +kernel
theorem dX12_readRest_181 : decode cX12_readRest 181 = .ok (.getfield 31, 3) := by decide +kernel
theorem dX12_readRest_184 : decode cX12_readRest 184 = .ok (.iload_n 1, 1) := by decide +kernel
theorem dX12_readRest_185 : decode cX12_readRest 185 = .ok (.iconst 2, 1) := by decide +kernel
theorem dX12_readRest_186 : decode cX12_readRest 186 = .ok (.iadd, 1) := by decide +kernel
theorem dX12_readRest_187 : decode cX12_readRest 187 = .ok (.aload_n 0, 1) := by decide +kernel
theorem dX12_readRest_188 : decode cX12_readRest 188 = .ok (.iconst 1, 1) := by decide +kernel
theorem dX12_readRest_189 : decode cX12_readRest 189 = .ok (.sipush 9999, 3) := by decide +kernel
theorem dX12_readRest_192 : decode cX12_readRest 192 = .ok (.invokevirtual 155, 3) := by decide +kernel
theorem dX12_readRest_195 : decode cX12_readRest 195 = .ok (.iastore, 1) := by decide +kernel
theorem dX12_readRest_196 : decode cX12_readRest 196 = .ok (.aload_n 0, 1) := by decide +kernel
theorem dX12_readRest_197 : decode cX12_readRest 197 = .ok (.getfield 31, 3) := by decide +kernel
theorem dX12_readRest_200 : decode cX12_readRest 200 = .ok (.iload_n 1, 1) := by decide +kernel
theorem dX12_readRest_201 : decode cX12_readRest 201 = .ok (.iconst 2, 1) := by decide +kernel
theorem dX12_readRest_202 : decode cX12_readRest 202 = .ok (.iadd, 1) := by decide +kernel
theorem dX12_readRest_203 : decode cX12_readRest 203 = .ok (.iaload, 1) := by decide +kernel
theorem dX12_readRest_204 : decode cX12_readRest 204 = .ok (.ifCond .ge 5, 3) := by decide +kernel
theorem dX12_readRest_207 : decode cX12_readRest 207 = .ok (.iconst 0, 1) := by decide +kernel
theorem dX12_readRest_208 : decode cX12_readRest 208 = .ok (.ireturn, 1) := by decide +kernel
theorem dX12_readRest_209 : decode cX12_readRest 209 = .ok (.aload_n 0, 1) := by decide +kernel
theorem dX12_readRest_210 : decode cX12_readRest 210 = .ok (.aload_n 0, 1) := by decide +kernel
theorem dX12_readRest_211 : decode cX12_readRest 211 = .ok (.getfield 31, 3) := by decide +kernel
theorem dX12_readRest_214 : decode cX12_readRest 214 = .ok (.iload_n 1, 1) := by decide +kernel
theorem dX12_readRest_215 : decode cX12_readRest 215 = .ok (.iconst 1, 1) := by decide +kernel
theorem dX12_readRest_216 : decode cX12_readRest 216 = .ok (.iadd, 1) := by decide +kernel
theorem dX12_readRest_217 : decode cX12_readRest 217 = .ok (.iaload, 1) := by decide +kernel
theorem dX12_readRest_218 : decode cX12_readRest 218 = .ok (.invokevirtual 170, 3) := by decide +kernel
theorem dX12_readRest_221 : decode cX12_readRest 221 = .ok (.aload_n 0, 1) := by decide +kernel
theorem dX12_readRest_222 : decode cX12_readRest 222 = .ok (.dup, 1) := by decide +kernel
theorem dX12_readRest_223 : decode cX12_readRest 223 = .ok (.getfield 151, 3) := by decide +kernel
theorem dX12_readRest_226 : decode cX12_readRest 226 = .ok (.lconst 1, 1) := by decide +kernel
theorem dX12_readRest_227 : decode cX12_readRest 227 = .ok (.aload_n 0, 1) := by decide +kernel
theorem dX12_readRest_228 : decode cX12_readRest 228 = .ok (.getfield 31, 3) := by decide +kernel
theorem dX12_readRest_231 : decode cX12_readRest 231 = .ok (.iload_n 1, 1) := by decide +kernel
theorem dX12_readRest_232 : decode cX12_readRest 232 = .ok (.iconst 1, 1) := by decide +kernel
theorem dX12_readRest_233 : decode cX12_readRest 233 = .ok (.iadd, 1) := by decide +kernel
theorem dX12_readRest_234 : decode cX12_readRest 234 = .ok (.iaload, 1) := by decide +kernel
theorem dX12_readRest_235 : decode cX12_readRest 235 = .ok (.lshl, 1) := by decide +kernel
theorem dX12_readRest_236 : decode cX12_readRest 236 = .ok (.lor, 1) := by decide +kernel
theorem dX12_readRest_237 : decode cX12_readRest 237 = .ok (.putfield 151, 3) := by decide +kernel
theorem dX12_readRest_240 : decode cX12_readRest 240 = .ok (.iconst 1, 1) := by decide +kernel
theorem dX12_readRest_241 : decode cX12_readRest 241 = .ok (.ireturn, 1) := by decide +kernel
theorem dX12_readLine_0 : decode cX12_readLine 0 = .ok (.aload_n 0, 1) := by decide +kernel
theorem dX12_readLine_1 : decode cX12_readLine 1 = .ok (.invokevirtual 134, 3) := by decide +kernel
theorem dX12_readLine_4 : decode cX12_readLine 4 = .ok (.iload_n 1, 1) := by decide +kernel
theorem dX12_readLine_5 : decode cX12_readLine 5 = .ok (.bipush 10, 2) := by decide +kernel
theorem dX12_readLine_7 : decode cX12_readLine 7 = .ok (.if_icmp .ne 5, 3) := by decide +kernel
theorem dX12_readLine_10 : decode cX12_readLine 10 = .ok (.iconst 0, 1) := by decide +kernel
theorem dX12_readLine_11 : decode cX12_readLine 11 = .ok (.ireturn, 1) := by decide +kernel
theorem dX12_readLine_12 : decode cX12_readLine 12 = .ok (.bipush 22, 2) := by decide +kernel
theorem dX12_readLine_14 : decode cX12_readLine 14 = .ok (.bipush 6, 2) := by decide +kernel
theorem dX12_readLine_16 : decode cX12_readLine 16 = .ok (.iload_n 1, 1) := by decide +kernel
theorem dX12_readLine_17 : decode cX12_readLine 17 = .ok (.imul, 1) := by decide +kernel
theorem dX12_readLine_18 : decode cX12_readLine 18 = .ok (.iadd, 1) := by decide +kernel
theorem dX12_readLine_19 : decode cX12_readLine 19 = .ok (.istore_n 2, 1) := by decide +kernel
theorem dX12_readLine_20 : decode cX12_readLine 20 = .ok (.aload_n 0, 1) := by decide +kernel
theorem dX12_readLine_21 : decode cX12_readLine 21 = .ok (.getfield 31, 3) := by decide +kernel
theorem dX12_readLine_24 : decode cX12_readLine 24 = .ok (.iload_n 2, 1) := by decide +kernel
theorem dX12_readLine_25 : decode cX12_readLine 25 = .ok (.iconst 2, 1) := by decide +kernel
theorem dX12_readLine_26 : decode cX12_readLine 26 = .ok (.iadd, 1) := by decide +kernel
theorem dX12_readLine_27 : decode cX12_readLine 27 = .ok (.iconst 1, 1) := by decide +kernel
theorem dX12_readLine_28 : decode cX12_readLine 28 = .ok (.iastore, 1) := by decide +kernel
theorem dX12_readLine_29 : decode cX12_readLine 29 = .ok (.aload_n 0, 1) := by decide +kernel
theorem dX12_readLine_30 : decode cX12_readLine 30 = .ok (.getfield 31, 3) := by decide +kernel
theorem dX12_readLine_33 : decode cX12_readLine 33 = .ok (.iload_n 2, 1) := by decide +kernel
theorem dX12_readLine_34 : decode cX12_readLine 34 = .ok (.iconst 4, 1) := by decide +kernel
theorem dX12_readLine_35 : decode cX12_readLine 35 = .ok (.iadd, 1) := by decide +kernel
theorem dX12_readLine_36 : decode cX12_readLine 36 = .ok (.aload_n 0, 1) := by decide +kernel
theorem dX12_readLine_37 : decode cX12_readLine 37 = .ok (.getfield 144, 3) := by decide +kernel
theorem dX12_readLine_40 : decode cX12_readLine 40 = .ok (.iastore, 1) := by decide +kernel
theorem dX12_readLine_41 : decode cX12_readLine 41 = .ok (.aload_n 0, 1) := by decide +kernel
theorem dX12_readLine_42 : decode cX12_readLine 42 = .ok (.ldc 222, 2) := by decide +kernel
theorem dX12_readLine_44 : decode cX12_readLine 44 = .ok (.invokevirtual 137, 3) := by decide +kernel
theorem dX12_readLine_47 : decode cX12_readLine 47 = .ok (.ifCond .eq 40, 3) := by decide +kernel
theorem dX12_readLine_50 : decode cX12_readLine 50 = .ok (.aload_n 0, 1) := by decide +kernel
theorem dX12_readLine_51 : decode cX12_readLine 51 = .ok (.getfield 31, 3) := by decide +kernel
theorem dX12_readLine_54 : decode cX12_readLine 54 = .ok (.iload_n 2, 1) := by decide +kernel
theorem dX12_readLine_55 : decode cX12_readLine 55 = .ok (.iconst 2, 1) := by decide +kernel
theorem dX12_readLine_56 : decode cX12_readLine 56 = .ok (.iadd, 1) := by decide +kernel
theorem dX12_readLine_57 : decode cX12_readLine 57 = .ok (.aload_n 0, 1) := by decide +kernel
theorem dX12_readLine_58 : decode cX12_readLine 58 = .ok (.iconst 1, 1) := by decide +kernel
theorem dX12_readLine_59 : decode cX12_readLine 59 = .ok (.bipush 9, 2) := by decide +kernel
theorem dX12_readLine_61 : decode cX12_readLine 61 = .ok (.invokevirtual 155, 3) := by decide +kernel
theorem dX12_readLine_64 : decode cX12_readLine 64 = .ok (.iastore, 1) := by decide +kernel
theorem dX12_readLine_65 : decode cX12_readLine 65 = .ok (.aload_n 0, 1) := by decide +kernel
theorem dX12_readLine_66 : decode cX12_readLine 66 = .ok (.getfield 31, 3) := by decide +kernel
theorem dX12_readLine_69 : decode cX12_readLine 69 = .ok (.iload_n 2, 1) := by decide +kernel
theorem dX12_readLine_70 : decode cX12_readLine 70 = .ok (.iconst 2, 1) := by decide +kernel
theorem dX12_readLine_71 : decode cX12_readLine 71 = .ok (.iadd, 1) := by decide +kernel
theorem dX12_readLine_72 : decode cX12_readLine 72 = .ok (.iaload, 1) := by decide +kernel
theorem dX12_readLine_73 : decode cX12_readLine 73 = .ok (.ifCond .lt 12, 3) := by decide +kernel
theorem dX12_readLine_76 : decode cX12_readLine 76 = .ok (.aload_n 0, 1) := by decide +kernel
theorem dX12_readLine_77 : decode cX12_readLine 77 = .ok (.ldc 224, 2) := by decide +kernel
theorem dX12_readLine_79 : decode cX12_readLine 79 = .ok (.invokevirtual 210, 3) := by decide +kernel
theorem dX12_readLine_82 : decode cX12_readLine 82 = .ok (.ifCond .ne 5, 3) := by decide +kernel
theorem dX12_readLine_85 : decode cX12_readLine 85 = .ok (.iconst 0, 1) := by decide +kernel
theorem dX12_readLine_86 : decode cX12_readLine 86 = .ok (.ireturn, 1) := by decide +kernel
theorem dX12_readLine_87 : decode cX12_readLine 87 = .ok (.aload_n 0, 1) := by decide +kernel
theorem dX12_readLine_88 : decode cX12_readLine 88 = .ok (.getfield 31, 3) := by decide +kernel
theorem dX12_readLine_91 : decode cX12_readLine 91 = .ok (.iload_n 2, 1) := by decide +kernel
theorem dX12_readLine_92 : decode cX12_readLine 92 = .ok (.aload_n 0, 1) := by decide +kernel
theorem dX12_readLine_93 : decode cX12_readLine 93 = .ok (.ldc 224, 2) := by decide +kernel
theorem dX12_readLine_95 : decode cX12_readLine 95 = .ok (.invokevirtual 137, 3) := by decide +kernel
theorem dX12_readLine_98 : decode cX12_readLine 98 = .ok (.ifCond .eq 7, 3) := by decide +kernel
theorem dX12_readLine_101 : decode cX12_readLine 101 = .ok (.iconst 0, 1) := by decide +kernel
theorem dX12_readLine_102 : decode cX12_readLine 102 = .ok (.goto 56, 3) := by decide +kernel
theorem dX12_readLine_105 : decode cX12_readLine 105 = .ok (.aload_n 0, 1) := by decide +kernel
theorem dX12_readLine_106 : decode cX12_readLine 106 = .ok (.ldc 226, 2) := by decide +kernel
theorem dX12_readLine_108 : decode cX12_readLine 108 = .ok (.invokevirtual 137, 3) := by decide +kernel
theorem dX12_readLine_111 : decode cX12_readLine 111 = .ok (.ifCond .eq 7, 3) := by decide +kernel
theorem dX12_readLine_114 : decode cX12_readLine 114 = .ok (.iconst 1, 1) := by decide +kernel
theorem dX12_readLine_115 : decode cX12_readLine 115 = .ok (.goto 43, 3) := by decide +kernel
theorem dX12_readLine_118 : decode cX12_readLine 118 = .ok (.aload_n 0, 1) := by decide +kernel
theorem dX12_readLine_119 : decode cX12_readLine 119 = .ok (.ldc 228, 2) := by decide +kernel
theorem dX12_readLine_121 : decode cX12_readLine 121 = .ok (.invokevirtual 137, 3) := by decide +kernel
theorem dX12_readLine_124 : decode cX12_readLine 124 = .ok (.ifCond .eq 7, 3) := by decide +kernel
theorem dX12_readLine_127 : decode cX12_readLine 127 = .ok (.iconst 2, 1) := by decide +kernel
theorem dX12_readLine_128 : decode cX12_readLine 128 = .ok (.goto 30, 3) := by decide +kernel
theorem dX12_readLine_131 : decode cX12_readLine 131 = .ok (.aload_n 0, 1) := by decide +kernel
theorem dX12_readLine_132 : decode cX12_readLine 132 = .ok (.ldc 230, 2) := by decide +kernel
theorem dX12_readLine_134 : decode cX12_readLine 134 = .ok (.invokevirtual 137, 3) := by decide +kernel
theorem dX12_readLine_137 : decode cX12_readLine 137 = .ok (.ifCond .eq 7, 3) := by decide +kernel
theorem dX12_readLine_140 : decode cX12_readLine 140 = .ok (.iconst 3, 1) := by decide +kernel
theorem dX12_readLine_141 : decode cX12_readLine 141 = .ok (.goto 17, 3) := by decide +kernel
theorem dX12_readLine_144 : decode cX12_readLine 144 = .ok (.aload_n 0, 1) := by decide +kernel
theorem dX12_readLine_145 : decode cX12_readLine 145 = .ok (.ldc 232, 2) := by decide +kernel
theorem dX12_readLine_147 : decode cX12_readLine 147 = .ok (.invokevirtual 137, 3) := by decide +kernel
theorem dX12_readLine_150 : decode cX12_readLine 150 = .ok (.ifCond .eq 7, 3) := by decide +kernel
theorem dX12_readLine_153 : decode cX12_readLine 153 = .ok (.iconst 4, 1) := by decide +kernel
theorem dX12_readLine_154 : decode cX12_readLine 154 = .ok (.goto 4, 3) := by decide +kernel
theorem dX12_readLine_157 : decode cX12_readLine 157 = .ok (.iconst (-1), 1) := by decide +kernel
theorem dX12_readLine_158 : decode cX12_readLine 158 = .ok (.iastore, 1) := by decide +kernel
theorem dX12_readLine_159 : decode cX12_readLine 159 = .ok (.aload_n 0, 1) := by decide +kernel
theorem dX12_readLine_160 : decode cX12_readLine 160 = .ok (.getfield 31, 3) := by decide +kernel
theorem dX12_readLine_163 : decode cX12_readLine 163 = .ok (.iload_n 2, 1) := by decide +kernel
theorem dX12_readLine_164 : decode cX12_readLine 164 = .ok (.iaload, 1) := by decide +kernel
theorem dX12_readLine_165 : decode cX12_readLine 165 = .ok (.ifCond .lt 11, 3) := by decide +kernel
theorem dX12_readLine_168 : decode cX12_readLine 168 = .ok (.aload_n 0, 1) := by decide +kernel
theorem dX12_readLine_169 : decode cX12_readLine 169 = .ok (.iload_n 2, 1) := by decide +kernel
theorem dX12_readLine_170 : decode cX12_readLine 170 = .ok (.invokevirtual 234, 3) := by decide +kernel
theorem dX12_readLine_173 : decode cX12_readLine 173 = .ok (.ifCond .ne 5, 3) := by decide +kernel
theorem dX12_readLine_176 : decode cX12_readLine 176 = .ok (.iconst 0, 1) := by decide +kernel
theorem dX12_readLine_177 : decode cX12_readLine 177 = .ok (.ireturn, 1) := by decide +kernel
theorem dX12_readLine_178 : decode cX12_readLine 178 = .ok (.aload_n 0, 1) := by decide +kernel
theorem dX12_readLine_179 : decode cX12_readLine 179 = .ok (.getfield 31, 3) := by decide +kernel
theorem dX12_readLine_182 : decode cX12_readLine 182 = .ok (.iload_n 2, 1) := by decide +kernel
theorem dX12_readLine_183 : decode cX12_readLine 183 = .ok (.iconst 5, 1) := by decide +kernel
theorem dX12_readLine_184 : decode cX12_readLine 184 = .ok (.iadd, 1) := by decide +kernel
theorem dX12_readLine_185 : decode cX12_readLine 185 = .ok (.aload_n 0, 1) := by decide +kernel
theorem dX12_readLine_186 : decode cX12_readLine 186 = .ok (.getfield 144, 3) := by decide +kernel
theorem dX12_readLine_189 : decode cX12_readLine 189 = .ok (.iastore, 1) := by decide +kernel
theorem dX12_readLine_190 : decode cX12_readLine 190 = .ok (.iconst 1, 1) := by decide +kernel
theorem dX12_readLine_191 : decode cX12_readLine 191 = .ok (.ireturn, 1) := by decide +kernel
theorem dX12_readAll_0 : decode cX12_readAll 0 = .ok (.aload_n 0, 1) := by decide +kernel
theorem dX12_readAll_1 : decode cX12_readAll 1 = .ok (.iconst 0, 1) := by decide +kernel
theorem dX12_readAll_2 : decode cX12_readAll 2 = .ok (.putfield 109, 3) := by decide +kernel
theorem dX12_readAll_5 : decode cX12_readAll 5 = .ok (.aload_n 0, 1) := by decide +kernel
theorem dX12_readAll_6 : decode cX12_readAll 6 = .ok (.iconst 0, 1) := by decide +kernel
theorem dX12_readAll_7 : decode cX12_readAll 7 = .ok (.putfield 144, 3) := by decide +kernel
theorem dX12_readAll_10 : decode cX12_readAll 10 = .ok (.aload_n 0, 1) := by decide +kernel
theorem dX12_readAll_11 : decode cX12_readAll 11 = .ok (.lconst 0, 1) := by decide +kernel
theorem dX12_readAll_12 : decode cX12_readAll 12 = .ok (.putfield 151, 3) := by decide +kernel
theorem dX12_readAll_15 : decode cX12_readAll 15 = .ok (.aload_n 0, 1) := by decide +kernel
theorem dX12_readAll_16 : decode cX12_readAll 16 = .ok (.lconst 0, 1) := by decide +kernel
theorem dX12_readAll_17 : decode cX12_readAll 17 = .ok (.putfield 147, 3) := by decide +kernel
theorem dX12_readAll_20 : decode cX12_readAll 20 = .ok (.aload_n 0, 1) := by decide +kernel
theorem dX12_readAll_21 : decode cX12_readAll 21 = .ok (.invokevirtual 122, 3) := by decide +kernel
theorem dX12_readAll_24 : decode cX12_readAll 24 = .ok (.aload_n 0, 1) := by decide +kernel
theorem dX12_readAll_25 : decode cX12_readAll 25 = .ok (.getfield 109, 3) := by decide +kernel
theorem dX12_readAll_28 : decode cX12_readAll 28 = .ok (.aload_n 0, 1) := by decide +kernel
theorem dX12_readAll_29 : decode cX12_readAll 29 = .ok (.getfield 112, 3) := by decide +kernel
theorem dX12_readAll_32 : decode cX12_readAll 32 = .ok (.if_icmp .ne 5, 3) := by decide +kernel
theorem dX12_readAll_35 : decode cX12_readAll 35 = .ok (.iconst 0, 1) := by decide +kernel
theorem dX12_readAll_36 : decode cX12_readAll 36 = .ok (.ireturn, 1) := by decide +kernel
theorem dX12_readAll_37 : decode cX12_readAll 37 = .ok (.iconst 0, 1) := by decide +kernel
theorem dX12_readAll_38 : decode cX12_readAll 38 = .ok (.istore_n 1, 1) := by decide +kernel
theorem dX12_readAll_39 : decode cX12_readAll 39 = .ok (.aload_n 0, 1) := by decide +kernel
theorem dX12_readAll_40 : decode cX12_readAll 40 = .ok (.iload_n 1, 1) := by decide +kernel
theorem dX12_readAll_41 : decode cX12_readAll 41 = .ok (.invokevirtual 237, 3) := by decide +kernel
theorem dX12_readAll_44 : decode cX12_readAll 44 = .ok (.ifCond .ne 5, 3) := by decide +kernel
theorem dX12_readAll_47 : decode cX12_readAll 47 = .ok (.iconst (-1), 1) := by decide +kernel
theorem dX12_readAll_48 : decode cX12_readAll 48 = .ok (.ireturn, 1) := by decide +kernel
theorem dX12_readAll_49 : decode cX12_readAll 49 = .ok (.aload_n 0, 1) := by decide +kernel
theorem dX12_readAll_50 : decode cX12_readAll 50 = .ok (.invokevirtual 122, 3) := by decide +kernel
theorem dX12_readAll_53 : decode cX12_readAll 53 = .ok (.aload_n 0, 1) := by decide +kernel
theorem dX12_readAll_54 : decode cX12_readAll 54 = .ok (.getfield 109, 3) := by decide +kernel
theorem dX12_readAll_57 : decode cX12_readAll 57 = .ok (.aload_n 0, 1) := by decide +kernel
theorem dX12_readAll_58 : decode cX12_readAll 58 = .ok (.getfield 112, 3) := by decide +kernel
theorem dX12_readAll_61 : decode cX12_readAll 61 = .ok (.if_icmp .ne 7, 3) := by decide +kernel
theorem dX12_readAll_64 : decode cX12_readAll 64 = .ok (.iload_n 1, 1) := by decide +kernel
theorem dX12_readAll_65 : decode cX12_readAll 65 = .ok (.iconst 1, 1) := by decide +kernel
theorem dX12_readAll_66 : decode cX12_readAll 66 = .ok (.iadd, 1) := by decide +kernel
theorem dX12_readAll_67 : decode cX12_readAll 67 = .ok (.ireturn, 1) := by decide +kernel
theorem dX12_readAll_68 : decode cX12_readAll 68 = .ok (.aload_n 0, 1) := by decide +kernel
theorem dX12_readAll_69 : decode cX12_readAll 69 = .ok (.bipush 59, 2) := by decide +kernel
theorem dX12_readAll_71 : decode cX12_readAll 71 = .ok (.bipush 59, 2) := by decide +kernel
theorem dX12_readAll_73 : decode cX12_readAll 73 = .ok (.invokevirtual 115, 3) := by decide +kernel
theorem dX12_readAll_76 : decode cX12_readAll 76 = .ok (.ifCond .ne 5, 3) := by decide +kernel
theorem dX12_readAll_79 : decode cX12_readAll 79 = .ok (.iconst (-1), 1) := by decide +kernel
theorem dX12_readAll_80 : decode cX12_readAll 80 = .ok (.ireturn, 1) := by decide +kernel
theorem dX12_readAll_81 : decode cX12_readAll 81 = .ok (.aload_n 0, 1) := by decide +kernel
theorem dX12_readAll_82 : decode cX12_readAll 82 = .ok (.dup, 1) := by decide +kernel
theorem dX12_readAll_83 : decode cX12_readAll 83 = .ok (.getfield 109, 3) := by decide +kernel
theorem dX12_readAll_86 : decode cX12_readAll 86 = .ok (.iconst 1, 1) := by decide +kernel
theorem dX12_readAll_87 : decode cX12_readAll 87 = .ok (.iadd, 1) := by decide +kernel
theorem dX12_readAll_88 : decode cX12_readAll 88 = .ok (.putfield 109, 3) := by decide +kernel
theorem dX12_readAll_91 : decode cX12_readAll 91 = .ok (.iinc 1 1, 3) := by decide +kernel
theorem dX12_readAll_94 : decode cX12_readAll 94 = .ok (.goto (-55), 3) := by decide +kernel
theorem dX12_job_0 : decode cX12_job 0 = .ok (.aload_n 0, 1) := by decide +kernel
theorem dX12_job_1 : decode cX12_job 1 = .ok (.iconst 0, 1) := by decide +kernel
theorem dX12_job_2 : decode cX12_job 2 = .ok (.putfield 3, 3) := by decide +kernel
theorem dX12_job_5 : decode cX12_job 5 = .ok (.aload_n 0, 1) := by decide +kernel
theorem dX12_job_6 : decode cX12_job 6 = .ok (.aload_n 0, 1) := by decide +kernel
theorem dX12_job_7 : decode cX12_job 7 = .ok (.getfield 106, 3) := by decide +kernel
theorem dX12_job_10 : decode cX12_job 10 = .ok (.putfield 112, 3) := by decide +kernel
theorem dX12_job_13 : decode cX12_job 13 = .ok (.aload_n 0, 1) := by decide +kernel
theorem dX12_job_14 : decode cX12_job 14 = .ok (.iconst 0, 1) := by decide +kernel
theorem dX12_job_15 : decode cX12_job 15 = .ok (.putfield 106, 3) := by decide +kernel
theorem dX12_job_18 : decode cX12_job 18 = .ok (.aload_n 0, 1) := by decide +kernel
theorem dX12_job_19 : decode cX12_job 19 = .ok (.iload_n 1, 1) := by decide +kernel
theorem dX12_job_20 : decode cX12_job 20 = .ok (.iconst 1, 1) := by decide +kernel
theorem dX12_job_21 : decode cX12_job 21 = .ok (.bipush 60, 2) := by decide +kernel
theorem dX12_job_23 : decode cX12_job 23 = .ok (.invokestatic 61, 3) := by decide +kernel
theorem dX12_job_26 : decode cX12_job 26 = .ok (.ifCond .eq 36, 3) := by decide +kernel
theorem dX12_job_29 : decode cX12_job 29 = .ok (.iload_n 2, 1) := by decide +kernel
theorem dX12_job_30 : decode cX12_job 30 = .ok (.iconst 0, 1) := by decide +kernel
theorem dX12_job_31 : decode cX12_job 31 = .ok (.sipush 1000, 3) := by decide +kernel
theorem dX12_job_34 : decode cX12_job 34 = .ok (.invokestatic 61, 3) := by decide +kernel
theorem dX12_job_37 : decode cX12_job 37 = .ok (.ifCond .eq 25, 3) := by decide +kernel
theorem dX12_job_40 : decode cX12_job 40 = .ok (.iload_n 3, 1) := by decide +kernel
theorem dX12_job_41 : decode cX12_job 41 = .ok (.iconst 0, 1) := by decide +kernel
theorem dX12_job_42 : decode cX12_job 42 = .ok (.sipush 480, 3) := by decide +kernel
theorem dX12_job_45 : decode cX12_job 45 = .ok (.invokestatic 61, 3) := by decide +kernel
theorem dX12_job_48 : decode cX12_job 48 = .ok (.ifCond .eq 14, 3) := by decide +kernel
theorem dX12_job_51 : decode cX12_job 51 = .ok (.iload 4, 2) := by decide +kernel
theorem dX12_job_53 : decode cX12_job 53 = .ok (.iconst 0, 1) := by decide +kernel
theorem dX12_job_54 : decode cX12_job 54 = .ok (.bipush 60, 2) := by decide +kernel
theorem dX12_job_56 : decode cX12_job 56 = .ok (.invokestatic 61, 3) := by decide +kernel
theorem dX12_job_59 : decode cX12_job 59 = .ok (.ifCond .ne 7, 3) := by decide +kernel
theorem dX12_job_62 : decode cX12_job 62 = .ok (.iconst 1, 1) := by decide +kernel
theorem dX12_job_63 : decode cX12_job 63 = .ok (.goto 4, 3) := by decide +kernel
theorem dX12_job_66 : decode cX12_job 66 = .ok (.iconst 0, 1) := by decide +kernel
theorem dX12_job_67 : decode cX12_job 67 = .ok (.iconst 1, 1) := by decide +kernel
theorem dX12_job_68 : decode cX12_job 68 = .ok (.invokevirtual 65, 3) := by decide +kernel
theorem dX12_job_71 : decode cX12_job 71 = .ok (.ifCond .eq 5, 3) := by decide +kernel
theorem dX12_job_74 : decode cX12_job 74 = .ok (.iconst 0, 1) := by decide +kernel
theorem dX12_job_75 : decode cX12_job 75 = .ok (.ireturn, 1) := by decide +kernel
theorem dX12_job_76 : decode cX12_job 76 = .ok (.aload_n 0, 1) := by decide +kernel
theorem dX12_job_77 : decode cX12_job 77 = .ok (.invokevirtual 240, 3) := by decide +kernel
theorem dX12_job_80 : decode cX12_job 80 = .ok (.istore 6, 2) := by decide +kernel
theorem dX12_job_82 : decode cX12_job 82 = .ok (.aload_n 0, 1) := by decide +kernel
theorem dX12_job_83 : decode cX12_job 83 = .ok (.iload 6, 2) := by decide +kernel
theorem dX12_job_85 : decode cX12_job 85 = .ok (.ifCond .ge 10, 3) := by decide +kernel
theorem dX12_job_88 : decode cX12_job 88 = .ok (.aload_n 0, 1) := by decide +kernel
theorem dX12_job_89 : decode cX12_job 89 = .ok (.getfield 119, 3) := by decide +kernel
theorem dX12_job_92 : decode cX12_job 92 = .ok (.goto 4, 3) := by decide +kernel
theorem dX12_job_95 : decode cX12_job 95 = .ok (.iconst (-1), 1) := by decide +kernel
theorem dX12_job_96 : decode cX12_job 96 = .ok (.putfield 25, 3) := by decide +kernel
theorem dX12_job_99 : decode cX12_job 99 = .ok (.aload_n 0, 1) := by decide +kernel
theorem dX12_job_100 : decode cX12_job 100 = .ok (.iload 6, 2) := by decide +kernel
theorem dX12_job_102 : decode cX12_job 102 = .ok (.ifCond .ge 7, 3) := by decide +kernel
theorem dX12_job_105 : decode cX12_job 105 = .ok (.iconst 1, 1) := by decide +kernel
theorem dX12_job_106 : decode cX12_job 106 = .ok (.goto 4, 3) := by decide +kernel
theorem dX12_job_109 : decode cX12_job 109 = .ok (.iconst 0, 1) := by decide +kernel
theorem dX12_job_110 : decode cX12_job 110 = .ok (.iconst 1, 1) := by decide +kernel
theorem dX12_job_111 : decode cX12_job 111 = .ok (.invokevirtual 65, 3) := by decide +kernel
theorem dX12_job_114 : decode cX12_job 114 = .ok (.ifCond .ne 28, 3) := by decide +kernel
theorem dX12_job_117 : decode cX12_job 117 = .ok (.aload_n 0, 1) := by decide +kernel
theorem dX12_job_118 : decode cX12_job 118 = .ok (.aload_n 0, 1) := by decide +kernel
theorem dX12_job_119 : decode cX12_job 119 = .ok (.getfield 14, 3) := by decide +kernel
theorem dX12_job_122 : decode cX12_job 122 = .ok (.bipush 8, 2) := by decide +kernel
theorem dX12_job_124 : decode cX12_job 124 = .ok (.iaload, 1) := by decide +kernel
theorem dX12_job_125 : decode cX12_job 125 = .ok (.bipush 12, 2) := by decide +kernel
theorem dX12_job_127 : decode cX12_job 127 = .ok (.if_icmp .ne 7, 3) := by decide +kernel
theorem dX12_job_130 : decode cX12_job 130 = .ok (.iconst 1, 1) := by decide +kernel
theorem dX12_job_131 : decode cX12_job 131 = .ok (.goto 4, 3) := by decide +kernel
theorem dX12_job_134 : decode cX12_job 134 = .ok (.iconst 0, 1) := by decide +kernel
theorem dX12_job_135 : decode cX12_job 135 = .ok (.iconst 2, 1) := by decide +kernel
theorem dX12_job_136 : decode cX12_job 136 = .ok (.invokevirtual 65, 3) := by decide +kernel
theorem dX12_job_139 : decode cX12_job 139 = .ok (.ifCond .eq 5, 3) := by decide +kernel
theorem dX12_job_142 : decode cX12_job 142 = .ok (.iconst 0, 1) := by decide +kernel
theorem dX12_job_143 : decode cX12_job 143 = .ok (.ireturn, 1) := by decide +kernel
theorem dX12_job_144 : decode cX12_job 144 = .ok (.aload_n 0, 1) := by decide +kernel
theorem dX12_job_145 : decode cX12_job 145 = .ok (.getfield 14, 3) := by decide +kernel
theorem dX12_job_148 : decode cX12_job 148 = .ok (.bipush 8, 2) := by decide +kernel
theorem dX12_job_150 : decode cX12_job 150 = .ok (.iaload, 1) := by decide +kernel
theorem dX12_job_151 : decode cX12_job 151 = .ok (.istore 7, 2) := by decide +kernel
theorem dX12_job_153 : decode cX12_job 153 = .ok (.aload_n 0, 1) := by decide +kernel
theorem dX12_job_154 : decode cX12_job 154 = .ok (.getfield 14, 3) := by decide +kernel
theorem dX12_job_157 : decode cX12_job 157 = .ok (.bipush 8, 2) := by decide +kernel
theorem dX12_job_159 : decode cX12_job 159 = .ok (.dup2, 1) := by decide +kernel
theorem dX12_job_160 : decode cX12_job 160 = .ok (.iaload, 1) := by decide +kernel
theorem dX12_job_161 : decode cX12_job 161 = .ok (.iconst 1, 1) := by decide +kernel
theorem dX12_job_162 : decode cX12_job 162 = .ok (.iadd, 1) := by decide +kernel
theorem dX12_job_163 : decode cX12_job 163 = .ok (.iastore, 1) := by decide +kernel
theorem dX12_job_164 : decode cX12_job 164 = .ok (.iconst 0, 1) := by decide +kernel
theorem dX12_job_165 : decode cX12_job 165 = .ok (.istore 8, 2) := by decide +kernel
theorem dX12_job_167 : decode cX12_job 167 = .ok (.iload 8, 2) := by decide +kernel
theorem dX12_job_169 : decode cX12_job 169 = .ok (.sipush 882, 3) := by decide +kernel
theorem dX12_job_172 : decode cX12_job 172 = .ok (.if_icmp .ge 39, 3) := by decide +kernel
theorem dX12_job_175 : decode cX12_job 175 = .ok (.aload_n 0, 1) := by decide +kernel
theorem dX12_job_176 : decode cX12_job 176 = .ok (.getfield 14, 3) := by decide +kernel
theorem dX12_job_179 : decode cX12_job 179 = .ok (.iload 7, 2) := by decide +kernel
theorem dX12_job_181 : decode cX12_job 181 = .ok (.iload 8, 2) := by decide +kernel
theorem dX12_job_183 : decode cX12_job 183 = .ok (.invokestatic 141, 3) := by decide +kernel
theorem dX12_job_186 : decode cX12_job 186 = .ok (.iload 8, 2) := by decide +kernel
theorem dX12_job_188 : decode cX12_job 188 = .ok (.bipush 22, 2) := by decide +kernel
theorem dX12_job_190 : decode cX12_job 190 = .ok (.if_icmp .ge 7, 3) := by decide +kernel
theorem dX12_job_193 : decode cX12_job 193 = .ok (.iconst 0, 1) := by decide +kernel
theorem dX12_job_194 : decode cX12_job 194 = .ok (.goto 10, 3) := by decide +kernel
theorem dX12_job_197 : decode cX12_job 197 = .ok (.aload_n 0, 1) := by decide +kernel
theorem dX12_job_198 : decode cX12_job 198 = .ok (.getfield 31, 3) := by decide +kernel
theorem dX12_job_201 : decode cX12_job 201 = .ok (.iload 8, 2) := by decide +kernel
theorem dX12_job_203 : decode cX12_job 203 = .ok (.iaload, 1) := by decide +kernel
theorem dX12_job_204 : decode cX12_job 204 = .ok (.iastore, 1) := by decide +kernel
theorem dX12_job_205 : decode cX12_job 205 = .ok (.iinc 8 1, 3) := by decide +kernel
theorem dX12_job_208 : decode cX12_job 208 = .ok (.goto (-41), 3) := by decide +kernel
theorem dX12_job_211 : decode cX12_job 211 = .ok (.aload_n 0, 1) := by decide +kernel
theorem dX12_job_212 : decode cX12_job 212 = .ok (.iload 7, 2) := by decide +kernel
theorem dX12_job_214 : decode cX12_job 214 = .ok (.iconst 0, 1) := by decide +kernel
theorem dX12_job_215 : decode cX12_job 215 = .ok (.iload_n 1, 1) := by decide +kernel
theorem dX12_job_216 : decode cX12_job 216 = .ok (.invokevirtual 243, 3) := by decide +kernel
theorem dX12_job_219 : decode cX12_job 219 = .ok (.aload_n 0, 1) := by decide +kernel
theorem dX12_job_220 : decode cX12_job 220 = .ok (.iload 7, 2) := by decide +kernel
theorem dX12_job_222 : decode cX12_job 222 = .ok (.iconst 1, 1) := by decide +kernel
theorem dX12_job_223 : decode cX12_job 223 = .ok (.iload_n 2, 1) := by decide +kernel
theorem dX12_job_224 : decode cX12_job 224 = .ok (.invokevirtual 243, 3) := by decide +kernel
theorem dX12_job_227 : decode cX12_job 227 = .ok (.aload_n 0, 1) := by decide +kernel
theorem dX12_job_228 : decode cX12_job 228 = .ok (.iload 7, 2) := by decide +kernel
theorem dX12_job_230 : decode cX12_job 230 = .ok (.iconst 2, 1) := by decide +kernel
theorem dX12_job_231 : decode cX12_job 231 = .ok (.iload_n 3, 1) := by decide +kernel
theorem dX12_job_232 : decode cX12_job 232 = .ok (.invokevirtual 243, 3) := by decide +kernel
theorem dX12_job_235 : decode cX12_job 235 = .ok (.aload_n 0, 1) := by decide +kernel
theorem dX12_job_236 : decode cX12_job 236 = .ok (.iload 7, 2) := by decide +kernel
theorem dX12_job_238 : decode cX12_job 238 = .ok (.iconst 3, 1) := by decide +kernel
theorem dX12_job_239 : decode cX12_job 239 = .ok (.iload 4, 2) := by decide +kernel
theorem dX12_job_241 : decode cX12_job 241 = .ok (.invokevirtual 243, 3) := by decide +kernel
theorem dX12_job_244 : decode cX12_job 244 = .ok (.aload_n 0, 1) := by decide +kernel
theorem dX12_job_245 : decode cX12_job 245 = .ok (.iload 7, 2) := by decide +kernel
theorem dX12_job_247 : decode cX12_job 247 = .ok (.iconst 4, 1) := by decide +kernel
theorem dX12_job_248 : decode cX12_job 248 = .ok (.iload 5, 2) := by decide +kernel
theorem dX12_job_250 : decode cX12_job 250 = .ok (.ifCond .eq 7, 3) := by decide +kernel
theorem dX12_job_253 : decode cX12_job 253 = .ok (.iconst 1, 1) := by decide +kernel
theorem dX12_job_254 : decode cX12_job 254 = .ok (.goto 4, 3) := by decide +kernel
theorem dX12_job_257 : decode cX12_job 257 = .ok (.iconst 0, 1) := by decide +kernel
theorem dX12_job_258 : decode cX12_job 258 = .ok (.invokevirtual 243, 3) := by decide +kernel
theorem dX12_job_261 : decode cX12_job 261 = .ok (.aload_n 0, 1) := by decide +kernel
theorem dX12_job_262 : decode cX12_job 262 = .ok (.iload 7, 2) := by decide +kernel
theorem dX12_job_264 : decode cX12_job 264 = .ok (.bipush 12, 2) := by decide +kernel
theorem dX12_job_266 : decode cX12_job 266 = .ok (.iconst (-1), 1) := by decide +kernel
theorem dX12_job_267 : decode cX12_job 267 = .ok (.invokevirtual 243, 3) := by decide +kernel
theorem dX12_job_270 : decode cX12_job 270 = .ok (.aload_n 0, 1) := by decide +kernel
theorem dX12_job_271 : decode cX12_job 271 = .ok (.iload 7, 2) := by decide +kernel
theorem dX12_job_273 : decode cX12_job 273 = .ok (.bipush 16, 2) := by decide +kernel
theorem dX12_job_275 : decode cX12_job 275 = .ok (.iload 6, 2) := by decide +kernel
theorem dX12_job_277 : decode cX12_job 277 = .ok (.invokevirtual 243, 3) := by decide +kernel
theorem dX12_job_280 : decode cX12_job 280 = .ok (.aload_n 0, 1) := by decide +kernel
theorem dX12_job_281 : decode cX12_job 281 = .ok (.iload 7, 2) := by decide +kernel
theorem dX12_job_283 : decode cX12_job 283 = .ok (.bipush 17, 2) := by decide +kernel
theorem dX12_job_285 : decode cX12_job 285 = .ok (.aload_n 0, 1) := by decide +kernel
theorem dX12_job_286 : decode cX12_job 286 = .ok (.getfield 147, 3) := by decide +kernel
theorem dX12_job_289 : decode cX12_job 289 = .ok (.l2i, 1) := by decide +kernel
theorem dX12_job_290 : decode cX12_job 290 = .ok (.invokevirtual 243, 3) := by decide +kernel
theorem dX12_job_293 : decode cX12_job 293 = .ok (.aload_n 0, 1) := by decide +kernel
theorem dX12_job_294 : decode cX12_job 294 = .ok (.iload 7, 2) := by decide +kernel
theorem dX12_job_296 : decode cX12_job 296 = .ok (.bipush 18, 2) := by decide +kernel
theorem dX12_job_298 : decode cX12_job 298 = .ok (.aload_n 0, 1) := by decide +kernel
theorem dX12_job_299 : decode cX12_job 299 = .ok (.getfield 147, 3) := by decide +kernel
theorem dX12_job_302 : decode cX12_job 302 = .ok (.bipush 32, 2) := by decide +kernel
theorem dX12_job_304 : decode cX12_job 304 = .ok (.lushr, 1) := by decide +kernel
theorem dX12_job_305 : decode cX12_job 305 = .ok (.l2i, 1) := by decide +kernel
theorem dX12_job_306 : decode cX12_job 306 = .ok (.invokevirtual 243, 3) := by decide +kernel
theorem dX12_job_309 : decode cX12_job 309 = .ok (.aload_n 0, 1) := by decide +kernel
theorem dX12_job_310 : decode cX12_job 310 = .ok (.iload 7, 2) := by decide +kernel
theorem dX12_job_312 : decode cX12_job 312 = .ok (.bipush 19, 2) := by decide +kernel
theorem dX12_job_314 : decode cX12_job 314 = .ok (.aload_n 0, 1) := by decide +kernel
theorem dX12_job_315 : decode cX12_job 315 = .ok (.getfield 151, 3) := by decide +kernel
theorem dX12_job_318 : decode cX12_job 318 = .ok (.l2i, 1) := by decide +kernel
theorem dX12_job_319 : decode cX12_job 319 = .ok (.invokevirtual 243, 3) := by decide +kernel
theorem dX12_job_322 : decode cX12_job 322 = .ok (.aload_n 0, 1) := by decide +kernel
theorem dX12_job_323 : decode cX12_job 323 = .ok (.iload 7, 2) := by decide +kernel
theorem dX12_job_325 : decode cX12_job 325 = .ok (.bipush 20, 2) := by decide +kernel
theorem dX12_job_327 : decode cX12_job 327 = .ok (.aload_n 0, 1) := by decide +kernel
theorem dX12_job_328 : decode cX12_job 328 = .ok (.getfield 151, 3) := by decide +kernel
theorem dX12_job_331 : decode cX12_job 331 = .ok (.bipush 32, 2) := by decide +kernel
theorem dX12_job_333 : decode cX12_job 333 = .ok (.lushr, 1) := by decide +kernel
theorem dX12_job_334 : decode cX12_job 334 = .ok (.l2i, 1) := by decide +kernel
theorem dX12_job_335 : decode cX12_job 335 = .ok (.invokevirtual 243, 3) := by decide +kernel
theorem dX12_job_338 : decode cX12_job 338 = .ok (.iload 7, 2) := by decide +kernel
theorem dX12_job_340 : decode cX12_job 340 = .ok (.ireturn, 1) := by decide +kernel
theorem dX12_shorter_0 : decode cX12_shorter 0 = .ok (.aload_n 0, 1) := by decide +kernel
theorem dX12_shorter_1 : decode cX12_shorter 1 = .ok (.iconst 0, 1) := by decide +kernel
theorem dX12_shorter_2 : decode cX12_shorter 2 = .ok (.putfield 3, 3) := by decide +kernel
theorem dX12_shorter_5 : decode cX12_shorter 5 = .ok (.aload_n 0, 1) := by decide +kernel
theorem dX12_shorter_6 : decode cX12_shorter 6 = .ok (.aload_n 0, 1) := by decide +kernel
theorem dX12_shorter_7 : decode cX12_shorter 7 = .ok (.iload_n 1, 1) := by decide +kernel
theorem dX12_shorter_8 : decode cX12_shorter 8 = .ok (.invokevirtual 247, 3) := by decide +kernel
theorem dX12_shorter_11 : decode cX12_shorter 11 = .ok (.iconst 1, 1) := by decide +kernel
theorem dX12_shorter_12 : decode cX12_shorter 12 = .ok (.invokevirtual 65, 3) := by decide +kernel
theorem dX12_shorter_15 : decode cX12_shorter 15 = .ok (.ifCond .ne 51, 3) := by decide +kernel
theorem dX12_shorter_18 : decode cX12_shorter 18 = .ok (.aload_n 0, 1) := by decide +kernel
theorem dX12_shorter_19 : decode cX12_shorter 19 = .ok (.iload_n 2, 1) := by decide +kernel
theorem dX12_shorter_20 : decode cX12_shorter 20 = .ok (.iconst 0, 1) := by decide +kernel
theorem dX12_shorter_21 : decode cX12_shorter 21 = .ok (.bipush 60, 2) := by decide +kernel
theorem dX12_shorter_23 : decode cX12_shorter 23 = .ok (.invokestatic 61, 3) := by decide +kernel
theorem dX12_shorter_26 : decode cX12_shorter 26 = .ok (.ifCond .eq 28, 3) := by decide +kernel
theorem dX12_shorter_29 : decode cX12_shorter 29 = .ok (.iload_n 3, 1) := by decide +kernel
theorem dX12_shorter_30 : decode cX12_shorter 30 = .ok (.iconst 0, 1) := by decide +kernel
theorem dX12_shorter_31 : decode cX12_shorter 31 = .ok (.sipush 1000, 3) := by decide +kernel
theorem dX12_shorter_34 : decode cX12_shorter 34 = .ok (.invokestatic 61, 3) := by decide +kernel
theorem dX12_shorter_37 : decode cX12_shorter 37 = .ok (.ifCond .eq 17, 3) := by decide +kernel
theorem dX12_shorter_40 : decode cX12_shorter 40 = .ok (.iload 4, 2) := by decide +kernel
theorem dX12_shorter_42 : decode cX12_shorter 42 = .ok (.sipush (-9999), 3) := by decide +kernel
theorem dX12_shorter_45 : decode cX12_shorter 45 = .ok (.sipush 9999, 3) := by decide +kernel
theorem dX12_shorter_48 : decode cX12_shorter 48 = .ok (.invokestatic 61, 3) := by decide +kernel
theorem dX12_shorter_51 : decode cX12_shorter 51 = .ok (.ifCond .ne 7, 3) := by decide +kernel
theorem dX12_shorter_54 : decode cX12_shorter 54 = .ok (.iconst 1, 1) := by decide +kernel
theorem dX12_shorter_55 : decode cX12_shorter 55 = .ok (.goto 4, 3) := by decide +kernel
theorem dX12_shorter_58 : decode cX12_shorter 58 = .ok (.iconst 0, 1) := by decide +kernel
theorem dX12_shorter_59 : decode cX12_shorter 59 = .ok (.iconst 2, 1) := by decide +kernel
theorem dX12_shorter_60 : decode cX12_shorter 60 = .ok (.invokevirtual 65, 3) := by decide +kernel
theorem dX12_shorter_63 : decode cX12_shorter 63 = .ok (.ifCond .eq 4, 3) := by decide +kernel
theorem dX12_shorter_66 : decode cX12_shorter 66 = .ok (.return_, 1) := by decide +kernel
theorem dX12_shorter_67 : decode cX12_shorter 67 = .ok (.aload_n 0, 1) := by decide +kernel
theorem dX12_shorter_68 : decode cX12_shorter 68 = .ok (.iload_n 1, 1) := by decide +kernel
theorem dX12_shorter_69 : decode cX12_shorter 69 = .ok (.iconst 5, 1) := by decide +kernel
theorem dX12_shorter_70 : decode cX12_shorter 70 = .ok (.iload_n 2, 1) := by decide +kernel
theorem dX12_shorter_71 : decode cX12_shorter 71 = .ok (.invokevirtual 243, 3) := by decide +kernel
theorem dX12_shorter_74 : decode cX12_shorter 74 = .ok (.aload_n 0, 1) := by decide +kernel
theorem dX12_shorter_75 : decode cX12_shorter 75 = .ok (.iload_n 1, 1) := by decide +kernel
theorem dX12_shorter_76 : decode cX12_shorter 76 = .ok (.bipush 6, 2) := by decide +kernel
theorem dX12_shorter_78 : decode cX12_shorter 78 = .ok (.iload_n 3, 1) := by decide +kernel
theorem dX12_shorter_79 : decode cX12_shorter 79 = .ok (.invokevirtual 243, 3) := by decide +kernel
theorem dX12_shorter_82 : decode cX12_shorter 82 = .ok (.aload_n 0, 1) := by decide +kernel
theorem dX12_shorter_83 : decode cX12_shorter 83 = .ok (.iload_n 1, 1) := by decide +kernel
theorem dX12_shorter_84 : decode cX12_shorter 84 = .ok (.bipush 7, 2) := by decide +kernel
theorem dX12_shorter_86 : decode cX12_shorter 86 = .ok (.iload 4, 2) := by decide +kernel
theorem dX12_shorter_88 : decode cX12_shorter 88 = .ok (.invokevirtual 243, 3) := by decide +kernel
theorem dX12_shorter_91 : decode cX12_shorter 91 = .ok (.return_, 1) := by decide +kernel
theorem dX12_bitsOf_0 : decode cX12_bitsOf 0 = .ok (.aload_n 0, 1) := by decide +kernel
theorem dX12_bitsOf_1 : decode cX12_bitsOf 1 = .ok (.iload_n 1, 1) := by decide +kernel
theorem dX12_bitsOf_2 : decode cX12_bitsOf 2 = .ok (.iload_n 2, 1) := by decide +kernel
theorem dX12_bitsOf_3 : decode cX12_bitsOf 3 = .ok (.invokevirtual 250, 3) := by decide +kernel
theorem dX12_bitsOf_6 : decode cX12_bitsOf 6 = .ok (.i2l, 1) := by decide +kernel
theorem dX12_bitsOf_7 : decode cX12_bitsOf 7 = .ok (.ldc2_w 253, 3) := by decide +kernel
theorem dX12_bitsOf_10 : decode cX12_bitsOf 10 = .ok (.land, 1) := by decide +kernel
theorem dX12_bitsOf_11 : decode cX12_bitsOf 11 = .ok (.aload_n 0, 1) := by decide +kernel
theorem dX12_bitsOf_12 : decode cX12_bitsOf 12 = .ok (.iload_n 1, 1) := by decide +kernel
theorem dX12_bitsOf_13 : decode cX12_bitsOf 13 = .ok (.iload_n 2, 1) := by decide +kernel
theorem dX12_bitsOf_14 : decode cX12_bitsOf 14 = .ok (.iconst 1, 1) := by decide +kernel
theorem dX12_bitsOf_15 : decode cX12_bitsOf 15 = .ok (.iadd, 1) := by decide +kernel
theorem dX12_bitsOf_16 : decode cX12_bitsOf 16 = .ok (.invokevirtual 250, 3) := by decide +kernel
theorem dX12_bitsOf_19 : decode cX12_bitsOf 19 = .ok (.i2l, 1) := by decide +kernel
theorem dX12_bitsOf_20 : decode cX12_bitsOf 20 = .ok (.bipush 32, 2) := by decide +kernel
theorem dX12_bitsOf_22 : decode cX12_bitsOf 22 = .ok (.lshl, 1) := by decide +kernel
theorem dX12_bitsOf_23 : decode cX12_bitsOf 23 = .ok (.lor, 1) := by decide +kernel
theorem dX12_bitsOf_24 : decode cX12_bitsOf 24 = .ok (.lreturn, 1) := by decide +kernel
theorem dX12_words_0 : decode cX12_words 0 = .ok (.aload_n 0, 1) := by decide +kernel
theorem dX12_words_1 : decode cX12_words 1 = .ok (.iconst 0, 1) := by decide +kernel
theorem dX12_words_2 : decode cX12_words 2 = .ok (.putfield 3, 3) := by decide +kernel
theorem dX12_words_5 : decode cX12_words 5 = .ok (.aload_n 0, 1) := by decide +kernel
theorem dX12_words_6 : decode cX12_words 6 = .ok (.aload_n 0, 1) := by decide +kernel
theorem dX12_words_7 : decode cX12_words 7 = .ok (.iload_n 1, 1) := by decide +kernel
theorem dX12_words_8 : decode cX12_words 8 = .ok (.invokevirtual 247, 3) := by decide +kernel
theorem dX12_words_11 : decode cX12_words 11 = .ok (.iconst 1, 1) := by decide +kernel
theorem dX12_words_12 : decode cX12_words 12 = .ok (.invokevirtual 65, 3) := by decide +kernel
theorem dX12_words_15 : decode cX12_words 15 = .ok (.ifCond .eq 7, 3) := by decide +kernel
theorem dX12_words_18 : decode cX12_words 18 = .ok (.lconst 0, 1) := by decide +kernel
theorem dX12_words_19 : decode cX12_words 19 = .ok (.goto 19, 3) := by decide +kernel
theorem dX12_words_22 : decode cX12_words 22 = .ok (.aload_n 0, 1) := by decide +kernel
theorem dX12_words_23 : decode cX12_words 23 = .ok (.iload_n 1, 1) := by decide +kernel
theorem dX12_words_24 : decode cX12_words 24 = .ok (.iload_n 2, 1) := by decide +kernel
theorem dX12_words_25 : decode cX12_words 25 = .ok (.ifCond .eq 8, 3) := by decide +kernel
theorem dX12_words_28 : decode cX12_words 28 = .ok (.bipush 19, 2) := by decide +kernel
theorem dX12_words_30 : decode cX12_words 30 = .ok (.goto 5, 3) := by decide +kernel
theorem dX12_words_33 : decode cX12_words 33 = .ok (.bipush 17, 2) := by decide +kernel
theorem dX12_words_35 : decode cX12_words 35 = .ok (.invokevirtual 255, 3) := by decide +kernel
theorem dX12_words_38 : decode cX12_words 38 = .ok (.lreturn, 1) := by decide +kernel
theorem dX12_leansOf_0 : decode cX12_leansOf 0 = .ok (.iconst 0, 1) := by decide +kernel
theorem dX12_leansOf_1 : decode cX12_leansOf 1 = .ok (.istore_n 2, 1) := by decide +kernel
theorem dX12_leansOf_2 : decode cX12_leansOf 2 = .ok (.iconst 0, 1) := by decide +kernel
theorem dX12_leansOf_3 : decode cX12_leansOf 3 = .ok (.istore_n 3, 1) := by decide +kernel
theorem dX12_leansOf_4 : decode cX12_leansOf 4 = .ok (.iload_n 3, 1) := by decide +kernel
theorem dX12_leansOf_5 : decode cX12_leansOf 5 = .ok (.aload_n 0, 1) := by decide +kernel
theorem dX12_leansOf_6 : decode cX12_leansOf 6 = .ok (.getfield 14, 3) := by decide +kernel
theorem dX12_leansOf_9 : decode cX12_leansOf 9 = .ok (.bipush 8, 2) := by decide +kernel
theorem dX12_leansOf_11 : decode cX12_leansOf 11 = .ok (.iaload, 1) := by decide +kernel
theorem dX12_leansOf_12 : decode cX12_leansOf 12 = .ok (.if_icmp .ge 44, 3) := by decide +kernel
theorem dX12_leansOf_15 : decode cX12_leansOf 15 = .ok (.iload_n 2, 1) := by decide +kernel
theorem dX12_leansOf_16 : decode cX12_leansOf 16 = .ok (.iload_n 3, 1) := by decide +kernel
theorem dX12_leansOf_17 : decode cX12_leansOf 17 = .ok (.iload_n 1, 1) := by decide +kernel
theorem dX12_leansOf_18 : decode cX12_leansOf 18 = .ok (.if_icmp .eq 29, 3) := by decide +kernel
theorem dX12_leansOf_21 : decode cX12_leansOf 21 = .ok (.aload_n 0, 1) := by decide +kernel
theorem dX12_leansOf_22 : decode cX12_leansOf 22 = .ok (.iload_n 1, 1) := by decide +kernel
theorem dX12_leansOf_23 : decode cX12_leansOf 23 = .ok (.bipush 17, 2) := by decide +kernel
theorem dX12_leansOf_25 : decode cX12_leansOf 25 = .ok (.invokevirtual 255, 3) := by decide +kernel
theorem dX12_leansOf_28 : decode cX12_leansOf 28 = .ok (.aload_n 0, 1) := by decide +kernel
theorem dX12_leansOf_29 : decode cX12_leansOf 29 = .ok (.iload_n 3, 1) := by decide +kernel
theorem dX12_leansOf_30 : decode cX12_leansOf 30 = .ok (.bipush 19, 2) := by decide +kernel
theorem dX12_leansOf_32 : decode cX12_leansOf 32 = .ok (.invokevirtual 255, 3) := by decide +kernel
theorem dX12_leansOf_35 : decode cX12_leansOf 35 = .ok (.land, 1) := by decide +kernel
theorem dX12_leansOf_36 : decode cX12_leansOf 36 = .ok (.lconst 0, 1) := by decide +kernel
theorem dX12_leansOf_37 : decode cX12_leansOf 37 = .ok (.lcmp, 1) := by decide +kernel
theorem dX12_leansOf_38 : decode cX12_leansOf 38 = .ok (.ifCond .eq 9, 3) := by decide +kernel
theorem dX12_leansOf_41 : decode cX12_leansOf 41 = .ok (.iconst 1, 1) := by decide +kernel
theorem dX12_leansOf_42 : decode cX12_leansOf 42 = .ok (.iload_n 3, 1) := by decide +kernel
theorem dX12_leansOf_43 : decode cX12_leansOf 43 = .ok (.ishl, 1) := by decide +kernel
theorem dX12_leansOf_44 : decode cX12_leansOf 44 = .ok (.goto 4, 3) := by decide +kernel
theorem dX12_leansOf_47 : decode cX12_leansOf 47 = .ok (.iconst 0, 1) := by decide +kernel
theorem dX12_leansOf_48 : decode cX12_leansOf 48 = .ok (.ior, 1) := by decide +kernel
theorem dX12_leansOf_49 : decode cX12_leansOf 49 = .ok (.istore_n 2, 1) := by decide +kernel
theorem dX12_leansOf_50 : decode cX12_leansOf 50 = .ok (.iinc 3 1, 3) := by decide +kernel
theorem dX12_leansOf_53 : decode cX12_leansOf 53 = .ok (.goto (-49), 3) := by decide +kernel
theorem dX12_leansOf_56 : decode cX12_leansOf 56 = .ok (.iload_n 2, 1) := by decide +kernel
theorem dX12_leansOf_57 : decode cX12_leansOf 57 = .ok (.ireturn, 1) := by decide +kernel
theorem dX12_leans_0 : decode cX12_leans 0 = .ok (.aload_n 0, 1) := by decide +kernel
theorem dX12_leans_1 : decode cX12_leans 1 = .ok (.iconst 0, 1) := by decide +kernel
theorem dX12_leans_2 : decode cX12_leans 2 = .ok (.putfield 3, 3) := by decide +kernel
theorem dX12_leans_5 : decode cX12_leans 5 = .ok (.aload_n 0, 1) := by decide +kernel
theorem dX12_leans_6 : decode cX12_leans 6 = .ok (.aload_n 0, 1) := by decide +kernel
theorem dX12_leans_7 : decode cX12_leans 7 = .ok (.iload_n 1, 1) := by decide +kernel
theorem dX12_leans_8 : decode cX12_leans 8 = .ok (.invokevirtual 247, 3) := by decide +kernel
theorem dX12_leans_11 : decode cX12_leans 11 = .ok (.iconst 1, 1) := by decide +kernel
theorem dX12_leans_12 : decode cX12_leans 12 = .ok (.invokevirtual 65, 3) := by decide +kernel
theorem dX12_leans_15 : decode cX12_leans 15 = .ok (.ifCond .eq 7, 3) := by decide +kernel
theorem dX12_leans_18 : decode cX12_leans 18 = .ok (.iconst 0, 1) := by decide +kernel
theorem dX12_leans_19 : decode cX12_leans 19 = .ok (.goto 8, 3) := by decide +kernel
theorem dX12_leans_22 : decode cX12_leans 22 = .ok (.aload_n 0, 1) := by decide +kernel
theorem dX12_leans_23 : decode cX12_leans 23 = .ok (.iload_n 1, 1) := by decide +kernel
theorem dX12_leans_24 : decode cX12_leans 24 = .ok (.invokevirtual 259, 3) := by decide +kernel
theorem dX12_leans_27 : decode cX12_leans 27 = .ok (.ireturn, 1) := by decide +kernel
theorem dX12_quarrel_0 : decode cX12_quarrel 0 = .ok (.aload_n 0, 1) := by decide +kernel
theorem dX12_quarrel_1 : decode cX12_quarrel 1 = .ok (.iconst 0, 1) := by decide +kernel
theorem dX12_quarrel_2 : decode cX12_quarrel 2 = .ok (.putfield 3, 3) := by decide +kernel
theorem dX12_quarrel_5 : decode cX12_quarrel 5 = .ok (.iconst 0, 1) := by decide +kernel
theorem dX12_quarrel_6 : decode cX12_quarrel 6 = .ok (.istore_n 2, 1) := by decide +kernel
theorem dX12_quarrel_7 : decode cX12_quarrel 7 = .ok (.iconst 0, 1) := by decide +kernel
theorem dX12_quarrel_8 : decode cX12_quarrel 8 = .ok (.istore_n 3, 1) := by decide +kernel
theorem dX12_quarrel_9 : decode cX12_quarrel 9 = .ok (.iload_n 3, 1) := by decide +kernel
theorem dX12_quarrel_10 : decode cX12_quarrel 10 = .ok (.aload_n 0, 1) := by decide +kernel
theorem dX12_quarrel_11 : decode cX12_quarrel 11 = .ok (.getfield 14, 3) := by decide +kernel
theorem dX12_quarrel_14 : decode cX12_quarrel 14 = .ok (.bipush 8, 2) := by decide +kernel
theorem dX12_quarrel_16 : decode cX12_quarrel 16 = .ok (.iaload, 1) := by decide +kernel
theorem dX12_quarrel_17 : decode cX12_quarrel 17 = .ok (.if_icmp .ge 72, 3) := by decide +kernel
theorem dX12_quarrel_20 : decode cX12_quarrel 20 = .ok (.iload_n 3, 1) := by decide +kernel
theorem dX12_quarrel_21 : decode cX12_quarrel 21 = .ok (.iconst 1, 1) := by decide +kernel
theorem dX12_quarrel_22 : decode cX12_quarrel 22 = .ok (.iadd, 1) := by decide +kernel
theorem dX12_quarrel_23 : decode cX12_quarrel 23 = .ok (.istore 4, 2) := by decide +kernel
theorem dX12_quarrel_25 : decode cX12_quarrel 25 = .ok (.iload 4, 2) := by decide +kernel
theorem dX12_quarrel_27 : decode cX12_quarrel 27 = .ok (.aload_n 0, 1) := by decide +kernel
theorem dX12_quarrel_28 : decode cX12_quarrel 28 = .ok (.getfield 14, 3) := by decide +kernel
theorem dX12_quarrel_31 : decode cX12_quarrel 31 = .ok (.bipush 8, 2) := by decide +kernel
theorem dX12_quarrel_33 : decode cX12_quarrel 33 = .ok (.iaload, 1) := by decide +kernel
theorem dX12_quarrel_34 : decode cX12_quarrel 34 = .ok (.if_icmp .ge 49, 3) := by decide +kernel
theorem dX12_quarrel_37 : decode cX12_quarrel 37 = .ok (.aload_n 0, 1) := by decide +kernel
theorem dX12_quarrel_38 : decode cX12_quarrel 38 = .ok (.iload_n 3, 1) := by decide +kernel
theorem dX12_quarrel_39 : decode cX12_quarrel 39 = .ok (.bipush 19, 2) := by decide +kernel
theorem dX12_quarrel_41 : decode cX12_quarrel 41 = .ok (.invokevirtual 255, 3) := by decide +kernel
theorem dX12_quarrel_44 : decode cX12_quarrel 44 = .ok (.aload_n 0, 1) := by decide +kernel
theorem dX12_quarrel_45 : decode cX12_quarrel 45 = .ok (.iload 4, 2) := by decide +kernel
theorem dX12_quarrel_47 : decode cX12_quarrel 47 = .ok (.bipush 19, 2) := by decide +kernel
theorem dX12_quarrel_49 : decode cX12_quarrel 49 = .ok (.invokevirtual 255, 3) := by decide +kernel
theorem dX12_quarrel_52 : decode cX12_quarrel 52 = .ok (.land, 1) := by decide +kernel
theorem dX12_quarrel_53 : decode cX12_quarrel 53 = .ok (.lconst 0, 1) := by decide +kernel
theorem dX12_quarrel_54 : decode cX12_quarrel 54 = .ok (.lcmp, 1) := by decide +kernel
theorem dX12_quarrel_55 : decode cX12_quarrel 55 = .ok (.ifCond .ne 6, 3) := by decide +kernel
theorem dX12_quarrel_58 : decode cX12_quarrel 58 = .ok (.goto 19, 3) := by decide +kernel
theorem dX12_quarrel_61 : decode cX12_quarrel 61 = .ok (.iload_n 2, 1) := by decide +kernel
theorem dX12_quarrel_62 : decode cX12_quarrel 62 = .ok (.iload_n 1, 1) := by decide +kernel
theorem dX12_quarrel_63 : decode cX12_quarrel 63 = .ok (.if_icmp .ne 11, 3) := by decide +kernel
theorem dX12_quarrel_66 : decode cX12_quarrel 66 = .ok (.bipush 12, 2) := by decide +kernel
theorem dX12_quarrel_68 : decode cX12_quarrel 68 = .ok (.iload_n 3, 1) := by decide +kernel
theorem dX12_quarrel_69 : decode cX12_quarrel 69 = .ok (.imul, 1) := by decide +kernel
theorem dX12_quarrel_70 : decode cX12_quarrel 70 = .ok (.iload 4, 2) := by decide +kernel
theorem dX12_quarrel_72 : decode cX12_quarrel 72 = .ok (.iadd, 1) := by decide +kernel
theorem dX12_quarrel_73 : decode cX12_quarrel 73 = .ok (.ireturn, 1) := by decide +kernel
theorem dX12_quarrel_74 : decode cX12_quarrel 74 = .ok (.iinc 2 1, 3) := by decide +kernel
theorem dX12_quarrel_77 : decode cX12_quarrel 77 = .ok (.iinc 4 1, 3) := by decide +kernel
theorem dX12_quarrel_80 : decode cX12_quarrel 80 = .ok (.goto (-55), 3) := by decide +kernel
theorem dX12_quarrel_83 : decode cX12_quarrel 83 = .ok (.iinc 3 1, 3) := by decide +kernel
theorem dX12_quarrel_86 : decode cX12_quarrel 86 = .ok (.goto (-77), 3) := by decide +kernel
theorem dX12_quarrel_89 : decode cX12_quarrel 89 = .ok (.iconst (-1), 1) := by decide +kernel
theorem dX12_quarrel_90 : decode cX12_quarrel 90 = .ok (.ireturn, 1) := by decide +kernel
theorem dX12_orders_0 : decode cX12_orders 0 = .ok (.iconst 0, 1) := by decide +kernel
theorem dX12_orders_1 : decode cX12_orders 1 = .ok (.istore_n 1, 1) := by decide +kernel
theorem dX12_orders_2 : decode cX12_orders 2 = .ok (.iconst 0, 1) := by decide +kernel
theorem dX12_orders_3 : decode cX12_orders 3 = .ok (.istore_n 2, 1) := by decide +kernel
theorem dX12_orders_4 : decode cX12_orders 4 = .ok (.iload_n 2, 1) := by decide +kernel
theorem dX12_orders_5 : decode cX12_orders 5 = .ok (.aload_n 0, 1) := by decide +kernel
theorem dX12_orders_6 : decode cX12_orders 6 = .ok (.getfield 14, 3) := by decide +kernel
theorem dX12_orders_9 : decode cX12_orders 9 = .ok (.bipush 8, 2) := by decide +kernel
theorem dX12_orders_11 : decode cX12_orders 11 = .ok (.iaload, 1) := by decide +kernel
theorem dX12_orders_12 : decode cX12_orders 12 = .ok (.if_icmp .ge 75, 3) := by decide +kernel
theorem dX12_orders_15 : decode cX12_orders 15 = .ok (.iconst 0, 1) := by decide +kernel
theorem dX12_orders_16 : decode cX12_orders 16 = .ok (.istore_n 3, 1) := by decide +kernel
theorem dX12_orders_17 : decode cX12_orders 17 = .ok (.iload_n 3, 1) := by decide +kernel
theorem dX12_orders_18 : decode cX12_orders 18 = .ok (.aload_n 0, 1) := by decide +kernel
theorem dX12_orders_19 : decode cX12_orders 19 = .ok (.getfield 14, 3) := by decide +kernel
theorem dX12_orders_22 : decode cX12_orders 22 = .ok (.bipush 8, 2) := by decide +kernel
theorem dX12_orders_24 : decode cX12_orders 24 = .ok (.iaload, 1) := by decide +kernel
theorem dX12_orders_25 : decode cX12_orders 25 = .ok (.if_icmp .ge 30, 3) := by decide +kernel
theorem dX12_orders_28 : decode cX12_orders 28 = .ok (.iload_n 1, 1) := by decide +kernel
theorem dX12_orders_29 : decode cX12_orders 29 = .ok (.iload_n 3, 1) := by decide +kernel
theorem dX12_orders_30 : decode cX12_orders 30 = .ok (.ishr, 1) := by decide +kernel
theorem dX12_orders_31 : decode cX12_orders 31 = .ok (.iconst 1, 1) := by decide +kernel
theorem dX12_orders_32 : decode cX12_orders 32 = .ok (.iand, 1) := by decide +kernel
theorem dX12_orders_33 : decode cX12_orders 33 = .ok (.iconst 1, 1) := by decide +kernel
theorem dX12_orders_34 : decode cX12_orders 34 = .ok (.if_icmp .eq 15, 3) := by decide +kernel
theorem dX12_orders_37 : decode cX12_orders 37 = .ok (.aload_n 0, 1) := by decide +kernel
theorem dX12_orders_38 : decode cX12_orders 38 = .ok (.iload_n 3, 1) := by decide +kernel
theorem dX12_orders_39 : decode cX12_orders 39 = .ok (.invokevirtual 259, 3) := by decide +kernel
theorem dX12_orders_42 : decode cX12_orders 42 = .ok (.iload_n 1, 1) := by decide +kernel
theorem dX12_orders_43 : decode cX12_orders 43 = .ok (.iconst (-1), 1) := by decide +kernel
theorem dX12_orders_44 : decode cX12_orders 44 = .ok (.ixor, 1) := by decide +kernel
theorem dX12_orders_45 : decode cX12_orders 45 = .ok (.iand, 1) := by decide +kernel
theorem dX12_orders_46 : decode cX12_orders 46 = .ok (.ifCond .eq 9, 3) := by decide +kernel
theorem dX12_orders_49 : decode cX12_orders 49 = .ok (.iinc 3 1, 3) := by decide +kernel
theorem dX12_orders_52 : decode cX12_orders 52 = .ok (.goto (-35), 3) := by decide +kernel
theorem dX12_orders_55 : decode cX12_orders 55 = .ok (.iload_n 3, 1) := by decide +kernel
theorem dX12_orders_56 : decode cX12_orders 56 = .ok (.aload_n 0, 1) := by decide +kernel
theorem dX12_orders_57 : decode cX12_orders 57 = .ok (.getfield 14, 3) := by decide +kernel
theorem dX12_orders_60 : decode cX12_orders 60 = .ok (.bipush 8, 2) := by decide +kernel
theorem dX12_orders_62 : decode cX12_orders 62 = .ok (.iaload, 1) := by decide +kernel
theorem dX12_orders_63 : decode cX12_orders 63 = .ok (.if_icmp .ne 5, 3) := by decide +kernel
theorem dX12_orders_66 : decode cX12_orders 66 = .ok (.iconst 0, 1) := by decide +kernel
theorem dX12_orders_67 : decode cX12_orders 67 = .ok (.ireturn, 1) := by decide +kernel
theorem dX12_orders_68 : decode cX12_orders 68 = .ok (.aload_n 0, 1) := by decide +kernel
theorem dX12_orders_69 : decode cX12_orders 69 = .ok (.getfield 34, 3) := by decide +kernel
theorem dX12_orders_72 : decode cX12_orders 72 = .ok (.iload_n 2, 1) := by decide +kernel
theorem dX12_orders_73 : decode cX12_orders 73 = .ok (.iload_n 3, 1) := by decide +kernel
theorem dX12_orders_74 : decode cX12_orders 74 = .ok (.iastore, 1) := by decide +kernel
theorem dX12_orders_75 : decode cX12_orders 75 = .ok (.iload_n 1, 1) := by decide +kernel
theorem dX12_orders_76 : decode cX12_orders 76 = .ok (.iconst 1, 1) := by decide +kernel
theorem dX12_orders_77 : decode cX12_orders 77 = .ok (.iload_n 3, 1) := by decide +kernel
theorem dX12_orders_78 : decode cX12_orders 78 = .ok (.ishl, 1) := by decide +kernel
theorem dX12_orders_79 : decode cX12_orders 79 = .ok (.ior, 1) := by decide +kernel
theorem dX12_orders_80 : decode cX12_orders 80 = .ok (.istore_n 1, 1) := by decide +kernel
theorem dX12_orders_81 : decode cX12_orders 81 = .ok (.iinc 2 1, 3) := by decide +kernel
theorem dX12_orders_84 : decode cX12_orders 84 = .ok (.goto (-80), 3) := by decide +kernel
theorem dX12_orders_87 : decode cX12_orders 87 = .ok (.iconst 1, 1) := by decide +kernel
theorem dX12_orders_88 : decode cX12_orders 88 = .ok (.ireturn, 1) := by decide +kernel
theorem dX12_order_0 : decode cX12_order 0 = .ok (.aload_n 0, 1) := by decide +kernel
theorem dX12_order_1 : decode cX12_order 1 = .ok (.iconst 0, 1) := by decide +kernel
theorem dX12_order_2 : decode cX12_order 2 = .ok (.putfield 3, 3) := by decide +kernel
theorem dX12_order_5 : decode cX12_order 5 = .ok (.iload_n 1, 1) := by decide +kernel
theorem dX12_order_6 : decode cX12_order 6 = .ok (.iconst 0, 1) := by decide +kernel
theorem dX12_order_7 : decode cX12_order 7 = .ok (.aload_n 0, 1) := by decide +kernel
theorem dX12_order_8 : decode cX12_order 8 = .ok (.getfield 14, 3) := by decide +kernel
theorem dX12_order_11 : decode cX12_order 11 = .ok (.bipush 8, 2) := by decide +kernel
theorem dX12_order_13 : decode cX12_order 13 = .ok (.iaload, 1) := by decide +kernel
theorem dX12_order_14 : decode cX12_order 14 = .ok (.iconst 1, 1) := by decide +kernel
theorem dX12_order_15 : decode cX12_order 15 = .ok (.isub, 1) := by decide +kernel
theorem dX12_order_16 : decode cX12_order 16 = .ok (.invokestatic 61, 3) := by decide +kernel
theorem dX12_order_19 : decode cX12_order 19 = .ok (.ifCond .eq 19, 3) := by decide +kernel
theorem dX12_order_22 : decode cX12_order 22 = .ok (.aload_n 0, 1) := by decide +kernel
theorem dX12_order_23 : decode cX12_order 23 = .ok (.invokevirtual 263, 3) := by decide +kernel
theorem dX12_order_26 : decode cX12_order 26 = .ok (.ifCond .eq 12, 3) := by decide +kernel
theorem dX12_order_29 : decode cX12_order 29 = .ok (.aload_n 0, 1) := by decide +kernel
theorem dX12_order_30 : decode cX12_order 30 = .ok (.getfield 34, 3) := by decide +kernel
theorem dX12_order_33 : decode cX12_order 33 = .ok (.iload_n 1, 1) := by decide +kernel
theorem dX12_order_34 : decode cX12_order 34 = .ok (.iaload, 1) := by decide +kernel
theorem dX12_order_35 : decode cX12_order 35 = .ok (.goto 4, 3) := by decide +kernel
theorem dX12_order_38 : decode cX12_order 38 = .ok (.iconst (-1), 1) := by decide +kernel
theorem dX12_order_39 : decode cX12_order 39 = .ok (.ireturn, 1) := by decide +kernel
theorem dX12_placeOf_0 : decode cX12_placeOf 0 = .ok (.aload_n 0, 1) := by decide +kernel
theorem dX12_placeOf_1 : decode cX12_placeOf 1 = .ok (.invokevirtual 263, 3) := by decide +kernel
theorem dX12_placeOf_4 : decode cX12_placeOf 4 = .ok (.ifCond .ne 5, 3) := by decide +kernel
theorem dX12_placeOf_7 : decode cX12_placeOf 7 = .ok (.iconst (-1), 1) := by decide +kernel
theorem dX12_placeOf_8 : decode cX12_placeOf 8 = .ok (.ireturn, 1) := by decide +kernel
theorem dX12_placeOf_9 : decode cX12_placeOf 9 = .ok (.iconst 0, 1) := by decide +kernel
theorem dX12_placeOf_10 : decode cX12_placeOf 10 = .ok (.istore_n 2, 1) := by decide +kernel
theorem dX12_placeOf_11 : decode cX12_placeOf 11 = .ok (.aload_n 0, 1) := by decide +kernel
theorem dX12_placeOf_12 : decode cX12_placeOf 12 = .ok (.getfield 34, 3) := by decide +kernel
theorem dX12_placeOf_15 : decode cX12_placeOf 15 = .ok (.iload_n 2, 1) := by decide +kernel
theorem dX12_placeOf_16 : decode cX12_placeOf 16 = .ok (.iaload, 1) := by decide +kernel
theorem dX12_placeOf_17 : decode cX12_placeOf 17 = .ok (.iload_n 1, 1) := by decide +kernel
theorem dX12_placeOf_18 : decode cX12_placeOf 18 = .ok (.if_icmp .eq 9, 3) := by decide +kernel
theorem dX12_placeOf_21 : decode cX12_placeOf 21 = .ok (.iinc 2 1, 3) := by decide +kernel
theorem dX12_placeOf_24 : decode cX12_placeOf 24 = .ok (.goto (-13), 3) := by decide +kernel
theorem dX12_placeOf_27 : decode cX12_placeOf 27 = .ok (.iload_n 2, 1) := by decide +kernel
theorem dX12_placeOf_28 : decode cX12_placeOf 28 = .ok (.ireturn, 1) := by decide +kernel
theorem dX12_totalOf_0 : decode cX12_totalOf 0 = .ok (.aload_n 0, 1) := by decide +kernel
theorem dX12_totalOf_1 : decode cX12_totalOf 1 = .ok (.iload_n 1, 1) := by decide +kernel
theorem dX12_totalOf_2 : decode cX12_totalOf 2 = .ok (.bipush 11, 2) := by decide +kernel
theorem dX12_totalOf_4 : decode cX12_totalOf 4 = .ok (.invokevirtual 250, 3) := by decide +kernel
theorem dX12_totalOf_7 : decode cX12_totalOf 7 = .ok (.iconst 1, 1) := by decide +kernel
theorem dX12_totalOf_8 : decode cX12_totalOf 8 = .ok (.if_icmp .ne 12, 3) := by decide +kernel
theorem dX12_totalOf_11 : decode cX12_totalOf 11 = .ok (.aload_n 0, 1) := by decide +kernel
theorem dX12_totalOf_12 : decode cX12_totalOf 12 = .ok (.iload_n 1, 1) := by decide +kernel
theorem dX12_totalOf_13 : decode cX12_totalOf 13 = .ok (.iconst 5, 1) := by decide +kernel
theorem dX12_totalOf_14 : decode cX12_totalOf 14 = .ok (.invokevirtual 250, 3) := by decide +kernel
theorem dX12_totalOf_17 : decode cX12_totalOf 17 = .ok (.goto 9, 3) := by decide +kernel
theorem dX12_totalOf_20 : decode cX12_totalOf 20 = .ok (.aload_n 0, 1) := by decide +kernel
theorem dX12_totalOf_21 : decode cX12_totalOf 21 = .ok (.iload_n 1, 1) := by decide +kernel
theorem dX12_totalOf_22 : decode cX12_totalOf 22 = .ok (.iconst 0, 1) := by decide +kernel
theorem dX12_totalOf_23 : decode cX12_totalOf 23 = .ok (.invokevirtual 250, 3) := by decide +kernel
theorem dX12_totalOf_26 : decode cX12_totalOf 26 = .ok (.ireturn, 1) := by decide +kernel
theorem dX12_way_0 : decode cX12_way 0 = .ok (.aload_n 0, 1) := by decide +kernel
theorem dX12_way_1 : decode cX12_way 1 = .ok (.iconst 0, 1) := by decide +kernel
theorem dX12_way_2 : decode cX12_way 2 = .ok (.putfield 3, 3) := by decide +kernel
theorem dX12_way_5 : decode cX12_way 5 = .ok (.aload_n 0, 1) := by decide +kernel
theorem dX12_way_6 : decode cX12_way 6 = .ok (.aload_n 0, 1) := by decide +kernel
theorem dX12_way_7 : decode cX12_way 7 = .ok (.iload_n 1, 1) := by decide +kernel
theorem dX12_way_8 : decode cX12_way 8 = .ok (.invokevirtual 247, 3) := by decide +kernel
theorem dX12_way_11 : decode cX12_way 11 = .ok (.iconst 1, 1) := by decide +kernel
theorem dX12_way_12 : decode cX12_way 12 = .ok (.invokevirtual 65, 3) := by decide +kernel
theorem dX12_way_15 : decode cX12_way 15 = .ok (.ifCond .ne 73, 3) := by decide +kernel
theorem dX12_way_18 : decode cX12_way 18 = .ok (.aload_n 0, 1) := by decide +kernel
theorem dX12_way_19 : decode cX12_way 19 = .ok (.iload_n 2, 1) := by decide +kernel
theorem dX12_way_20 : decode cX12_way 20 = .ok (.iconst 0, 1) := by decide +kernel
theorem dX12_way_21 : decode cX12_way 21 = .ok (.iconst 2, 1) := by decide +kernel
theorem dX12_way_22 : decode cX12_way 22 = .ok (.invokestatic 61, 3) := by decide +kernel
theorem dX12_way_25 : decode cX12_way 25 = .ok (.ifCond .ne 7, 3) := by decide +kernel
theorem dX12_way_28 : decode cX12_way 28 = .ok (.iconst 1, 1) := by decide +kernel
theorem dX12_way_29 : decode cX12_way 29 = .ok (.goto 4, 3) := by decide +kernel
theorem dX12_way_32 : decode cX12_way 32 = .ok (.iconst 0, 1) := by decide +kernel
theorem dX12_way_33 : decode cX12_way 33 = .ok (.iconst 2, 1) := by decide +kernel
theorem dX12_way_34 : decode cX12_way 34 = .ok (.invokevirtual 65, 3) := by decide +kernel
theorem dX12_way_37 : decode cX12_way 37 = .ok (.ifCond .ne 51, 3) := by decide +kernel
theorem dX12_way_40 : decode cX12_way 40 = .ok (.aload_n 0, 1) := by decide +kernel
theorem dX12_way_41 : decode cX12_way 41 = .ok (.iload_n 1, 1) := by decide +kernel
theorem dX12_way_42 : decode cX12_way 42 = .ok (.bipush 8, 2) := by decide +kernel
theorem dX12_way_44 : decode cX12_way 44 = .ok (.invokevirtual 250, 3) := by decide +kernel
theorem dX12_way_47 : decode cX12_way 47 = .ok (.ifCond .ne 41, 3) := by decide +kernel
theorem dX12_way_50 : decode cX12_way 50 = .ok (.aload_n 0, 1) := by decide +kernel
theorem dX12_way_51 : decode cX12_way 51 = .ok (.iload_n 1, 1) := by decide +kernel
theorem dX12_way_52 : decode cX12_way 52 = .ok (.bipush 10, 2) := by decide +kernel
theorem dX12_way_54 : decode cX12_way 54 = .ok (.invokevirtual 250, 3) := by decide +kernel
theorem dX12_way_57 : decode cX12_way 57 = .ok (.ifCond .gt 31, 3) := by decide +kernel
theorem dX12_way_60 : decode cX12_way 60 = .ok (.iload_n 2, 1) := by decide +kernel
theorem dX12_way_61 : decode cX12_way 61 = .ok (.iconst 1, 1) := by decide +kernel
theorem dX12_way_62 : decode cX12_way 62 = .ok (.if_icmp .ne 12, 3) := by decide +kernel
theorem dX12_way_65 : decode cX12_way 65 = .ok (.aload_n 0, 1) := by decide +kernel
theorem dX12_way_66 : decode cX12_way 66 = .ok (.iload_n 1, 1) := by decide +kernel
theorem dX12_way_67 : decode cX12_way 67 = .ok (.iconst 5, 1) := by decide +kernel
theorem dX12_way_68 : decode cX12_way 68 = .ok (.invokevirtual 250, 3) := by decide +kernel
theorem dX12_way_71 : decode cX12_way 71 = .ok (.ifCond .eq 17, 3) := by decide +kernel
theorem dX12_way_74 : decode cX12_way 74 = .ok (.iload_n 2, 1) := by decide +kernel
theorem dX12_way_75 : decode cX12_way 75 = .ok (.iconst 2, 1) := by decide +kernel
theorem dX12_way_76 : decode cX12_way 76 = .ok (.if_icmp .ne 14, 3) := by decide +kernel
theorem dX12_way_79 : decode cX12_way 79 = .ok (.aload_n 0, 1) := by decide +kernel
theorem dX12_way_80 : decode cX12_way 80 = .ok (.iload_n 1, 1) := by decide +kernel
theorem dX12_way_81 : decode cX12_way 81 = .ok (.iconst 2, 1) := by decide +kernel
theorem dX12_way_82 : decode cX12_way 82 = .ok (.invokevirtual 250, 3) := by decide +kernel
theorem dX12_way_85 : decode cX12_way 85 = .ok (.ifCond .ne 5, 3) := by decide +kernel
theorem dX12_way_88 : decode cX12_way 88 = .ok (.iconst 0, 1) := by decide +kernel
theorem dX12_way_89 : decode cX12_way 89 = .ok (.ireturn, 1) := by decide +kernel
theorem dX12_way_90 : decode cX12_way 90 = .ok (.aload_n 0, 1) := by decide +kernel
theorem dX12_way_91 : decode cX12_way 91 = .ok (.iload_n 1, 1) := by decide +kernel
theorem dX12_way_92 : decode cX12_way 92 = .ok (.bipush 11, 2) := by decide +kernel
theorem dX12_way_94 : decode cX12_way 94 = .ok (.iload_n 2, 1) := by decide +kernel
theorem dX12_way_95 : decode cX12_way 95 = .ok (.invokevirtual 243, 3) := by decide +kernel
theorem dX12_way_98 : decode cX12_way 98 = .ok (.iconst 1, 1) := by decide +kernel
theorem dX12_way_99 : decode cX12_way 99 = .ok (.ireturn, 1) := by decide +kernel
theorem dX12_drop_0 : decode cX12_drop 0 = .ok (.aload_n 0, 1) := by decide +kernel
theorem dX12_drop_1 : decode cX12_drop 1 = .ok (.iconst 0, 1) := by decide +kernel
theorem dX12_drop_2 : decode cX12_drop 2 = .ok (.putfield 3, 3) := by decide +kernel
theorem dX12_drop_5 : decode cX12_drop 5 = .ok (.aload_n 0, 1) := by decide +kernel
theorem dX12_drop_6 : decode cX12_drop 6 = .ok (.aload_n 0, 1) := by decide +kernel
theorem dX12_drop_7 : decode cX12_drop 7 = .ok (.iload_n 1, 1) := by decide +kernel
theorem dX12_drop_8 : decode cX12_drop 8 = .ok (.invokevirtual 247, 3) := by decide +kernel
theorem dX12_drop_11 : decode cX12_drop 11 = .ok (.iconst 1, 1) := by decide +kernel
theorem dX12_drop_12 : decode cX12_drop 12 = .ok (.invokevirtual 65, 3) := by decide +kernel
theorem dX12_drop_15 : decode cX12_drop 15 = .ok (.ifCond .ne 13, 3) := by decide +kernel
theorem dX12_drop_18 : decode cX12_drop 18 = .ok (.aload_n 0, 1) := by decide +kernel
theorem dX12_drop_19 : decode cX12_drop 19 = .ok (.iload_n 1, 1) := by decide +kernel
theorem dX12_drop_20 : decode cX12_drop 20 = .ok (.bipush 8, 2) := by decide +kernel
theorem dX12_drop_22 : decode cX12_drop 22 = .ok (.invokevirtual 250, 3) := by decide +kernel
theorem dX12_drop_25 : decode cX12_drop 25 = .ok (.ifCond .eq 5, 3) := by decide +kernel
theorem dX12_drop_28 : decode cX12_drop 28 = .ok (.iconst 0, 1) := by decide +kernel
theorem dX12_drop_29 : decode cX12_drop 29 = .ok (.ireturn, 1) := by decide +kernel
theorem dX12_drop_30 : decode cX12_drop 30 = .ok (.aload_n 0, 1) := by decide +kernel
theorem dX12_drop_31 : decode cX12_drop 31 = .ok (.iload_n 1, 1) := by decide +kernel
theorem dX12_drop_32 : decode cX12_drop 32 = .ok (.bipush 8, 2) := by decide +kernel
theorem dX12_drop_34 : decode cX12_drop 34 = .ok (.iconst 5, 1) := by decide +kernel
theorem dX12_drop_35 : decode cX12_drop 35 = .ok (.invokevirtual 243, 3) := by decide +kernel
theorem dX12_drop_38 : decode cX12_drop 38 = .ok (.iconst 1, 1) := by decide +kernel
theorem dX12_drop_39 : decode cX12_drop 39 = .ok (.ireturn, 1) := by decide +kernel
theorem dX12_again_0 : decode cX12_again 0 = .ok (.aload_n 0, 1) := by decide +kernel
theorem dX12_again_1 : decode cX12_again 1 = .ok (.iconst 0, 1) := by decide +kernel
theorem dX12_again_2 : decode cX12_again 2 = .ok (.putfield 3, 3) := by decide +kernel
theorem dX12_again_5 : decode cX12_again 5 = .ok (.aload_n 0, 1) := by decide +kernel
theorem dX12_again_6 : decode cX12_again 6 = .ok (.aload_n 0, 1) := by decide +kernel
theorem dX12_again_7 : decode cX12_again 7 = .ok (.iload_n 1, 1) := by decide +kernel
theorem dX12_again_8 : decode cX12_again 8 = .ok (.invokevirtual 247, 3) := by decide +kernel
theorem dX12_again_11 : decode cX12_again 11 = .ok (.iconst 1, 1) := by decide +kernel
theorem dX12_again_12 : decode cX12_again 12 = .ok (.invokevirtual 65, 3) := by decide +kernel
theorem dX12_again_15 : decode cX12_again 15 = .ok (.ifCond .ne 14, 3) := by decide +kernel
theorem dX12_again_18 : decode cX12_again 18 = .ok (.aload_n 0, 1) := by decide +kernel
theorem dX12_again_19 : decode cX12_again 19 = .ok (.iload_n 1, 1) := by decide +kernel
theorem dX12_again_20 : decode cX12_again 20 = .ok (.bipush 8, 2) := by decide +kernel
theorem dX12_again_22 : decode cX12_again 22 = .ok (.invokevirtual 250, 3) := by decide +kernel
theorem dX12_again_25 : decode cX12_again 25 = .ok (.iconst 2, 1) := by decide +kernel
theorem dX12_again_26 : decode cX12_again 26 = .ok (.if_icmp .ge 5, 3) := by decide +kernel
theorem dX12_again_29 : decode cX12_again 29 = .ok (.iconst 0, 1) := by decide +kernel
theorem dX12_again_30 : decode cX12_again 30 = .ok (.ireturn, 1) := by decide +kernel
theorem dX12_again_31 : decode cX12_again 31 = .ok (.aload_n 0, 1) := by decide +kernel
theorem dX12_again_32 : decode cX12_again 32 = .ok (.iload_n 1, 1) := by decide +kernel
theorem dX12_again_33 : decode cX12_again 33 = .ok (.bipush 8, 2) := by decide +kernel
theorem dX12_again_35 : decode cX12_again 35 = .ok (.iconst 0, 1) := by decide +kernel
theorem dX12_again_36 : decode cX12_again 36 = .ok (.invokevirtual 243, 3) := by decide +kernel
theorem dX12_again_39 : decode cX12_again 39 = .ok (.aload_n 0, 1) := by decide +kernel
theorem dX12_again_40 : decode cX12_again 40 = .ok (.iload_n 1, 1) := by decide +kernel
theorem dX12_again_41 : decode cX12_again 41 = .ok (.bipush 10, 2) := by decide +kernel
theorem dX12_again_43 : decode cX12_again 43 = .ok (.iconst 0, 1) := by decide +kernel
theorem dX12_again_44 : decode cX12_again 44 = .ok (.invokevirtual 243, 3) := by decide +kernel
theorem dX12_again_47 : decode cX12_again 47 = .ok (.iconst 1, 1) := by decide +kernel
theorem dX12_again_48 : decode cX12_again 48 = .ok (.ireturn, 1) := by decide +kernel
theorem dX12_out_0 : decode cX12_out 0 = .ok (.aload_n 0, 1) := by decide +kernel
theorem dX12_out_1 : decode cX12_out 1 = .ok (.iconst 0, 1) := by decide +kernel
theorem dX12_out_2 : decode cX12_out 2 = .ok (.putfield 3, 3) := by decide +kernel
theorem dX12_out_5 : decode cX12_out 5 = .ok (.aload_n 0, 1) := by decide +kernel
theorem dX12_out_6 : decode cX12_out 6 = .ok (.iload_n 1, 1) := by decide +kernel
theorem dX12_out_7 : decode cX12_out 7 = .ok (.iconst 1, 1) := by decide +kernel
theorem dX12_out_8 : decode cX12_out 8 = .ok (.bipush 60, 2) := by decide +kernel
theorem dX12_out_10 : decode cX12_out 10 = .ok (.invokestatic 61, 3) := by decide +kernel
theorem dX12_out_13 : decode cX12_out 13 = .ok (.ifCond .ne 7, 3) := by decide +kernel
theorem dX12_out_16 : decode cX12_out 16 = .ok (.iconst 1, 1) := by decide +kernel
theorem dX12_out_17 : decode cX12_out 17 = .ok (.goto 4, 3) := by decide +kernel
theorem dX12_out_20 : decode cX12_out 20 = .ok (.iconst 0, 1) := by decide +kernel
theorem dX12_out_21 : decode cX12_out 21 = .ok (.iconst 1, 1) := by decide +kernel
theorem dX12_out_22 : decode cX12_out 22 = .ok (.invokevirtual 65, 3) := by decide +kernel
theorem dX12_out_25 : decode cX12_out 25 = .ok (.ifCond .ne 30, 3) := by decide +kernel
theorem dX12_out_28 : decode cX12_out 28 = .ok (.aload_n 0, 1) := by decide +kernel
theorem dX12_out_29 : decode cX12_out 29 = .ok (.aload_n 0, 1) := by decide +kernel
theorem dX12_out_30 : decode cX12_out 30 = .ok (.getfield 14, 3) := by decide +kernel
theorem dX12_out_33 : decode cX12_out 33 = .ok (.iconst 3, 1) := by decide +kernel
theorem dX12_out_34 : decode cX12_out 34 = .ok (.iaload, 1) := by decide +kernel
theorem dX12_out_35 : decode cX12_out 35 = .ok (.iload_n 1, 1) := by decide +kernel
theorem dX12_out_36 : decode cX12_out 36 = .ok (.iadd, 1) := by decide +kernel
theorem dX12_out_37 : decode cX12_out 37 = .ok (.sipush 480, 3) := by decide +kernel
theorem dX12_out_40 : decode cX12_out 40 = .ok (.if_icmp .le 7, 3) := by decide +kernel
theorem dX12_out_43 : decode cX12_out 43 = .ok (.iconst 1, 1) := by decide +kernel
theorem dX12_out_44 : decode cX12_out 44 = .ok (.goto 4, 3) := by decide +kernel
theorem dX12_out_47 : decode cX12_out 47 = .ok (.iconst 0, 1) := by decide +kernel
theorem dX12_out_48 : decode cX12_out 48 = .ok (.iconst 2, 1) := by decide +kernel
theorem dX12_out_49 : decode cX12_out 49 = .ok (.invokevirtual 65, 3) := by decide +kernel
theorem dX12_out_52 : decode cX12_out 52 = .ok (.ifCond .eq 5, 3) := by decide +kernel
theorem dX12_out_55 : decode cX12_out 55 = .ok (.iconst 0, 1) := by decide +kernel
theorem dX12_out_56 : decode cX12_out 56 = .ok (.ireturn, 1) := by decide +kernel
theorem dX12_out_57 : decode cX12_out 57 = .ok (.aload_n 0, 1) := by decide +kernel
theorem dX12_out_58 : decode cX12_out 58 = .ok (.getfield 14, 3) := by decide +kernel
theorem dX12_out_61 : decode cX12_out 61 = .ok (.iconst 3, 1) := by decide +kernel
theorem dX12_out_62 : decode cX12_out 62 = .ok (.dup2, 1) := by decide +kernel
theorem dX12_out_63 : decode cX12_out 63 = .ok (.iaload, 1) := by decide +kernel
theorem dX12_out_64 : decode cX12_out 64 = .ok (.iload_n 1, 1) := by decide +kernel
theorem dX12_out_65 : decode cX12_out 65 = .ok (.iadd, 1) := by decide +kernel
theorem dX12_out_66 : decode cX12_out 66 = .ok (.iastore, 1) := by decide +kernel
theorem dX12_out_67 : decode cX12_out 67 = .ok (.aload_n 0, 1) := by decide +kernel
theorem dX12_out_68 : decode cX12_out 68 = .ok (.getfield 14, 3) := by decide +kernel
theorem dX12_out_71 : decode cX12_out 71 = .ok (.iconst 4, 1) := by decide +kernel
theorem dX12_out_72 : decode cX12_out 72 = .ok (.iaload, 1) := by decide +kernel
theorem dX12_out_73 : decode cX12_out 73 = .ok (.istore_n 2, 1) := by decide +kernel
theorem dX12_out_74 : decode cX12_out 74 = .ok (.iload_n 2, 1) := by decide +kernel
theorem dX12_out_75 : decode cX12_out 75 = .ok (.ifCond .lt 62, 3) := by decide +kernel
theorem dX12_out_78 : decode cX12_out 78 = .ok (.aload_n 0, 1) := by decide +kernel
theorem dX12_out_79 : decode cX12_out 79 = .ok (.iload_n 2, 1) := by decide +kernel
theorem dX12_out_80 : decode cX12_out 80 = .ok (.bipush 21, 2) := by decide +kernel
theorem dX12_out_82 : decode cX12_out 82 = .ok (.invokevirtual 250, 3) := by decide +kernel
theorem dX12_out_85 : decode cX12_out 85 = .ok (.aload_n 0, 1) := by decide +kernel
theorem dX12_out_86 : decode cX12_out 86 = .ok (.iload_n 2, 1) := by decide +kernel
theorem dX12_out_87 : decode cX12_out 87 = .ok (.bipush 9, 2) := by decide +kernel
theorem dX12_out_89 : decode cX12_out 89 = .ok (.invokevirtual 250, 3) := by decide +kernel
theorem dX12_out_92 : decode cX12_out 92 = .ok (.isub, 1) := by decide +kernel
theorem dX12_out_93 : decode cX12_out 93 = .ok (.istore_n 3, 1) := by decide +kernel
theorem dX12_out_94 : decode cX12_out 94 = .ok (.aload_n 0, 1) := by decide +kernel
theorem dX12_out_95 : decode cX12_out 95 = .ok (.iload_n 2, 1) := by decide +kernel
theorem dX12_out_96 : decode cX12_out 96 = .ok (.bipush 9, 2) := by decide +kernel
theorem dX12_out_98 : decode cX12_out 98 = .ok (.aload_n 0, 1) := by decide +kernel
theorem dX12_out_99 : decode cX12_out 99 = .ok (.iload_n 2, 1) := by decide +kernel
theorem dX12_out_100 : decode cX12_out 100 = .ok (.bipush 21, 2) := by decide +kernel
theorem dX12_out_102 : decode cX12_out 102 = .ok (.invokevirtual 250, 3) := by decide +kernel
theorem dX12_out_105 : decode cX12_out 105 = .ok (.aload_n 0, 1) := by decide +kernel
theorem dX12_out_106 : decode cX12_out 106 = .ok (.iload_n 2, 1) := by decide +kernel
theorem dX12_out_107 : decode cX12_out 107 = .ok (.iconst 3, 1) := by decide +kernel
theorem dX12_out_108 : decode cX12_out 108 = .ok (.invokevirtual 250, 3) := by decide +kernel
theorem dX12_out_111 : decode cX12_out 111 = .ok (.ifCond .ne 7, 3) := by decide +kernel
theorem dX12_out_114 : decode cX12_out 114 = .ok (.iconst 0, 1) := by decide +kernel
theorem dX12_out_115 : decode cX12_out 115 = .ok (.goto 18, 3) := by decide +kernel
theorem dX12_out_118 : decode cX12_out 118 = .ok (.iload_n 3, 1) := by decide +kernel
theorem dX12_out_119 : decode cX12_out 119 = .ok (.aload_n 0, 1) := by decide +kernel
theorem dX12_out_120 : decode cX12_out 120 = .ok (.iload_n 2, 1) := by decide +kernel
theorem dX12_out_121 : decode cX12_out 121 = .ok (.iconst 3, 1) := by decide +kernel
theorem dX12_out_122 : decode cX12_out 122 = .ok (.invokevirtual 250, 3) := by decide +kernel
theorem dX12_out_125 : decode cX12_out 125 = .ok (.idiv, 1) := by decide +kernel
theorem dX12_out_126 : decode cX12_out 126 = .ok (.aload_n 0, 1) := by decide +kernel
theorem dX12_out_127 : decode cX12_out 127 = .ok (.iload_n 2, 1) := by decide +kernel
theorem dX12_out_128 : decode cX12_out 128 = .ok (.iconst 3, 1) := by decide +kernel
theorem dX12_out_129 : decode cX12_out 129 = .ok (.invokevirtual 250, 3) := by decide +kernel
theorem dX12_out_132 : decode cX12_out 132 = .ok (.imul, 1) := by decide +kernel
theorem dX12_out_133 : decode cX12_out 133 = .ok (.isub, 1) := by decide +kernel
theorem dX12_out_134 : decode cX12_out 134 = .ok (.invokevirtual 243, 3) := by decide +kernel
theorem dX12_out_137 : decode cX12_out 137 = .ok (.aload_n 0, 1) := by decide +kernel
theorem dX12_out_138 : decode cX12_out 138 = .ok (.getfield 14, 3) := by decide +kernel
theorem dX12_out_141 : decode cX12_out 141 = .ok (.iconst 3, 1) := by decide +kernel
theorem dX12_out_142 : decode cX12_out 142 = .ok (.iaload, 1) := by decide +kernel
theorem dX12_out_143 : decode cX12_out 143 = .ok (.ireturn, 1) := by decide +kernel
theorem dX12_worked_0 : decode cX12_worked 0 = .ok (.iconst 0, 1) := by decide +kernel
theorem dX12_worked_1 : decode cX12_worked 1 = .ok (.istore_n 3, 1) := by decide +kernel
theorem dX12_worked_2 : decode cX12_worked 2 = .ok (.aload_n 0, 1) := by decide +kernel
theorem dX12_worked_3 : decode cX12_worked 3 = .ok (.iload_n 1, 1) := by decide +kernel
theorem dX12_worked_4 : decode cX12_worked 4 = .ok (.iload_n 2, 1) := by decide +kernel
theorem dX12_worked_5 : decode cX12_worked 5 = .ok (.iconst 4, 1) := by decide +kernel
theorem dX12_worked_6 : decode cX12_worked 6 = .ok (.iadd, 1) := by decide +kernel
theorem dX12_worked_7 : decode cX12_worked 7 = .ok (.invokevirtual 250, 3) := by decide +kernel
theorem dX12_worked_10 : decode cX12_worked 10 = .ok (.istore 4, 2) := by decide +kernel
theorem dX12_worked_12 : decode cX12_worked 12 = .ok (.iload 4, 2) := by decide +kernel
theorem dX12_worked_14 : decode cX12_worked 14 = .ok (.aload_n 0, 1) := by decide +kernel
theorem dX12_worked_15 : decode cX12_worked 15 = .ok (.iload_n 1, 1) := by decide +kernel
theorem dX12_worked_16 : decode cX12_worked 16 = .ok (.iload_n 2, 1) := by decide +kernel
theorem dX12_worked_17 : decode cX12_worked 17 = .ok (.iconst 5, 1) := by decide +kernel
theorem dX12_worked_18 : decode cX12_worked 18 = .ok (.iadd, 1) := by decide +kernel
theorem dX12_worked_19 : decode cX12_worked 19 = .ok (.invokevirtual 250, 3) := by decide +kernel
theorem dX12_worked_22 : decode cX12_worked 22 = .ok (.if_icmp .ge 309, 3) := by decide +kernel
theorem dX12_worked_25 : decode cX12_worked 25 = .ok (.aload_n 0, 1) := by decide +kernel
theorem dX12_worked_26 : decode cX12_worked 26 = .ok (.iload_n 1, 1) := by decide +kernel
theorem dX12_worked_27 : decode cX12_worked 27 = .ok (.bipush 82, 2) := by decide +kernel
theorem dX12_worked_29 : decode cX12_worked 29 = .ok (.iconst 2, 1) := by decide +kernel
theorem dX12_worked_30 : decode cX12_worked 30 = .ok (.iload 4, 2) := by decide +kernel
theorem dX12_worked_32 : decode cX12_worked 32 = .ok (.imul, 1) := by decide +kernel
theorem dX12_worked_33 : decode cX12_worked 33 = .ok (.iadd, 1) := by decide +kernel
theorem dX12_worked_34 : decode cX12_worked 34 = .ok (.invokevirtual 250, 3) := by decide +kernel
theorem dX12_worked_37 : decode cX12_worked 37 = .ok (.istore 5, 2) := by decide +kernel
theorem dX12_worked_39 : decode cX12_worked 39 = .ok (.aload_n 0, 1) := by decide +kernel
theorem dX12_worked_40 : decode cX12_worked 40 = .ok (.iload_n 1, 1) := by decide +kernel
theorem dX12_worked_41 : decode cX12_worked 41 = .ok (.bipush 82, 2) := by decide +kernel
theorem dX12_worked_43 : decode cX12_worked 43 = .ok (.iconst 2, 1) := by decide +kernel
theorem dX12_worked_44 : decode cX12_worked 44 = .ok (.iload 4, 2) := by decide +kernel
theorem dX12_worked_46 : decode cX12_worked 46 = .ok (.imul, 1) := by decide +kernel
theorem dX12_worked_47 : decode cX12_worked 47 = .ok (.iadd, 1) := by decide +kernel
theorem dX12_worked_48 : decode cX12_worked 48 = .ok (.iconst 1, 1) := by decide +kernel
theorem dX12_worked_49 : decode cX12_worked 49 = .ok (.iadd, 1) := by decide +kernel
theorem dX12_worked_50 : decode cX12_worked 50 = .ok (.invokevirtual 250, 3) := by decide +kernel
theorem dX12_worked_53 : decode cX12_worked 53 = .ok (.istore 6, 2) := by decide +kernel
theorem dX12_worked_55 : decode cX12_worked 55 = .ok (.iload 5, 2) := by decide +kernel
theorem dX12_worked_57 : decode cX12_worked 57 = .ok (.iconst 4, 1) := by decide +kernel
theorem dX12_worked_58 : decode cX12_worked 58 = .ok (.if_icmp .gt 89, 3) := by decide +kernel
theorem dX12_worked_61 : decode cX12_worked 61 = .ok (.aload_n 0, 1) := by decide +kernel
theorem dX12_worked_62 : decode cX12_worked 62 = .ok (.getfield 37, 3) := by decide +kernel
theorem dX12_worked_65 : decode cX12_worked 65 = .ok (.iload_n 3, 1) := by decide +kernel
theorem dX12_worked_66 : decode cX12_worked 66 = .ok (.iload 5, 2) := by decide +kernel
theorem dX12_worked_68 : decode cX12_worked 68 = .ok (.ifCond .ne 9, 3) := by decide +kernel
theorem dX12_worked_71 : decode cX12_worked 71 = .ok (.iload 6, 2) := by decide +kernel
theorem dX12_worked_73 : decode cX12_worked 73 = .ok (.i2l, 1) := by decide +kernel
theorem dX12_worked_74 : decode cX12_worked 74 = .ok (.goto 66, 3) := by decide +kernel
theorem dX12_worked_77 : decode cX12_worked 77 = .ok (.iload 5, 2) := by decide +kernel
theorem dX12_worked_79 : decode cX12_worked 79 = .ok (.iconst 1, 1) := by decide +kernel
theorem dX12_worked_80 : decode cX12_worked 80 = .ok (.if_icmp .ne 17, 3) := by decide +kernel
theorem dX12_worked_83 : decode cX12_worked 83 = .ok (.aload_n 0, 1) := by decide +kernel
theorem dX12_worked_84 : decode cX12_worked 84 = .ok (.getfield 14, 3) := by decide +kernel
theorem dX12_worked_87 : decode cX12_worked 87 = .ok (.bipush 9, 2) := by decide +kernel
theorem dX12_worked_89 : decode cX12_worked 89 = .ok (.iload 6, 2) := by decide +kernel
theorem dX12_worked_91 : decode cX12_worked 91 = .ok (.iadd, 1) := by decide +kernel
theorem dX12_worked_92 : decode cX12_worked 92 = .ok (.iaload, 1) := by decide +kernel
theorem dX12_worked_93 : decode cX12_worked 93 = .ok (.i2l, 1) := by decide +kernel
theorem dX12_worked_94 : decode cX12_worked 94 = .ok (.goto 46, 3) := by decide +kernel
theorem dX12_worked_97 : decode cX12_worked 97 = .ok (.iload 5, 2) := by decide +kernel
theorem dX12_worked_99 : decode cX12_worked 99 = .ok (.iconst 2, 1) := by decide +kernel
theorem dX12_worked_100 : decode cX12_worked 100 = .ok (.if_icmp .ne 17, 3) := by decide +kernel
theorem dX12_worked_103 : decode cX12_worked 103 = .ok (.aload_n 0, 1) := by decide +kernel
theorem dX12_worked_104 : decode cX12_worked 104 = .ok (.getfield 14, 3) := by decide +kernel
theorem dX12_worked_107 : decode cX12_worked 107 = .ok (.bipush 73, 2) := by decide +kernel
theorem dX12_worked_109 : decode cX12_worked 109 = .ok (.iload 6, 2) := by decide +kernel
theorem dX12_worked_111 : decode cX12_worked 111 = .ok (.iadd, 1) := by decide +kernel
theorem dX12_worked_112 : decode cX12_worked 112 = .ok (.iaload, 1) := by decide +kernel
theorem dX12_worked_113 : decode cX12_worked 113 = .ok (.i2l, 1) := by decide +kernel
theorem dX12_worked_114 : decode cX12_worked 114 = .ok (.goto 26, 3) := by decide +kernel
theorem dX12_worked_117 : decode cX12_worked 117 = .ok (.iload 5, 2) := by decide +kernel
theorem dX12_worked_119 : decode cX12_worked 119 = .ok (.iconst 3, 1) := by decide +kernel
theorem dX12_worked_120 : decode cX12_worked 120 = .ok (.if_icmp .ne 13, 3) := by decide +kernel
theorem dX12_worked_123 : decode cX12_worked 123 = .ok (.aload_n 0, 1) := by decide +kernel
theorem dX12_worked_124 : decode cX12_worked 124 = .ok (.getfield 14, 3) := by decide +kernel
theorem dX12_worked_127 : decode cX12_worked 127 = .ok (.iconst 1, 1) := by decide +kernel
theorem dX12_worked_128 : decode cX12_worked 128 = .ok (.iaload, 1) := by decide +kernel
theorem dX12_worked_129 : decode cX12_worked 129 = .ok (.i2l, 1) := by decide +kernel
theorem dX12_worked_130 : decode cX12_worked 130 = .ok (.goto 10, 3) := by decide +kernel
theorem dX12_worked_133 : decode cX12_worked 133 = .ok (.aload_n 0, 1) := by decide +kernel
theorem dX12_worked_134 : decode cX12_worked 134 = .ok (.getfield 14, 3) := by decide +kernel
theorem dX12_worked_137 : decode cX12_worked 137 = .ok (.iconst 2, 1) := by decide +kernel
theorem dX12_worked_138 : decode cX12_worked 138 = .ok (.iaload, 1) := by decide +kernel
theorem dX12_worked_139 : decode cX12_worked 139 = .ok (.i2l, 1) := by decide +kernel
theorem dX12_worked_140 : decode cX12_worked 140 = .ok (.lastore, 1) := by decide +kernel
theorem dX12_worked_141 : decode cX12_worked 141 = .ok (.iinc 3 1, 3) := by decide +kernel
theorem dX12_worked_144 : decode cX12_worked 144 = .ok (.goto 181, 3) := by decide +kernel
theorem dX12_worked_147 : decode cX12_worked 147 = .ok (.iload 5, 2) := by decide +kernel
theorem dX12_worked_149 : decode cX12_worked 149 = .ok (.iconst 5, 1) := by decide +kernel
theorem dX12_worked_150 : decode cX12_worked 150 = .ok (.if_icmp .ne 20, 3) := by decide +kernel
theorem dX12_worked_153 : decode cX12_worked 153 = .ok (.aload_n 0, 1) := by decide +kernel
theorem dX12_worked_154 : decode cX12_worked 154 = .ok (.getfield 37, 3) := by decide +kernel
theorem dX12_worked_157 : decode cX12_worked 157 = .ok (.iload_n 3, 1) := by decide +kernel
theorem dX12_worked_158 : decode cX12_worked 158 = .ok (.iconst 1, 1) := by decide +kernel
theorem dX12_worked_159 : decode cX12_worked 159 = .ok (.isub, 1) := by decide +kernel
theorem dX12_worked_160 : decode cX12_worked 160 = .ok (.dup2, 1) := by decide +kernel
theorem dX12_worked_161 : decode cX12_worked 161 = .ok (.laload, 1) := by decide +kernel
theorem dX12_worked_162 : decode cX12_worked 162 = .ok (.iload 6, 2) := by decide +kernel
theorem dX12_worked_164 : decode cX12_worked 164 = .ok (.i2l, 1) := by decide +kernel
theorem dX12_worked_165 : decode cX12_worked 165 = .ok (.lmul, 1) := by decide +kernel
theorem dX12_worked_166 : decode cX12_worked 166 = .ok (.lastore, 1) := by decide +kernel
theorem dX12_worked_167 : decode cX12_worked 167 = .ok (.goto 158, 3) := by decide +kernel
theorem dX12_worked_170 : decode cX12_worked 170 = .ok (.iload 5, 2) := by decide +kernel
theorem dX12_worked_172 : decode cX12_worked 172 = .ok (.bipush 10, 2) := by decide +kernel
theorem dX12_worked_174 : decode cX12_worked 174 = .ok (.if_icmp .ne 24, 3) := by decide +kernel
theorem dX12_worked_177 : decode cX12_worked 177 = .ok (.aload_n 0, 1) := by decide +kernel
theorem dX12_worked_178 : decode cX12_worked 178 = .ok (.getfield 37, 3) := by decide +kernel
theorem dX12_worked_181 : decode cX12_worked 181 = .ok (.iload_n 3, 1) := by decide +kernel
theorem dX12_worked_182 : decode cX12_worked 182 = .ok (.iconst 1, 1) := by decide +kernel
theorem dX12_worked_183 : decode cX12_worked 183 = .ok (.isub, 1) := by decide +kernel
theorem dX12_worked_184 : decode cX12_worked 184 = .ok (.lconst 1, 1) := by decide +kernel
theorem dX12_worked_185 : decode cX12_worked 185 = .ok (.aload_n 0, 1) := by decide +kernel
theorem dX12_worked_186 : decode cX12_worked 186 = .ok (.getfield 37, 3) := by decide +kernel
theorem dX12_worked_189 : decode cX12_worked 189 = .ok (.iload_n 3, 1) := by decide +kernel
theorem dX12_worked_190 : decode cX12_worked 190 = .ok (.iconst 1, 1) := by decide +kernel
theorem dX12_worked_191 : decode cX12_worked 191 = .ok (.isub, 1) := by decide +kernel
theorem dX12_worked_192 : decode cX12_worked 192 = .ok (.laload, 1) := by decide +kernel
theorem dX12_worked_193 : decode cX12_worked 193 = .ok (.lsub, 1) := by decide +kernel
theorem dX12_worked_194 : decode cX12_worked 194 = .ok (.lastore, 1) := by decide +kernel
theorem dX12_worked_195 : decode cX12_worked 195 = .ok (.goto 130, 3) := by decide +kernel
theorem dX12_worked_198 : decode cX12_worked 198 = .ok (.iinc 3 (-1), 3) := by decide +kernel
theorem dX12_worked_201 : decode cX12_worked 201 = .ok (.aload_n 0, 1) := by decide +kernel
theorem dX12_worked_202 : decode cX12_worked 202 = .ok (.getfield 37, 3) := by decide +kernel
theorem dX12_worked_205 : decode cX12_worked 205 = .ok (.iload_n 3, 1) := by decide +kernel
theorem dX12_worked_206 : decode cX12_worked 206 = .ok (.iconst 1, 1) := by decide +kernel
theorem dX12_worked_207 : decode cX12_worked 207 = .ok (.isub, 1) := by decide +kernel
theorem dX12_worked_208 : decode cX12_worked 208 = .ok (.laload, 1) := by decide +kernel
theorem dX12_worked_209 : decode cX12_worked 209 = .ok (.lstore 7, 2) := by decide +kernel
theorem dX12_worked_211 : decode cX12_worked 211 = .ok (.aload_n 0, 1) := by decide +kernel
theorem dX12_worked_212 : decode cX12_worked 212 = .ok (.getfield 37, 3) := by decide +kernel
theorem dX12_worked_215 : decode cX12_worked 215 = .ok (.iload_n 3, 1) := by decide +kernel
theorem dX12_worked_216 : decode cX12_worked 216 = .ok (.laload, 1) := by decide +kernel
theorem dX12_worked_217 : decode cX12_worked 217 = .ok (.lstore 9, 2) := by decide +kernel
theorem dX12_worked_219 : decode cX12_worked 219 = .ok (.aload_n 0, 1) := by decide +kernel
theorem dX12_worked_220 : decode cX12_worked 220 = .ok (.getfield 37, 3) := by decide +kernel
theorem dX12_worked_223 : decode cX12_worked 223 = .ok (.iload_n 3, 1) := by decide +kernel
theorem dX12_worked_224 : decode cX12_worked 224 = .ok (.iconst 1, 1) := by decide +kernel
theorem dX12_worked_225 : decode cX12_worked 225 = .ok (.isub, 1) := by decide +kernel
theorem dX12_worked_226 : decode cX12_worked 226 = .ok (.iload 5, 2) := by decide +kernel
theorem dX12_worked_228 : decode cX12_worked 228 = .ok (.bipush 6, 2) := by decide +kernel
theorem dX12_worked_230 : decode cX12_worked 230 = .ok (.if_icmp .ne 11, 3) := by decide +kernel
theorem dX12_worked_233 : decode cX12_worked 233 = .ok (.lload 7, 2) := by decide +kernel
theorem dX12_worked_235 : decode cX12_worked 235 = .ok (.lload 9, 2) := by decide +kernel
theorem dX12_worked_237 : decode cX12_worked 237 = .ok (.ladd, 1) := by decide +kernel
theorem dX12_worked_238 : decode cX12_worked 238 = .ok (.goto 86, 3) := by decide +kernel
theorem dX12_worked_241 : decode cX12_worked 241 = .ok (.iload 5, 2) := by decide +kernel
theorem dX12_worked_243 : decode cX12_worked 243 = .ok (.bipush 7, 2) := by decide +kernel
theorem dX12_worked_245 : decode cX12_worked 245 = .ok (.if_icmp .ne 11, 3) := by decide +kernel
theorem dX12_worked_248 : decode cX12_worked 248 = .ok (.lload 7, 2) := by decide +kernel
theorem dX12_worked_250 : decode cX12_worked 250 = .ok (.lload 9, 2) := by decide +kernel
theorem dX12_worked_252 : decode cX12_worked 252 = .ok (.lsub, 1) := by decide +kernel
theorem dX12_worked_253 : decode cX12_worked 253 = .ok (.goto 71, 3) := by decide +kernel
theorem dX12_worked_256 : decode cX12_worked 256 = .ok (.iload 5, 2) := by decide +kernel
theorem dX12_worked_258 : decode cX12_worked 258 = .ok (.bipush 8, 2) := by decide +kernel
theorem dX12_worked_260 : decode cX12_worked 260 = .ok (.if_icmp .ne 19, 3) := by decide +kernel
theorem dX12_worked_263 : decode cX12_worked 263 = .ok (.lload 7, 2) := by decide +kernel
theorem dX12_worked_265 : decode cX12_worked 265 = .ok (.lload 9, 2) := by decide +kernel
theorem dX12_worked_267 : decode cX12_worked 267 = .ok (.lcmp, 1) := by decide +kernel
theorem dX12_worked_268 : decode cX12_worked 268 = .ok (.ifCond .ge 7, 3) := by decide +kernel
theorem dX12_worked_271 : decode cX12_worked 271 = .ok (.lconst 1, 1) := by decide +kernel
theorem dX12_worked_272 : decode cX12_worked 272 = .ok (.goto 52, 3) := by decide +kernel
theorem dX12_worked_275 : decode cX12_worked 275 = .ok (.lconst 0, 1) := by decide +kernel
theorem dX12_worked_276 : decode cX12_worked 276 = .ok (.goto 48, 3) := by decide +kernel
theorem dX12_worked_279 : decode cX12_worked 279 = .ok (.iload 5, 2) := by decide +kernel
theorem dX12_worked_281 : decode cX12_worked 281 = .ok (.bipush 9, 2) := by decide +kernel
theorem dX12_worked_283 : decode cX12_worked 283 = .ok (.if_icmp .ne 19, 3) := by decide +kernel
theorem dX12_worked_286 : decode cX12_worked 286 = .ok (.lload 7, 2) := by decide +kernel
theorem dX12_worked_288 : decode cX12_worked 288 = .ok (.lload 9, 2) := by decide +kernel
theorem dX12_worked_290 : decode cX12_worked 290 = .ok (.lcmp, 1) := by decide +kernel
theorem dX12_worked_291 : decode cX12_worked 291 = .ok (.ifCond .le 7, 3) := by decide +kernel
theorem dX12_worked_294 : decode cX12_worked 294 = .ok (.lconst 1, 1) := by decide +kernel
theorem dX12_worked_295 : decode cX12_worked 295 = .ok (.goto 29, 3) := by decide +kernel
theorem dX12_worked_298 : decode cX12_worked 298 = .ok (.lconst 0, 1) := by decide +kernel
theorem dX12_worked_299 : decode cX12_worked 299 = .ok (.goto 25, 3) := by decide +kernel
theorem dX12_worked_302 : decode cX12_worked 302 = .ok (.iload 5, 2) := by decide +kernel
theorem dX12_worked_304 : decode cX12_worked 304 = .ok (.bipush 11, 2) := by decide +kernel
theorem dX12_worked_306 : decode cX12_worked 306 = .ok (.if_icmp .ne 11, 3) := by decide +kernel
theorem dX12_worked_309 : decode cX12_worked 309 = .ok (.lload 7, 2) := by decide +kernel
theorem dX12_worked_311 : decode cX12_worked 311 = .ok (.lload 9, 2) := by decide +kernel
theorem dX12_worked_313 : decode cX12_worked 313 = .ok (.lmul, 1) := by decide +kernel
theorem dX12_worked_314 : decode cX12_worked 314 = .ok (.goto 10, 3) := by decide +kernel
theorem dX12_worked_317 : decode cX12_worked 317 = .ok (.lload 7, 2) := by decide +kernel
theorem dX12_worked_319 : decode cX12_worked 319 = .ok (.lload 9, 2) := by decide +kernel
theorem dX12_worked_321 : decode cX12_worked 321 = .ok (.invokestatic 266, 3) := by decide +kernel
theorem dX12_worked_324 : decode cX12_worked 324 = .ok (.lastore, 1) := by decide +kernel
theorem dX12_worked_325 : decode cX12_worked 325 = .ok (.iinc 4 1, 3) := by decide +kernel
theorem dX12_worked_328 : decode cX12_worked 328 = .ok (.goto (-316), 3) := by decide +kernel
theorem dX12_worked_331 : decode cX12_worked 331 = .ok (.aload_n 0, 1) := by decide +kernel
theorem dX12_worked_332 : decode cX12_worked 332 = .ok (.getfield 37, 3) := by decide +kernel
theorem dX12_worked_335 : decode cX12_worked 335 = .ok (.iconst 0, 1) := by decide +kernel
theorem dX12_worked_336 : decode cX12_worked 336 = .ok (.laload, 1) := by decide +kernel
theorem dX12_worked_337 : decode cX12_worked 337 = .ok (.lreturn, 1) := by decide +kernel
theorem dX12_rounded_0 : decode cX12_rounded 0 = .ok (.lload_n 0, 1) := by decide +kernel
theorem dX12_rounded_1 : decode cX12_rounded 1 = .ok (.lload_n 2, 1) := by decide +kernel
theorem dX12_rounded_2 : decode cX12_rounded 2 = .ok (.invokestatic 272, 3) := by decide +kernel
theorem dX12_rounded_5 : decode cX12_rounded 5 = .ok (.lload_n 2, 1) := by decide +kernel
theorem dX12_rounded_6 : decode cX12_rounded 6 = .ok (.lmul, 1) := by decide +kernel
theorem dX12_rounded_7 : decode cX12_rounded 7 = .ok (.lstore 4, 2) := by decide +kernel
theorem dX12_rounded_9 : decode cX12_rounded 9 = .ok (.lload_n 0, 1) := by decide +kernel
theorem dX12_rounded_10 : decode cX12_rounded 10 = .ok (.lload 4, 2) := by decide +kernel
theorem dX12_rounded_12 : decode cX12_rounded 12 = .ok (.lsub, 1) := by decide +kernel
theorem dX12_rounded_13 : decode cX12_rounded 13 = .ok (.lload 4, 2) := by decide +kernel
theorem dX12_rounded_15 : decode cX12_rounded 15 = .ok (.lload_n 2, 1) := by decide +kernel
theorem dX12_rounded_16 : decode cX12_rounded 16 = .ok (.ladd, 1) := by decide +kernel
theorem dX12_rounded_17 : decode cX12_rounded 17 = .ok (.lload_n 0, 1) := by decide +kernel
theorem dX12_rounded_18 : decode cX12_rounded 18 = .ok (.lsub, 1) := by decide +kernel
theorem dX12_rounded_19 : decode cX12_rounded 19 = .ok (.lcmp, 1) := by decide +kernel
theorem dX12_rounded_20 : decode cX12_rounded 20 = .ok (.ifCond .lt 10, 3) := by decide +kernel
theorem dX12_rounded_23 : decode cX12_rounded 23 = .ok (.lload 4, 2) := by decide +kernel
theorem dX12_rounded_25 : decode cX12_rounded 25 = .ok (.lload_n 2, 1) := by decide +kernel
theorem dX12_rounded_26 : decode cX12_rounded 26 = .ok (.ladd, 1) := by decide +kernel
theorem dX12_rounded_27 : decode cX12_rounded 27 = .ok (.goto 5, 3) := by decide +kernel
theorem dX12_rounded_30 : decode cX12_rounded 30 = .ok (.lload 4, 2) := by decide +kernel
theorem dX12_rounded_32 : decode cX12_rounded 32 = .ok (.lreturn, 1) := by decide +kernel
theorem dX12_puts_0 : decode cX12_puts 0 = .ok (.lload_n 3, 1) := by decide +kernel
theorem dX12_puts_1 : decode cX12_puts 1 = .ok (.ldc2_w 275, 3) := by decide +kernel
theorem dX12_puts_4 : decode cX12_puts 4 = .ok (.lcmp, 1) := by decide +kernel
theorem dX12_puts_5 : decode cX12_puts 5 = .ok (.ifCond .lt 11, 3) := by decide +kernel
theorem dX12_puts_8 : decode cX12_puts 8 = .ok (.lload_n 3, 1) := by decide +kernel
theorem dX12_puts_9 : decode cX12_puts 9 = .ok (.ldc2_w 277, 3) := by decide +kernel
theorem dX12_puts_12 : decode cX12_puts 12 = .ok (.lcmp, 1) := by decide +kernel
theorem dX12_puts_13 : decode cX12_puts 13 = .ok (.ifCond .le 5, 3) := by decide +kernel
theorem dX12_puts_16 : decode cX12_puts 16 = .ok (.iconst 0, 1) := by decide +kernel
theorem dX12_puts_17 : decode cX12_puts 17 = .ok (.ireturn, 1) := by decide +kernel
theorem dX12_puts_18 : decode cX12_puts 18 = .ok (.sipush 137, 3) := by decide +kernel
theorem dX12_puts_21 : decode cX12_puts 21 = .ok (.iconst 2, 1) := by decide +kernel
theorem dX12_puts_22 : decode cX12_puts 22 = .ok (.iload_n 2, 1) := by decide +kernel
theorem dX12_puts_23 : decode cX12_puts 23 = .ok (.bipush 16, 2) := by decide +kernel
theorem dX12_puts_25 : decode cX12_puts 25 = .ok (.irem, 1) := by decide +kernel
theorem dX12_puts_26 : decode cX12_puts 26 = .ok (.imul, 1) := by decide +kernel
theorem dX12_puts_27 : decode cX12_puts 27 = .ok (.iadd, 1) := by decide +kernel
theorem dX12_puts_28 : decode cX12_puts 28 = .ok (.istore 7, 2) := by decide +kernel
theorem dX12_puts_30 : decode cX12_puts 30 = .ok (.iload 6, 2) := by decide +kernel
theorem dX12_puts_32 : decode cX12_puts 32 = .ok (.iconst 2, 1) := by decide +kernel
theorem dX12_puts_33 : decode cX12_puts 33 = .ok (.irem, 1) := by decide +kernel
theorem dX12_puts_34 : decode cX12_puts 34 = .ok (.iconst 1, 1) := by decide +kernel
theorem dX12_puts_35 : decode cX12_puts 35 = .ok (.if_icmp .ne 33, 3) := by decide +kernel
theorem dX12_puts_38 : decode cX12_puts 38 = .ok (.aload_n 0, 1) := by decide +kernel
theorem dX12_puts_39 : decode cX12_puts 39 = .ok (.getfield 14, 3) := by decide +kernel
theorem dX12_puts_42 : decode cX12_puts 42 = .ok (.iload 7, 2) := by decide +kernel
theorem dX12_puts_44 : decode cX12_puts 44 = .ok (.iconst 1, 1) := by decide +kernel
theorem dX12_puts_45 : decode cX12_puts 45 = .ok (.iadd, 1) := by decide +kernel
theorem dX12_puts_46 : decode cX12_puts 46 = .ok (.iaload, 1) := by decide +kernel
theorem dX12_puts_47 : decode cX12_puts 47 = .ok (.ifCond .eq 21, 3) := by decide +kernel
theorem dX12_puts_50 : decode cX12_puts 50 = .ok (.aload_n 0, 1) := by decide +kernel
theorem dX12_puts_51 : decode cX12_puts 51 = .ok (.getfield 14, 3) := by decide +kernel
theorem dX12_puts_54 : decode cX12_puts 54 = .ok (.iload 7, 2) := by decide +kernel
theorem dX12_puts_56 : decode cX12_puts 56 = .ok (.iaload, 1) := by decide +kernel
theorem dX12_puts_57 : decode cX12_puts 57 = .ok (.aload_n 0, 1) := by decide +kernel
theorem dX12_puts_58 : decode cX12_puts 58 = .ok (.invokevirtual 83, 3) := by decide +kernel
theorem dX12_puts_61 : decode cX12_puts 61 = .ok (.if_icmp .gt 7, 3) := by decide +kernel
theorem dX12_puts_64 : decode cX12_puts 64 = .ok (.iconst 1, 1) := by decide +kernel
theorem dX12_puts_65 : decode cX12_puts 65 = .ok (.goto 4, 3) := by decide +kernel
theorem dX12_puts_68 : decode cX12_puts 68 = .ok (.iconst 0, 1) := by decide +kernel
theorem dX12_puts_69 : decode cX12_puts 69 = .ok (.istore 8, 2) := by decide +kernel
theorem dX12_puts_71 : decode cX12_puts 71 = .ok (.aload_n 0, 1) := by decide +kernel
theorem dX12_puts_72 : decode cX12_puts 72 = .ok (.iload_n 2, 1) := by decide +kernel
theorem dX12_puts_73 : decode cX12_puts 73 = .ok (.lload_n 3, 1) := by decide +kernel
theorem dX12_puts_74 : decode cX12_puts 74 = .ok (.l2i, 1) := by decide +kernel
theorem dX12_puts_75 : decode cX12_puts 75 = .ok (.iload 8, 2) := by decide +kernel
theorem dX12_puts_77 : decode cX12_puts 77 = .ok (.ifCond .eq 15, 3) := by decide +kernel
theorem dX12_puts_80 : decode cX12_puts 80 = .ok (.aload_n 0, 1) := by decide +kernel
theorem dX12_puts_81 : decode cX12_puts 81 = .ok (.getfield 14, 3) := by decide +kernel
theorem dX12_puts_84 : decode cX12_puts 84 = .ok (.iload 7, 2) := by decide +kernel
theorem dX12_puts_86 : decode cX12_puts 86 = .ok (.iconst 1, 1) := by decide +kernel
theorem dX12_puts_87 : decode cX12_puts 87 = .ok (.iadd, 1) := by decide +kernel
theorem dX12_puts_88 : decode cX12_puts 88 = .ok (.iaload, 1) := by decide +kernel
theorem dX12_puts_89 : decode cX12_puts 89 = .ok (.goto 4, 3) := by decide +kernel
theorem dX12_puts_92 : decode cX12_puts 92 = .ok (.iconst 0, 1) := by decide +kernel
theorem dX12_puts_93 : decode cX12_puts 93 = .ok (.ixor, 1) := by decide +kernel
theorem dX12_puts_94 : decode cX12_puts 94 = .ok (.iload_n 1, 1) := by decide +kernel
theorem dX12_puts_95 : decode cX12_puts 95 = .ok (.iload 5, 2) := by decide +kernel
theorem dX12_puts_97 : decode cX12_puts 97 = .ok (.iload 6, 2) := by decide +kernel
theorem dX12_puts_99 : decode cX12_puts 99 = .ok (.invokevirtual 86, 3) := by decide +kernel
theorem dX12_puts_102 : decode cX12_puts 102 = .ok (.iconst 1, 1) := by decide +kernel
theorem dX12_puts_103 : decode cX12_puts 103 = .ok (.ireturn, 1) := by decide +kernel
theorem dX12_goes_0 : decode cX12_goes 0 = .ok (.aload_n 0, 1) := by decide +kernel
theorem dX12_goes_1 : decode cX12_goes 1 = .ok (.invokevirtual 79, 3) := by decide +kernel
theorem dX12_goes_4 : decode cX12_goes 4 = .ok (.istore_n 3, 1) := by decide +kernel
theorem dX12_goes_5 : decode cX12_goes 5 = .ok (.iconst 0, 1) := by decide +kernel
theorem dX12_goes_6 : decode cX12_goes 6 = .ok (.istore 4, 2) := by decide +kernel
theorem dX12_goes_8 : decode cX12_goes 8 = .ok (.iload 4, 2) := by decide +kernel
theorem dX12_goes_10 : decode cX12_goes 10 = .ok (.aload_n 0, 1) := by decide +kernel
theorem dX12_goes_11 : decode cX12_goes 11 = .ok (.iload_n 1, 1) := by decide +kernel
theorem dX12_goes_12 : decode cX12_goes 12 = .ok (.bipush 16, 2) := by decide +kernel
theorem dX12_goes_14 : decode cX12_goes 14 = .ok (.invokevirtual 250, 3) := by decide +kernel
theorem dX12_goes_17 : decode cX12_goes 17 = .ok (.if_icmp .ge 316, 3) := by decide +kernel
theorem dX12_goes_20 : decode cX12_goes 20 = .ok (.bipush 22, 2) := by decide +kernel
theorem dX12_goes_22 : decode cX12_goes 22 = .ok (.bipush 6, 2) := by decide +kernel
theorem dX12_goes_24 : decode cX12_goes 24 = .ok (.iload 4, 2) := by decide +kernel
theorem dX12_goes_26 : decode cX12_goes 26 = .ok (.imul, 1) := by decide +kernel
theorem dX12_goes_27 : decode cX12_goes 27 = .ok (.iadd, 1) := by decide +kernel
theorem dX12_goes_28 : decode cX12_goes 28 = .ok (.istore 5, 2) := by decide +kernel
theorem dX12_goes_30 : decode cX12_goes 30 = .ok (.aload_n 0, 1) := by decide +kernel
theorem dX12_goes_31 : decode cX12_goes 31 = .ok (.iload_n 1, 1) := by decide +kernel
theorem dX12_goes_32 : decode cX12_goes 32 = .ok (.iload 5, 2) := by decide +kernel
theorem dX12_goes_34 : decode cX12_goes 34 = .ok (.invokevirtual 250, 3) := by decide +kernel
theorem dX12_goes_37 : decode cX12_goes 37 = .ok (.istore 6, 2) := by decide +kernel
theorem dX12_goes_39 : decode cX12_goes 39 = .ok (.aload_n 0, 1) := by decide +kernel
theorem dX12_goes_40 : decode cX12_goes 40 = .ok (.iload_n 1, 1) := by decide +kernel
theorem dX12_goes_41 : decode cX12_goes 41 = .ok (.iload 5, 2) := by decide +kernel
theorem dX12_goes_43 : decode cX12_goes 43 = .ok (.iconst 1, 1) := by decide +kernel
theorem dX12_goes_44 : decode cX12_goes 44 = .ok (.iadd, 1) := by decide +kernel
theorem dX12_goes_45 : decode cX12_goes 45 = .ok (.invokevirtual 250, 3) := by decide +kernel
theorem dX12_goes_48 : decode cX12_goes 48 = .ok (.istore 7, 2) := by decide +kernel
theorem dX12_goes_50 : decode cX12_goes 50 = .ok (.iload 6, 2) := by decide +kernel
theorem dX12_goes_52 : decode cX12_goes 52 = .ok (.ifCond .ne 120, 3) := by decide +kernel
theorem dX12_goes_55 : decode cX12_goes 55 = .ok (.aload_n 0, 1) := by decide +kernel
theorem dX12_goes_56 : decode cX12_goes 56 = .ok (.getfield 14, 3) := by decide +kernel
theorem dX12_goes_59 : decode cX12_goes 59 = .ok (.bipush 9, 2) := by decide +kernel
theorem dX12_goes_61 : decode cX12_goes 61 = .ok (.iload 7, 2) := by decide +kernel
theorem dX12_goes_63 : decode cX12_goes 63 = .ok (.iadd, 1) := by decide +kernel
theorem dX12_goes_64 : decode cX12_goes 64 = .ok (.iaload, 1) := by decide +kernel
theorem dX12_goes_65 : decode cX12_goes 65 = .ok (.istore 8, 2) := by decide +kernel
theorem dX12_goes_67 : decode cX12_goes 67 = .ok (.iconst 0, 1) := by decide +kernel
theorem dX12_goes_68 : decode cX12_goes 68 = .ok (.istore 9, 2) := by decide +kernel
theorem dX12_goes_70 : decode cX12_goes 70 = .ok (.iload 9, 2) := by decide +kernel
theorem dX12_goes_72 : decode cX12_goes 72 = .ok (.aload_n 0, 1) := by decide +kernel
theorem dX12_goes_73 : decode cX12_goes 73 = .ok (.iload_n 1, 1) := by decide +kernel
theorem dX12_goes_74 : decode cX12_goes 74 = .ok (.iload 5, 2) := by decide +kernel
theorem dX12_goes_76 : decode cX12_goes 76 = .ok (.iconst 2, 1) := by decide +kernel
theorem dX12_goes_77 : decode cX12_goes 77 = .ok (.iadd, 1) := by decide +kernel
theorem dX12_goes_78 : decode cX12_goes 78 = .ok (.invokevirtual 250, 3) := by decide +kernel
theorem dX12_goes_81 : decode cX12_goes 81 = .ok (.if_icmp .ge 63, 3) := by decide +kernel
theorem dX12_goes_84 : decode cX12_goes 84 = .ok (.aload_n 0, 1) := by decide +kernel
theorem dX12_goes_85 : decode cX12_goes 85 = .ok (.iload_n 1, 1) := by decide +kernel
theorem dX12_goes_86 : decode cX12_goes 86 = .ok (.iload 5, 2) := by decide +kernel
theorem dX12_goes_88 : decode cX12_goes 88 = .ok (.invokevirtual 279, 3) := by decide +kernel
theorem dX12_goes_91 : decode cX12_goes 91 = .ok (.lstore 10, 2) := by decide +kernel
theorem dX12_goes_93 : decode cX12_goes 93 = .ok (.lload 10, 2) := by decide +kernel
theorem dX12_goes_95 : decode cX12_goes 95 = .ok (.ldc2_w 275, 3) := by decide +kernel
theorem dX12_goes_98 : decode cX12_goes 98 = .ok (.lcmp, 1) := by decide +kernel
theorem dX12_goes_99 : decode cX12_goes 99 = .ok (.ifCond .lt 12, 3) := by decide +kernel
theorem dX12_goes_102 : decode cX12_goes 102 = .ok (.lload 10, 2) := by decide +kernel
theorem dX12_goes_104 : decode cX12_goes 104 = .ok (.ldc2_w 277, 3) := by decide +kernel
theorem dX12_goes_107 : decode cX12_goes 107 = .ok (.lcmp, 1) := by decide +kernel
theorem dX12_goes_108 : decode cX12_goes 108 = .ok (.ifCond .le 17, 3) := by decide +kernel
theorem dX12_goes_111 : decode cX12_goes 111 = .ok (.aload_n 0, 1) := by decide +kernel
theorem dX12_goes_112 : decode cX12_goes 112 = .ok (.getfield 14, 3) := by decide +kernel
theorem dX12_goes_115 : decode cX12_goes 115 = .ok (.bipush 9, 2) := by decide +kernel
theorem dX12_goes_117 : decode cX12_goes 117 = .ok (.iload 7, 2) := by decide +kernel
theorem dX12_goes_119 : decode cX12_goes 119 = .ok (.iadd, 1) := by decide +kernel
theorem dX12_goes_120 : decode cX12_goes 120 = .ok (.iload 8, 2) := by decide +kernel
theorem dX12_goes_122 : decode cX12_goes 122 = .ok (.iastore, 1) := by decide +kernel
theorem dX12_goes_123 : decode cX12_goes 123 = .ok (.iconst 0, 1) := by decide +kernel
theorem dX12_goes_124 : decode cX12_goes 124 = .ok (.ireturn, 1) := by decide +kernel
theorem dX12_goes_125 : decode cX12_goes 125 = .ok (.aload_n 0, 1) := by decide +kernel
theorem dX12_goes_126 : decode cX12_goes 126 = .ok (.getfield 14, 3) := by decide +kernel
theorem dX12_goes_129 : decode cX12_goes 129 = .ok (.bipush 9, 2) := by decide +kernel
theorem dX12_goes_131 : decode cX12_goes 131 = .ok (.iload 7, 2) := by decide +kernel
theorem dX12_goes_133 : decode cX12_goes 133 = .ok (.iadd, 1) := by decide +kernel
theorem dX12_goes_134 : decode cX12_goes 134 = .ok (.lload 10, 2) := by decide +kernel
theorem dX12_goes_136 : decode cX12_goes 136 = .ok (.l2i, 1) := by decide +kernel
theorem dX12_goes_137 : decode cX12_goes 137 = .ok (.iastore, 1) := by decide +kernel
theorem dX12_goes_138 : decode cX12_goes 138 = .ok (.iinc 9 1, 3) := by decide +kernel
theorem dX12_goes_141 : decode cX12_goes 141 = .ok (.goto (-71), 3) := by decide +kernel
theorem dX12_goes_144 : decode cX12_goes 144 = .ok (.aload_n 0, 1) := by decide +kernel
theorem dX12_goes_145 : decode cX12_goes 145 = .ok (.iload_n 1, 1) := by decide +kernel
theorem dX12_goes_146 : decode cX12_goes 146 = .ok (.iload 7, 2) := by decide +kernel
theorem dX12_goes_148 : decode cX12_goes 148 = .ok (.aload_n 0, 1) := by decide +kernel
theorem dX12_goes_149 : decode cX12_goes 149 = .ok (.getfield 14, 3) := by decide +kernel
theorem dX12_goes_152 : decode cX12_goes 152 = .ok (.bipush 9, 2) := by decide +kernel
theorem dX12_goes_154 : decode cX12_goes 154 = .ok (.iload 7, 2) := by decide +kernel
theorem dX12_goes_156 : decode cX12_goes 156 = .ok (.iadd, 1) := by decide +kernel
theorem dX12_goes_157 : decode cX12_goes 157 = .ok (.iaload, 1) := by decide +kernel
theorem dX12_goes_158 : decode cX12_goes 158 = .ok (.i2l, 1) := by decide +kernel
theorem dX12_goes_159 : decode cX12_goes 159 = .ok (.iload_n 3, 1) := by decide +kernel
theorem dX12_goes_160 : decode cX12_goes 160 = .ok (.iload_n 2, 1) := by decide +kernel
theorem dX12_goes_161 : decode cX12_goes 161 = .ok (.invokevirtual 282, 3) := by decide +kernel
theorem dX12_goes_164 : decode cX12_goes 164 = .ok (.ifCond .ne 5, 3) := by decide +kernel
theorem dX12_goes_167 : decode cX12_goes 167 = .ok (.iconst 0, 1) := by decide +kernel
theorem dX12_goes_168 : decode cX12_goes 168 = .ok (.ireturn, 1) := by decide +kernel
theorem dX12_goes_169 : decode cX12_goes 169 = .ok (.goto 158, 3) := by decide +kernel
theorem dX12_goes_172 : decode cX12_goes 172 = .ok (.iload 6, 2) := by decide +kernel
theorem dX12_goes_174 : decode cX12_goes 174 = .ok (.iconst 1, 1) := by decide +kernel
theorem dX12_goes_175 : decode cX12_goes 175 = .ok (.if_icmp .ne 72, 3) := by decide +kernel
theorem dX12_goes_178 : decode cX12_goes 178 = .ok (.lconst 0, 1) := by decide +kernel
theorem dX12_goes_179 : decode cX12_goes 179 = .ok (.lstore 8, 2) := by decide +kernel
theorem dX12_goes_181 : decode cX12_goes 181 = .ok (.aload_n 0, 1) := by decide +kernel
theorem dX12_goes_182 : decode cX12_goes 182 = .ok (.iload_n 1, 1) := by decide +kernel
theorem dX12_goes_183 : decode cX12_goes 183 = .ok (.iload 5, 2) := by decide +kernel
theorem dX12_goes_185 : decode cX12_goes 185 = .ok (.iconst 2, 1) := by decide +kernel
theorem dX12_goes_186 : decode cX12_goes 186 = .ok (.iadd, 1) := by decide +kernel
theorem dX12_goes_187 : decode cX12_goes 187 = .ok (.invokevirtual 250, 3) := by decide +kernel
theorem dX12_goes_190 : decode cX12_goes 190 = .ok (.istore 10, 2) := by decide +kernel
theorem dX12_goes_192 : decode cX12_goes 192 = .ok (.iload 10, 2) := by decide +kernel
theorem dX12_goes_194 : decode cX12_goes 194 = .ok (.aload_n 0, 1) := by decide +kernel
theorem dX12_goes_195 : decode cX12_goes 195 = .ok (.iload_n 1, 1) := by decide +kernel
theorem dX12_goes_196 : decode cX12_goes 196 = .ok (.iload 5, 2) := by decide +kernel
theorem dX12_goes_198 : decode cX12_goes 198 = .ok (.iconst 3, 1) := by decide +kernel
theorem dX12_goes_199 : decode cX12_goes 199 = .ok (.iadd, 1) := by decide +kernel
theorem dX12_goes_200 : decode cX12_goes 200 = .ok (.invokevirtual 250, 3) := by decide +kernel
theorem dX12_goes_203 : decode cX12_goes 203 = .ok (.if_icmp .gt 25, 3) := by decide +kernel
theorem dX12_goes_206 : decode cX12_goes 206 = .ok (.lload 8, 2) := by decide +kernel
theorem dX12_goes_208 : decode cX12_goes 208 = .ok (.aload_n 0, 1) := by decide +kernel
theorem dX12_goes_209 : decode cX12_goes 209 = .ok (.getfield 14, 3) := by decide +kernel
theorem dX12_goes_212 : decode cX12_goes 212 = .ok (.bipush 9, 2) := by decide +kernel
theorem dX12_goes_214 : decode cX12_goes 214 = .ok (.iload 10, 2) := by decide +kernel
theorem dX12_goes_216 : decode cX12_goes 216 = .ok (.iadd, 1) := by decide +kernel
theorem dX12_goes_217 : decode cX12_goes 217 = .ok (.iaload, 1) := by decide +kernel
theorem dX12_goes_218 : decode cX12_goes 218 = .ok (.i2l, 1) := by decide +kernel
theorem dX12_goes_219 : decode cX12_goes 219 = .ok (.ladd, 1) := by decide +kernel
theorem dX12_goes_220 : decode cX12_goes 220 = .ok (.lstore 8, 2) := by decide +kernel
theorem dX12_goes_222 : decode cX12_goes 222 = .ok (.iinc 10 1, 3) := by decide +kernel
theorem dX12_goes_225 : decode cX12_goes 225 = .ok (.goto (-33), 3) := by decide +kernel
theorem dX12_goes_228 : decode cX12_goes 228 = .ok (.aload_n 0, 1) := by decide +kernel
theorem dX12_goes_229 : decode cX12_goes 229 = .ok (.iload_n 1, 1) := by decide +kernel
theorem dX12_goes_230 : decode cX12_goes 230 = .ok (.iload 7, 2) := by decide +kernel
theorem dX12_goes_232 : decode cX12_goes 232 = .ok (.lload 8, 2) := by decide +kernel
theorem dX12_goes_234 : decode cX12_goes 234 = .ok (.iload_n 3, 1) := by decide +kernel
theorem dX12_goes_235 : decode cX12_goes 235 = .ok (.iload_n 2, 1) := by decide +kernel
theorem dX12_goes_236 : decode cX12_goes 236 = .ok (.invokevirtual 282, 3) := by decide +kernel
theorem dX12_goes_239 : decode cX12_goes 239 = .ok (.ifCond .ne 5, 3) := by decide +kernel
theorem dX12_goes_242 : decode cX12_goes 242 = .ok (.iconst 0, 1) := by decide +kernel
theorem dX12_goes_243 : decode cX12_goes 243 = .ok (.ireturn, 1) := by decide +kernel
theorem dX12_goes_244 : decode cX12_goes 244 = .ok (.goto 83, 3) := by decide +kernel
theorem dX12_goes_247 : decode cX12_goes 247 = .ok (.iload 6, 2) := by decide +kernel
theorem dX12_goes_249 : decode cX12_goes 249 = .ok (.iconst 2, 1) := by decide +kernel
theorem dX12_goes_250 : decode cX12_goes 250 = .ok (.if_icmp .ne 41, 3) := by decide +kernel
theorem dX12_goes_253 : decode cX12_goes 253 = .ok (.aload_n 0, 1) := by decide +kernel
theorem dX12_goes_254 : decode cX12_goes 254 = .ok (.iload_n 1, 1) := by decide +kernel
theorem dX12_goes_255 : decode cX12_goes 255 = .ok (.iload 7, 2) := by decide +kernel
theorem dX12_goes_257 : decode cX12_goes 257 = .ok (.aload_n 0, 1) := by decide +kernel
theorem dX12_goes_258 : decode cX12_goes 258 = .ok (.getfield 14, 3) := by decide +kernel
theorem dX12_goes_261 : decode cX12_goes 261 = .ok (.bipush 9, 2) := by decide +kernel
theorem dX12_goes_263 : decode cX12_goes 263 = .ok (.iload 7, 2) := by decide +kernel
theorem dX12_goes_265 : decode cX12_goes 265 = .ok (.iadd, 1) := by decide +kernel
theorem dX12_goes_266 : decode cX12_goes 266 = .ok (.iaload, 1) := by decide +kernel
theorem dX12_goes_267 : decode cX12_goes 267 = .ok (.i2l, 1) := by decide +kernel
theorem dX12_goes_268 : decode cX12_goes 268 = .ok (.aload_n 0, 1) := by decide +kernel
theorem dX12_goes_269 : decode cX12_goes 269 = .ok (.iload_n 1, 1) := by decide +kernel
theorem dX12_goes_270 : decode cX12_goes 270 = .ok (.iload 5, 2) := by decide +kernel
theorem dX12_goes_272 : decode cX12_goes 272 = .ok (.iconst 2, 1) := by decide +kernel
theorem dX12_goes_273 : decode cX12_goes 273 = .ok (.iadd, 1) := by decide +kernel
theorem dX12_goes_274 : decode cX12_goes 274 = .ok (.invokevirtual 250, 3) := by decide +kernel
theorem dX12_goes_277 : decode cX12_goes 277 = .ok (.i2l, 1) := by decide +kernel
theorem dX12_goes_278 : decode cX12_goes 278 = .ok (.invokestatic 286, 3) := by decide +kernel
theorem dX12_goes_281 : decode cX12_goes 281 = .ok (.iload_n 3, 1) := by decide +kernel
theorem dX12_goes_282 : decode cX12_goes 282 = .ok (.iload_n 2, 1) := by decide +kernel
theorem dX12_goes_283 : decode cX12_goes 283 = .ok (.invokevirtual 282, 3) := by decide +kernel
theorem dX12_goes_286 : decode cX12_goes 286 = .ok (.ifCond .ne 41, 3) := by decide +kernel
theorem dX12_goes_289 : decode cX12_goes 289 = .ok (.iconst 0, 1) := by decide +kernel
theorem dX12_goes_290 : decode cX12_goes 290 = .ok (.ireturn, 1) := by decide +kernel
theorem dX12_goes_291 : decode cX12_goes 291 = .ok (.aload_n 0, 1) := by decide +kernel
theorem dX12_goes_292 : decode cX12_goes 292 = .ok (.iload_n 1, 1) := by decide +kernel
theorem dX12_goes_293 : decode cX12_goes 293 = .ok (.iload 5, 2) := by decide +kernel
theorem dX12_goes_295 : decode cX12_goes 295 = .ok (.invokevirtual 279, 3) := by decide +kernel
theorem dX12_goes_298 : decode cX12_goes 298 = .ok (.lconst 1, 1) := by decide +kernel
theorem dX12_goes_299 : decode cX12_goes 299 = .ok (.lcmp, 1) := by decide +kernel
theorem dX12_goes_300 : decode cX12_goes 300 = .ok (.ifCond .ne 27, 3) := by decide +kernel
theorem dX12_goes_303 : decode cX12_goes 303 = .ok (.iload 6, 2) := by decide +kernel
theorem dX12_goes_305 : decode cX12_goes 305 = .ok (.iconst 4, 1) := by decide +kernel
theorem dX12_goes_306 : decode cX12_goes 306 = .ok (.if_icmp .ne 5, 3) := by decide +kernel
theorem dX12_goes_309 : decode cX12_goes 309 = .ok (.iconst 0, 1) := by decide +kernel
theorem dX12_goes_310 : decode cX12_goes 310 = .ok (.ireturn, 1) := by decide +kernel
theorem dX12_goes_311 : decode cX12_goes 311 = .ok (.aload_n 0, 1) := by decide +kernel
theorem dX12_goes_312 : decode cX12_goes 312 = .ok (.iload_n 1, 1) := by decide +kernel
theorem dX12_goes_313 : decode cX12_goes 313 = .ok (.bipush 15, 2) := by decide +kernel
theorem dX12_goes_315 : decode cX12_goes 315 = .ok (.aload_n 0, 1) := by decide +kernel
theorem dX12_goes_316 : decode cX12_goes 316 = .ok (.iload_n 1, 1) := by decide +kernel
theorem dX12_goes_317 : decode cX12_goes 317 = .ok (.bipush 15, 2) := by decide +kernel
theorem dX12_goes_319 : decode cX12_goes 319 = .ok (.invokevirtual 250, 3) := by decide +kernel
theorem dX12_goes_322 : decode cX12_goes 322 = .ok (.iconst 1, 1) := by decide +kernel
theorem dX12_goes_323 : decode cX12_goes 323 = .ok (.iadd, 1) := by decide +kernel
theorem dX12_goes_324 : decode cX12_goes 324 = .ok (.invokevirtual 243, 3) := by decide +kernel
theorem dX12_goes_327 : decode cX12_goes 327 = .ok (.iinc 4 1, 3) := by decide +kernel
theorem dX12_goes_330 : decode cX12_goes 330 = .ok (.goto (-322), 3) := by decide +kernel
theorem dX12_goes_333 : decode cX12_goes 333 = .ok (.iconst 1, 1) := by decide +kernel
theorem dX12_goes_334 : decode cX12_goes 334 = .ok (.ireturn, 1) := by decide +kernel
theorem dX12_goesShort_0 : decode cX12_goesShort 0 = .ok (.aload_n 0, 1) := by decide +kernel
theorem dX12_goesShort_1 : decode cX12_goesShort 1 = .ok (.invokevirtual 79, 3) := by decide +kernel
theorem dX12_goesShort_4 : decode cX12_goesShort 4 = .ok (.istore_n 2, 1) := by decide +kernel
theorem dX12_goesShort_5 : decode cX12_goesShort 5 = .ok (.iconst 0, 1) := by decide +kernel
theorem dX12_goesShort_6 : decode cX12_goesShort 6 = .ok (.istore_n 3, 1) := by decide +kernel
theorem dX12_goesShort_7 : decode cX12_goesShort 7 = .ok (.iload_n 3, 1) := by decide +kernel
theorem dX12_goesShort_8 : decode cX12_goesShort 8 = .ok (.bipush 64, 2) := by decide +kernel
theorem dX12_goesShort_10 : decode cX12_goesShort 10 = .ok (.if_icmp .ge 57, 3) := by decide +kernel
theorem dX12_goesShort_13 : decode cX12_goesShort 13 = .ok (.aload_n 0, 1) := by decide +kernel
theorem dX12_goesShort_14 : decode cX12_goesShort 14 = .ok (.iload_n 1, 1) := by decide +kernel
theorem dX12_goesShort_15 : decode cX12_goesShort 15 = .ok (.bipush 19, 2) := by decide +kernel
theorem dX12_goesShort_17 : decode cX12_goesShort 17 = .ok (.invokevirtual 255, 3) := by decide +kernel
theorem dX12_goesShort_20 : decode cX12_goesShort 20 = .ok (.iload_n 3, 1) := by decide +kernel
theorem dX12_goesShort_21 : decode cX12_goesShort 21 = .ok (.lshr, 1) := by decide +kernel
theorem dX12_goesShort_22 : decode cX12_goesShort 22 = .ok (.lconst 1, 1) := by decide +kernel
theorem dX12_goesShort_23 : decode cX12_goesShort 23 = .ok (.land, 1) := by decide +kernel
theorem dX12_goesShort_24 : decode cX12_goesShort 24 = .ok (.lconst 1, 1) := by decide +kernel
theorem dX12_goesShort_25 : decode cX12_goesShort 25 = .ok (.lcmp, 1) := by decide +kernel
theorem dX12_goesShort_26 : decode cX12_goesShort 26 = .ok (.ifCond .ne 35, 3) := by decide +kernel
theorem dX12_goesShort_29 : decode cX12_goesShort 29 = .ok (.aload_n 0, 1) := by decide +kernel
theorem dX12_goesShort_30 : decode cX12_goesShort 30 = .ok (.iload_n 1, 1) := by decide +kernel
theorem dX12_goesShort_31 : decode cX12_goesShort 31 = .ok (.iload_n 3, 1) := by decide +kernel
theorem dX12_goesShort_32 : decode cX12_goesShort 32 = .ok (.aload_n 0, 1) := by decide +kernel
theorem dX12_goesShort_33 : decode cX12_goesShort 33 = .ok (.getfield 14, 3) := by decide +kernel
theorem dX12_goesShort_36 : decode cX12_goesShort 36 = .ok (.bipush 73, 2) := by decide +kernel
theorem dX12_goesShort_38 : decode cX12_goesShort 38 = .ok (.iload_n 3, 1) := by decide +kernel
theorem dX12_goesShort_39 : decode cX12_goesShort 39 = .ok (.iadd, 1) := by decide +kernel
theorem dX12_goesShort_40 : decode cX12_goesShort 40 = .ok (.iaload, 1) := by decide +kernel
theorem dX12_goesShort_41 : decode cX12_goesShort 41 = .ok (.i2l, 1) := by decide +kernel
theorem dX12_goesShort_42 : decode cX12_goesShort 42 = .ok (.aload_n 0, 1) := by decide +kernel
theorem dX12_goesShort_43 : decode cX12_goesShort 43 = .ok (.iload_n 1, 1) := by decide +kernel
theorem dX12_goesShort_44 : decode cX12_goesShort 44 = .ok (.bipush 7, 2) := by decide +kernel
theorem dX12_goesShort_46 : decode cX12_goesShort 46 = .ok (.invokevirtual 250, 3) := by decide +kernel
theorem dX12_goesShort_49 : decode cX12_goesShort 49 = .ok (.i2l, 1) := by decide +kernel
theorem dX12_goesShort_50 : decode cX12_goesShort 50 = .ok (.ladd, 1) := by decide +kernel
theorem dX12_goesShort_51 : decode cX12_goesShort 51 = .ok (.iload_n 2, 1) := by decide +kernel
theorem dX12_goesShort_52 : decode cX12_goesShort 52 = .ok (.iconst 1, 1) := by decide +kernel
theorem dX12_goesShort_53 : decode cX12_goesShort 53 = .ok (.invokevirtual 282, 3) := by decide +kernel
theorem dX12_goesShort_56 : decode cX12_goesShort 56 = .ok (.ifCond .ne 5, 3) := by decide +kernel
theorem dX12_goesShort_59 : decode cX12_goesShort 59 = .ok (.iconst 0, 1) := by decide +kernel
theorem dX12_goesShort_60 : decode cX12_goesShort 60 = .ok (.ireturn, 1) := by decide +kernel
theorem dX12_goesShort_61 : decode cX12_goesShort 61 = .ok (.iinc 3 1, 3) := by decide +kernel
theorem dX12_goesShort_64 : decode cX12_goesShort 64 = .ok (.goto (-57), 3) := by decide +kernel
theorem dX12_goesShort_67 : decode cX12_goesShort 67 = .ok (.iconst 1, 1) := by decide +kernel
theorem dX12_goesShort_68 : decode cX12_goesShort 68 = .ok (.ireturn, 1) := by decide +kernel
theorem dX12_ends_0 : decode cX12_ends 0 = .ok (.aload_n 0, 1) := by decide +kernel
theorem dX12_ends_1 : decode cX12_ends 1 = .ok (.iload_n 1, 1) := by decide +kernel
theorem dX12_ends_2 : decode cX12_ends 2 = .ok (.bipush 8, 2) := by decide +kernel
theorem dX12_ends_4 : decode cX12_ends 4 = .ok (.iload_n 2, 1) := by decide +kernel
theorem dX12_ends_5 : decode cX12_ends 5 = .ok (.ifCond .eq 7, 3) := by decide +kernel
theorem dX12_ends_8 : decode cX12_ends 8 = .ok (.iload_n 3, 1) := by decide +kernel
theorem dX12_ends_9 : decode cX12_ends 9 = .ok (.goto 5, 3) := by decide +kernel
theorem dX12_ends_12 : decode cX12_ends 12 = .ok (.bipush 6, 2) := by decide +kernel
theorem dX12_ends_14 : decode cX12_ends 14 = .ok (.invokevirtual 243, 3) := by decide +kernel
theorem dX12_ends_17 : decode cX12_ends 17 = .ok (.aload_n 0, 1) := by decide +kernel
theorem dX12_ends_18 : decode cX12_ends 18 = .ok (.iload_n 1, 1) := by decide +kernel
theorem dX12_ends_19 : decode cX12_ends 19 = .ok (.bipush 9, 2) := by decide +kernel
theorem dX12_ends_21 : decode cX12_ends 21 = .ok (.iconst 0, 1) := by decide +kernel
theorem dX12_ends_22 : decode cX12_ends 22 = .ok (.invokevirtual 243, 3) := by decide +kernel
theorem dX12_ends_25 : decode cX12_ends 25 = .ok (.aload_n 0, 1) := by decide +kernel
theorem dX12_ends_26 : decode cX12_ends 26 = .ok (.iload_n 1, 1) := by decide +kernel
theorem dX12_ends_27 : decode cX12_ends 27 = .ok (.bipush 12, 2) := by decide +kernel
theorem dX12_ends_29 : decode cX12_ends 29 = .ok (.aload_n 0, 1) := by decide +kernel
theorem dX12_ends_30 : decode cX12_ends 30 = .ok (.invokevirtual 83, 3) := by decide +kernel
theorem dX12_ends_33 : decode cX12_ends 33 = .ok (.invokevirtual 243, 3) := by decide +kernel
theorem dX12_ends_36 : decode cX12_ends 36 = .ok (.aload_n 0, 1) := by decide +kernel
theorem dX12_ends_37 : decode cX12_ends 37 = .ok (.iload_n 1, 1) := by decide +kernel
theorem dX12_ends_38 : decode cX12_ends 38 = .ok (.bipush 13, 2) := by decide +kernel
theorem dX12_ends_40 : decode cX12_ends 40 = .ok (.aload_n 0, 1) := by decide +kernel
theorem dX12_ends_41 : decode cX12_ends 41 = .ok (.iload_n 1, 1) := by decide +kernel
theorem dX12_ends_42 : decode cX12_ends 42 = .ok (.bipush 13, 2) := by decide +kernel
theorem dX12_ends_44 : decode cX12_ends 44 = .ok (.invokevirtual 250, 3) := by decide +kernel
theorem dX12_ends_47 : decode cX12_ends 47 = .ok (.iconst 1, 1) := by decide +kernel
theorem dX12_ends_48 : decode cX12_ends 48 = .ok (.iadd, 1) := by decide +kernel
theorem dX12_ends_49 : decode cX12_ends 49 = .ok (.invokevirtual 243, 3) := by decide +kernel
theorem dX12_ends_52 : decode cX12_ends 52 = .ok (.aload_n 0, 1) := by decide +kernel
theorem dX12_ends_53 : decode cX12_ends 53 = .ok (.iload_n 1, 1) := by decide +kernel
theorem dX12_ends_54 : decode cX12_ends 54 = .ok (.bipush 14, 2) := by decide +kernel
theorem dX12_ends_56 : decode cX12_ends 56 = .ok (.aload_n 0, 1) := by decide +kernel
theorem dX12_ends_57 : decode cX12_ends 57 = .ok (.iload_n 1, 1) := by decide +kernel
theorem dX12_ends_58 : decode cX12_ends 58 = .ok (.bipush 14, 2) := by decide +kernel
theorem dX12_ends_60 : decode cX12_ends 60 = .ok (.invokevirtual 250, 3) := by decide +kernel
theorem dX12_ends_63 : decode cX12_ends 63 = .ok (.iload_n 2, 1) := by decide +kernel
theorem dX12_ends_64 : decode cX12_ends 64 = .ok (.ifCond .eq 7, 3) := by decide +kernel
theorem dX12_ends_67 : decode cX12_ends 67 = .ok (.iconst 0, 1) := by decide +kernel
theorem dX12_ends_68 : decode cX12_ends 68 = .ok (.goto 4, 3) := by decide +kernel
theorem dX12_ends_71 : decode cX12_ends 71 = .ok (.iconst 1, 1) := by decide +kernel
theorem dX12_ends_72 : decode cX12_ends 72 = .ok (.iadd, 1) := by decide +kernel
theorem dX12_ends_73 : decode cX12_ends 73 = .ok (.invokevirtual 243, 3) := by decide +kernel
theorem dX12_ends_76 : decode cX12_ends 76 = .ok (.return_, 1) := by decide +kernel
theorem dX12_isReady_0 : decode cX12_isReady 0 = .ok (.aload_n 0, 1) := by decide +kernel
theorem dX12_isReady_1 : decode cX12_isReady 1 = .ok (.iload_n 1, 1) := by decide +kernel
theorem dX12_isReady_2 : decode cX12_isReady 2 = .ok (.bipush 8, 2) := by decide +kernel
theorem dX12_isReady_4 : decode cX12_isReady 4 = .ok (.invokevirtual 250, 3) := by decide +kernel
theorem dX12_isReady_7 : decode cX12_isReady 7 = .ok (.ifCond .ne 14, 3) := by decide +kernel
theorem dX12_isReady_10 : decode cX12_isReady 10 = .ok (.aload_n 0, 1) := by decide +kernel
theorem dX12_isReady_11 : decode cX12_isReady 11 = .ok (.iload_n 1, 1) := by decide +kernel
theorem dX12_isReady_12 : decode cX12_isReady 12 = .ok (.bipush 11, 2) := by decide +kernel
theorem dX12_isReady_14 : decode cX12_isReady 14 = .ok (.invokevirtual 250, 3) := by decide +kernel
theorem dX12_isReady_17 : decode cX12_isReady 17 = .ok (.iconst 2, 1) := by decide +kernel
theorem dX12_isReady_18 : decode cX12_isReady 18 = .ok (.if_icmp .ne 5, 3) := by decide +kernel
theorem dX12_isReady_21 : decode cX12_isReady 21 = .ok (.iconst 0, 1) := by decide +kernel
theorem dX12_isReady_22 : decode cX12_isReady 22 = .ok (.ireturn, 1) := by decide +kernel
theorem dX12_isReady_23 : decode cX12_isReady 23 = .ok (.aload_n 0, 1) := by decide +kernel
theorem dX12_isReady_24 : decode cX12_isReady 24 = .ok (.iload_n 1, 1) := by decide +kernel
theorem dX12_isReady_25 : decode cX12_isReady 25 = .ok (.invokevirtual 259, 3) := by decide +kernel
theorem dX12_isReady_28 : decode cX12_isReady 28 = .ok (.istore_n 2, 1) := by decide +kernel
theorem dX12_isReady_29 : decode cX12_isReady 29 = .ok (.iconst 1, 1) := by decide +kernel
theorem dX12_isReady_30 : decode cX12_isReady 30 = .ok (.istore_n 3, 1) := by decide +kernel
theorem dX12_isReady_31 : decode cX12_isReady 31 = .ok (.iconst 0, 1) := by decide +kernel
theorem dX12_isReady_32 : decode cX12_isReady 32 = .ok (.istore 4, 2) := by decide +kernel
theorem dX12_isReady_34 : decode cX12_isReady 34 = .ok (.iload 4, 2) := by decide +kernel
theorem dX12_isReady_36 : decode cX12_isReady 36 = .ok (.aload_n 0, 1) := by decide +kernel
theorem dX12_isReady_37 : decode cX12_isReady 37 = .ok (.getfield 14, 3) := by decide +kernel
theorem dX12_isReady_40 : decode cX12_isReady 40 = .ok (.bipush 8, 2) := by decide +kernel
theorem dX12_isReady_42 : decode cX12_isReady 42 = .ok (.iaload, 1) := by decide +kernel
theorem dX12_isReady_43 : decode cX12_isReady 43 = .ok (.if_icmp .ge 44, 3) := by decide +kernel
theorem dX12_isReady_46 : decode cX12_isReady 46 = .ok (.iload_n 3, 1) := by decide +kernel
theorem dX12_isReady_47 : decode cX12_isReady 47 = .ok (.ifCond .eq 32, 3) := by decide +kernel
theorem dX12_isReady_50 : decode cX12_isReady 50 = .ok (.iload_n 2, 1) := by decide +kernel
theorem dX12_isReady_51 : decode cX12_isReady 51 = .ok (.iload 4, 2) := by decide +kernel
theorem dX12_isReady_53 : decode cX12_isReady 53 = .ok (.ishr, 1) := by decide +kernel
theorem dX12_isReady_54 : decode cX12_isReady 54 = .ok (.iconst 1, 1) := by decide +kernel
theorem dX12_isReady_55 : decode cX12_isReady 55 = .ok (.iand, 1) := by decide +kernel
theorem dX12_isReady_56 : decode cX12_isReady 56 = .ok (.ifCond .eq 19, 3) := by decide +kernel
theorem dX12_isReady_59 : decode cX12_isReady 59 = .ok (.aload_n 0, 1) := by decide +kernel
theorem dX12_isReady_60 : decode cX12_isReady 60 = .ok (.iload 4, 2) := by decide +kernel
theorem dX12_isReady_62 : decode cX12_isReady 62 = .ok (.bipush 8, 2) := by decide +kernel
theorem dX12_isReady_64 : decode cX12_isReady 64 = .ok (.invokevirtual 250, 3) := by decide +kernel
theorem dX12_isReady_67 : decode cX12_isReady 67 = .ok (.iconst 2, 1) := by decide +kernel
theorem dX12_isReady_68 : decode cX12_isReady 68 = .ok (.iconst 4, 1) := by decide +kernel
theorem dX12_isReady_69 : decode cX12_isReady 69 = .ok (.invokestatic 61, 3) := by decide +kernel
theorem dX12_isReady_72 : decode cX12_isReady 72 = .ok (.ifCond .eq 7, 3) := by decide +kernel
theorem dX12_isReady_75 : decode cX12_isReady 75 = .ok (.iconst 1, 1) := by decide +kernel
theorem dX12_isReady_76 : decode cX12_isReady 76 = .ok (.goto 4, 3) := by decide +kernel
theorem dX12_isReady_79 : decode cX12_isReady 79 = .ok (.iconst 0, 1) := by decide +kernel
theorem dX12_isReady_80 : decode cX12_isReady 80 = .ok (.istore_n 3, 1) := by decide +kernel
theorem dX12_isReady_81 : decode cX12_isReady 81 = .ok (.iinc 4 1, 3) := by decide +kernel
theorem dX12_isReady_84 : decode cX12_isReady 84 = .ok (.goto (-50), 3) := by decide +kernel
theorem dX12_isReady_87 : decode cX12_isReady 87 = .ok (.iload_n 3, 1) := by decide +kernel
theorem dX12_isReady_88 : decode cX12_isReady 88 = .ok (.ireturn, 1) := by decide +kernel
theorem dX12_begins_0 : decode cX12_begins 0 = .ok (.aload_n 0, 1) := by decide +kernel
theorem dX12_begins_1 : decode cX12_begins 1 = .ok (.invokevirtual 263, 3) := by decide +kernel
theorem dX12_begins_4 : decode cX12_begins 4 = .ok (.istore_n 1, 1) := by decide +kernel
theorem dX12_begins_5 : decode cX12_begins 5 = .ok (.iconst 0, 1) := by decide +kernel
theorem dX12_begins_6 : decode cX12_begins 6 = .ok (.istore_n 2, 1) := by decide +kernel
theorem dX12_begins_7 : decode cX12_begins 7 = .ok (.iload_n 2, 1) := by decide +kernel
theorem dX12_begins_8 : decode cX12_begins 8 = .ok (.aload_n 0, 1) := by decide +kernel
theorem dX12_begins_9 : decode cX12_begins 9 = .ok (.getfield 14, 3) := by decide +kernel
theorem dX12_begins_12 : decode cX12_begins 12 = .ok (.bipush 8, 2) := by decide +kernel
theorem dX12_begins_14 : decode cX12_begins 14 = .ok (.iaload, 1) := by decide +kernel
theorem dX12_begins_15 : decode cX12_begins 15 = .ok (.if_icmp .ge 75, 3) := by decide +kernel
theorem dX12_begins_18 : decode cX12_begins 18 = .ok (.iload_n 1, 1) := by decide +kernel
theorem dX12_begins_19 : decode cX12_begins 19 = .ok (.ifCond .eq 12, 3) := by decide +kernel
theorem dX12_begins_22 : decode cX12_begins 22 = .ok (.aload_n 0, 1) := by decide +kernel
theorem dX12_begins_23 : decode cX12_begins 23 = .ok (.getfield 34, 3) := by decide +kernel
theorem dX12_begins_26 : decode cX12_begins 26 = .ok (.iload_n 2, 1) := by decide +kernel
theorem dX12_begins_27 : decode cX12_begins 27 = .ok (.iaload, 1) := by decide +kernel
theorem dX12_begins_28 : decode cX12_begins 28 = .ok (.goto 4, 3) := by decide +kernel
theorem dX12_begins_31 : decode cX12_begins 31 = .ok (.iload_n 2, 1) := by decide +kernel
theorem dX12_begins_32 : decode cX12_begins 32 = .ok (.istore_n 3, 1) := by decide +kernel
theorem dX12_begins_33 : decode cX12_begins 33 = .ok (.aload_n 0, 1) := by decide +kernel
theorem dX12_begins_34 : decode cX12_begins 34 = .ok (.iload_n 3, 1) := by decide +kernel
theorem dX12_begins_35 : decode cX12_begins 35 = .ok (.invokevirtual 289, 3) := by decide +kernel
theorem dX12_begins_38 : decode cX12_begins 38 = .ok (.ifCond .ne 6, 3) := by decide +kernel
theorem dX12_begins_41 : decode cX12_begins 41 = .ok (.goto 43, 3) := by decide +kernel
theorem dX12_begins_44 : decode cX12_begins 44 = .ok (.aload_n 0, 1) := by decide +kernel
theorem dX12_begins_45 : decode cX12_begins 45 = .ok (.iload_n 3, 1) := by decide +kernel
theorem dX12_begins_46 : decode cX12_begins 46 = .ok (.bipush 8, 2) := by decide +kernel
theorem dX12_begins_48 : decode cX12_begins 48 = .ok (.iconst 1, 1) := by decide +kernel
theorem dX12_begins_49 : decode cX12_begins 49 = .ok (.invokevirtual 243, 3) := by decide +kernel
theorem dX12_begins_52 : decode cX12_begins 52 = .ok (.aload_n 0, 1) := by decide +kernel
theorem dX12_begins_53 : decode cX12_begins 53 = .ok (.iload_n 3, 1) := by decide +kernel
theorem dX12_begins_54 : decode cX12_begins 54 = .ok (.bipush 21, 2) := by decide +kernel
theorem dX12_begins_56 : decode cX12_begins 56 = .ok (.aload_n 0, 1) := by decide +kernel
theorem dX12_begins_57 : decode cX12_begins 57 = .ok (.iload_n 3, 1) := by decide +kernel
theorem dX12_begins_58 : decode cX12_begins 58 = .ok (.invokevirtual 292, 3) := by decide +kernel
theorem dX12_begins_61 : decode cX12_begins 61 = .ok (.invokevirtual 243, 3) := by decide +kernel
theorem dX12_begins_64 : decode cX12_begins 64 = .ok (.aload_n 0, 1) := by decide +kernel
theorem dX12_begins_65 : decode cX12_begins 65 = .ok (.iload_n 3, 1) := by decide +kernel
theorem dX12_begins_66 : decode cX12_begins 66 = .ok (.bipush 9, 2) := by decide +kernel
theorem dX12_begins_68 : decode cX12_begins 68 = .ok (.aload_n 0, 1) := by decide +kernel
theorem dX12_begins_69 : decode cX12_begins 69 = .ok (.iload_n 3, 1) := by decide +kernel
theorem dX12_begins_70 : decode cX12_begins 70 = .ok (.invokevirtual 292, 3) := by decide +kernel
theorem dX12_begins_73 : decode cX12_begins 73 = .ok (.invokevirtual 243, 3) := by decide +kernel
theorem dX12_begins_76 : decode cX12_begins 76 = .ok (.aload_n 0, 1) := by decide +kernel
theorem dX12_begins_77 : decode cX12_begins 77 = .ok (.getfield 14, 3) := by decide +kernel
theorem dX12_begins_80 : decode cX12_begins 80 = .ok (.iconst 4, 1) := by decide +kernel
theorem dX12_begins_81 : decode cX12_begins 81 = .ok (.iload_n 3, 1) := by decide +kernel
theorem dX12_begins_82 : decode cX12_begins 82 = .ok (.iastore, 1) := by decide +kernel
theorem dX12_begins_83 : decode cX12_begins 83 = .ok (.return_, 1) := by decide +kernel
theorem dX12_begins_84 : decode cX12_begins 84 = .ok (.iinc 2 1, 3) := by decide +kernel
theorem dX12_begins_87 : decode cX12_begins 87 = .ok (.goto (-80), 3) := by decide +kernel
theorem dX12_begins_90 : decode cX12_begins 90 = .ok (.return_, 1) := by decide +kernel
theorem dX12_machine_0 : decode cX12_machine 0 = .ok (.aload_n 0, 1) := by decide +kernel
theorem dX12_machine_1 : decode cX12_machine 1 = .ok (.getfield 14, 3) := by decide +kernel
theorem dX12_machine_4 : decode cX12_machine 4 = .ok (.iconst 3, 1) := by decide +kernel
theorem dX12_machine_5 : decode cX12_machine 5 = .ok (.iaload, 1) := by decide +kernel
theorem dX12_machine_6 : decode cX12_machine 6 = .ok (.ifCond .le 14, 3) := by decide +kernel
theorem dX12_machine_9 : decode cX12_machine 9 = .ok (.aload_n 0, 1) := by decide +kernel
theorem dX12_machine_10 : decode cX12_machine 10 = .ok (.getfield 14, 3) := by decide +kernel
theorem dX12_machine_13 : decode cX12_machine 13 = .ok (.iconst 3, 1) := by decide +kernel
theorem dX12_machine_14 : decode cX12_machine 14 = .ok (.dup2, 1) := by decide +kernel
theorem dX12_machine_15 : decode cX12_machine 15 = .ok (.iaload, 1) := by decide +kernel
theorem dX12_machine_16 : decode cX12_machine 16 = .ok (.iconst 1, 1) := by decide +kernel
theorem dX12_machine_17 : decode cX12_machine 17 = .ok (.isub, 1) := by decide +kernel
theorem dX12_machine_18 : decode cX12_machine 18 = .ok (.iastore, 1) := by decide +kernel
theorem dX12_machine_19 : decode cX12_machine 19 = .ok (.return_, 1) := by decide +kernel
theorem dX12_machine_20 : decode cX12_machine 20 = .ok (.aload_n 0, 1) := by decide +kernel
theorem dX12_machine_21 : decode cX12_machine 21 = .ok (.getfield 14, 3) := by decide +kernel
theorem dX12_machine_24 : decode cX12_machine 24 = .ok (.iconst 4, 1) := by decide +kernel
theorem dX12_machine_25 : decode cX12_machine 25 = .ok (.iaload, 1) := by decide +kernel
theorem dX12_machine_26 : decode cX12_machine 26 = .ok (.ifCond .ge 7, 3) := by decide +kernel
theorem dX12_machine_29 : decode cX12_machine 29 = .ok (.aload_n 0, 1) := by decide +kernel
theorem dX12_machine_30 : decode cX12_machine 30 = .ok (.invokevirtual 295, 3) := by decide +kernel
theorem dX12_machine_33 : decode cX12_machine 33 = .ok (.aload_n 0, 1) := by decide +kernel
theorem dX12_machine_34 : decode cX12_machine 34 = .ok (.getfield 14, 3) := by decide +kernel
theorem dX12_machine_37 : decode cX12_machine 37 = .ok (.iconst 4, 1) := by decide +kernel
theorem dX12_machine_38 : decode cX12_machine 38 = .ok (.iaload, 1) := by decide +kernel
theorem dX12_machine_39 : decode cX12_machine 39 = .ok (.istore_n 1, 1) := by decide +kernel
theorem dX12_machine_40 : decode cX12_machine 40 = .ok (.iload_n 1, 1) := by decide +kernel
theorem dX12_machine_41 : decode cX12_machine 41 = .ok (.ifCond .ge 4, 3) := by decide +kernel
theorem dX12_machine_44 : decode cX12_machine 44 = .ok (.return_, 1) := by decide +kernel
theorem dX12_machine_45 : decode cX12_machine 45 = .ok (.aload_n 0, 1) := by decide +kernel
theorem dX12_machine_46 : decode cX12_machine 46 = .ok (.iload_n 1, 1) := by decide +kernel
theorem dX12_machine_47 : decode cX12_machine 47 = .ok (.bipush 9, 2) := by decide +kernel
theorem dX12_machine_49 : decode cX12_machine 49 = .ok (.aload_n 0, 1) := by decide +kernel
theorem dX12_machine_50 : decode cX12_machine 50 = .ok (.iload_n 1, 1) := by decide +kernel
theorem dX12_machine_51 : decode cX12_machine 51 = .ok (.bipush 9, 2) := by decide +kernel
theorem dX12_machine_53 : decode cX12_machine 53 = .ok (.invokevirtual 250, 3) := by decide +kernel
theorem dX12_machine_56 : decode cX12_machine 56 = .ok (.iconst 1, 1) := by decide +kernel
theorem dX12_machine_57 : decode cX12_machine 57 = .ok (.isub, 1) := by decide +kernel
theorem dX12_machine_58 : decode cX12_machine 58 = .ok (.invokevirtual 243, 3) := by decide +kernel
theorem dX12_machine_61 : decode cX12_machine 61 = .ok (.aload_n 0, 1) := by decide +kernel
theorem dX12_machine_62 : decode cX12_machine 62 = .ok (.iload_n 1, 1) := by decide +kernel
theorem dX12_machine_63 : decode cX12_machine 63 = .ok (.bipush 9, 2) := by decide +kernel
theorem dX12_machine_65 : decode cX12_machine 65 = .ok (.invokevirtual 250, 3) := by decide +kernel
theorem dX12_machine_68 : decode cX12_machine 68 = .ok (.ifCond .le 4, 3) := by decide +kernel
theorem dX12_machine_71 : decode cX12_machine 71 = .ok (.return_, 1) := by decide +kernel
theorem dX12_machine_72 : decode cX12_machine 72 = .ok (.aload_n 0, 1) := by decide +kernel
theorem dX12_machine_73 : decode cX12_machine 73 = .ok (.getfield 14, 3) := by decide +kernel
theorem dX12_machine_76 : decode cX12_machine 76 = .ok (.iconst 4, 1) := by decide +kernel
theorem dX12_machine_77 : decode cX12_machine 77 = .ok (.iconst (-1), 1) := by decide +kernel
theorem dX12_machine_78 : decode cX12_machine 78 = .ok (.iastore, 1) := by decide +kernel
theorem dX12_machine_79 : decode cX12_machine 79 = .ok (.aload_n 0, 1) := by decide +kernel
theorem dX12_machine_80 : decode cX12_machine 80 = .ok (.iload_n 1, 1) := by decide +kernel
theorem dX12_machine_81 : decode cX12_machine 81 = .ok (.bipush 11, 2) := by decide +kernel
theorem dX12_machine_83 : decode cX12_machine 83 = .ok (.invokevirtual 250, 3) := by decide +kernel
theorem dX12_machine_86 : decode cX12_machine 86 = .ok (.iconst 1, 1) := by decide +kernel
theorem dX12_machine_87 : decode cX12_machine 87 = .ok (.if_icmp .ne 17, 3) := by decide +kernel
theorem dX12_machine_90 : decode cX12_machine 90 = .ok (.aload_n 0, 1) := by decide +kernel
theorem dX12_machine_91 : decode cX12_machine 91 = .ok (.iload_n 1, 1) := by decide +kernel
theorem dX12_machine_92 : decode cX12_machine 92 = .ok (.aload_n 0, 1) := by decide +kernel
theorem dX12_machine_93 : decode cX12_machine 93 = .ok (.iload_n 1, 1) := by decide +kernel
theorem dX12_machine_94 : decode cX12_machine 94 = .ok (.invokevirtual 298, 3) := by decide +kernel
theorem dX12_machine_97 : decode cX12_machine 97 = .ok (.iconst 3, 1) := by decide +kernel
theorem dX12_machine_98 : decode cX12_machine 98 = .ok (.invokevirtual 301, 3) := by decide +kernel
theorem dX12_machine_101 : decode cX12_machine 101 = .ok (.goto 15, 3) := by decide +kernel
theorem dX12_machine_104 : decode cX12_machine 104 = .ok (.aload_n 0, 1) := by decide +kernel
theorem dX12_machine_105 : decode cX12_machine 105 = .ok (.iload_n 1, 1) := by decide +kernel
theorem dX12_machine_106 : decode cX12_machine 106 = .ok (.aload_n 0, 1) := by decide +kernel
theorem dX12_machine_107 : decode cX12_machine 107 = .ok (.iload_n 1, 1) := by decide +kernel
theorem dX12_machine_108 : decode cX12_machine 108 = .ok (.iconst 3, 1) := by decide +kernel
theorem dX12_machine_109 : decode cX12_machine 109 = .ok (.invokevirtual 305, 3) := by decide +kernel
theorem dX12_machine_112 : decode cX12_machine 112 = .ok (.iconst 2, 1) := by decide +kernel
theorem dX12_machine_113 : decode cX12_machine 113 = .ok (.invokevirtual 301, 3) := by decide +kernel
theorem dX12_machine_116 : decode cX12_machine 116 = .ok (.return_, 1) := by decide +kernel
theorem dX12_clerks_0 : decode cX12_clerks 0 = .ok (.iconst 0, 1) := by decide +kernel
theorem dX12_clerks_1 : decode cX12_clerks 1 = .ok (.istore_n 1, 1) := by decide +kernel
theorem dX12_clerks_2 : decode cX12_clerks 2 = .ok (.iload_n 1, 1) := by decide +kernel
theorem dX12_clerks_3 : decode cX12_clerks 3 = .ok (.aload_n 0, 1) := by decide +kernel
theorem dX12_clerks_4 : decode cX12_clerks 4 = .ok (.getfield 14, 3) := by decide +kernel
theorem dX12_clerks_7 : decode cX12_clerks 7 = .ok (.bipush 8, 2) := by decide +kernel
theorem dX12_clerks_9 : decode cX12_clerks 9 = .ok (.iaload, 1) := by decide +kernel
theorem dX12_clerks_10 : decode cX12_clerks 10 = .ok (.if_icmp .ge 30, 3) := by decide +kernel
theorem dX12_clerks_13 : decode cX12_clerks 13 = .ok (.aload_n 0, 1) := by decide +kernel
theorem dX12_clerks_14 : decode cX12_clerks 14 = .ok (.iload_n 1, 1) := by decide +kernel
theorem dX12_clerks_15 : decode cX12_clerks 15 = .ok (.bipush 8, 2) := by decide +kernel
theorem dX12_clerks_17 : decode cX12_clerks 17 = .ok (.invokevirtual 250, 3) := by decide +kernel
theorem dX12_clerks_20 : decode cX12_clerks 20 = .ok (.ifCond .ne 14, 3) := by decide +kernel
theorem dX12_clerks_23 : decode cX12_clerks 23 = .ok (.aload_n 0, 1) := by decide +kernel
theorem dX12_clerks_24 : decode cX12_clerks 24 = .ok (.iload_n 1, 1) := by decide +kernel
theorem dX12_clerks_25 : decode cX12_clerks 25 = .ok (.bipush 11, 2) := by decide +kernel
theorem dX12_clerks_27 : decode cX12_clerks 27 = .ok (.invokevirtual 250, 3) := by decide +kernel
theorem dX12_clerks_30 : decode cX12_clerks 30 = .ok (.iconst 2, 1) := by decide +kernel
theorem dX12_clerks_31 : decode cX12_clerks 31 = .ok (.if_icmp .eq 9, 3) := by decide +kernel
theorem dX12_clerks_34 : decode cX12_clerks 34 = .ok (.iinc 1 1, 3) := by decide +kernel
theorem dX12_clerks_37 : decode cX12_clerks 37 = .ok (.goto (-35), 3) := by decide +kernel
theorem dX12_clerks_40 : decode cX12_clerks 40 = .ok (.iload_n 1, 1) := by decide +kernel
theorem dX12_clerks_41 : decode cX12_clerks 41 = .ok (.aload_n 0, 1) := by decide +kernel
theorem dX12_clerks_42 : decode cX12_clerks 42 = .ok (.getfield 14, 3) := by decide +kernel
theorem dX12_clerks_45 : decode cX12_clerks 45 = .ok (.bipush 8, 2) := by decide +kernel
theorem dX12_clerks_47 : decode cX12_clerks 47 = .ok (.iaload, 1) := by decide +kernel
theorem dX12_clerks_48 : decode cX12_clerks 48 = .ok (.if_icmp .ne 4, 3) := by decide +kernel
theorem dX12_clerks_51 : decode cX12_clerks 51 = .ok (.return_, 1) := by decide +kernel
theorem dX12_clerks_52 : decode cX12_clerks 52 = .ok (.aload_n 0, 1) := by decide +kernel
theorem dX12_clerks_53 : decode cX12_clerks 53 = .ok (.iload_n 1, 1) := by decide +kernel
theorem dX12_clerks_54 : decode cX12_clerks 54 = .ok (.bipush 10, 2) := by decide +kernel
theorem dX12_clerks_56 : decode cX12_clerks 56 = .ok (.aload_n 0, 1) := by decide +kernel
theorem dX12_clerks_57 : decode cX12_clerks 57 = .ok (.iload_n 1, 1) := by decide +kernel
theorem dX12_clerks_58 : decode cX12_clerks 58 = .ok (.bipush 10, 2) := by decide +kernel
theorem dX12_clerks_60 : decode cX12_clerks 60 = .ok (.invokevirtual 250, 3) := by decide +kernel
theorem dX12_clerks_63 : decode cX12_clerks 63 = .ok (.iconst 1, 1) := by decide +kernel
theorem dX12_clerks_64 : decode cX12_clerks 64 = .ok (.iadd, 1) := by decide +kernel
theorem dX12_clerks_65 : decode cX12_clerks 65 = .ok (.invokevirtual 243, 3) := by decide +kernel
theorem dX12_clerks_68 : decode cX12_clerks 68 = .ok (.aload_n 0, 1) := by decide +kernel
theorem dX12_clerks_69 : decode cX12_clerks 69 = .ok (.iload_n 1, 1) := by decide +kernel
theorem dX12_clerks_70 : decode cX12_clerks 70 = .ok (.bipush 10, 2) := by decide +kernel
theorem dX12_clerks_72 : decode cX12_clerks 72 = .ok (.invokevirtual 250, 3) := by decide +kernel
theorem dX12_clerks_75 : decode cX12_clerks 75 = .ok (.aload_n 0, 1) := by decide +kernel
theorem dX12_clerks_76 : decode cX12_clerks 76 = .ok (.iload_n 1, 1) := by decide +kernel
theorem dX12_clerks_77 : decode cX12_clerks 77 = .ok (.iconst 2, 1) := by decide +kernel
theorem dX12_clerks_78 : decode cX12_clerks 78 = .ok (.invokevirtual 250, 3) := by decide +kernel
theorem dX12_clerks_81 : decode cX12_clerks 81 = .ok (.if_icmp .ne 15, 3) := by decide +kernel
theorem dX12_clerks_84 : decode cX12_clerks 84 = .ok (.aload_n 0, 1) := by decide +kernel
theorem dX12_clerks_85 : decode cX12_clerks 85 = .ok (.iload_n 1, 1) := by decide +kernel
theorem dX12_clerks_86 : decode cX12_clerks 86 = .ok (.aload_n 0, 1) := by decide +kernel
theorem dX12_clerks_87 : decode cX12_clerks 87 = .ok (.iload_n 1, 1) := by decide +kernel
theorem dX12_clerks_88 : decode cX12_clerks 88 = .ok (.iconst 2, 1) := by decide +kernel
theorem dX12_clerks_89 : decode cX12_clerks 89 = .ok (.invokevirtual 305, 3) := by decide +kernel
theorem dX12_clerks_92 : decode cX12_clerks 92 = .ok (.iconst 4, 1) := by decide +kernel
theorem dX12_clerks_93 : decode cX12_clerks 93 = .ok (.invokevirtual 301, 3) := by decide +kernel
theorem dX12_clerks_96 : decode cX12_clerks 96 = .ok (.return_, 1) := by decide +kernel
theorem dX12_minutes_0 : decode cX12_minutes 0 = .ok (.aload_n 0, 1) := by decide +kernel
theorem dX12_minutes_1 : decode cX12_minutes 1 = .ok (.iconst 0, 1) := by decide +kernel
theorem dX12_minutes_2 : decode cX12_minutes 2 = .ok (.putfield 3, 3) := by decide +kernel
theorem dX12_minutes_5 : decode cX12_minutes 5 = .ok (.aload_n 0, 1) := by decide +kernel
theorem dX12_minutes_6 : decode cX12_minutes 6 = .ok (.iload_n 1, 1) := by decide +kernel
theorem dX12_minutes_7 : decode cX12_minutes 7 = .ok (.iconst 0, 1) := by decide +kernel
theorem dX12_minutes_8 : decode cX12_minutes 8 = .ok (.bipush 120, 2) := by decide +kernel
theorem dX12_minutes_10 : decode cX12_minutes 10 = .ok (.invokestatic 61, 3) := by decide +kernel
theorem dX12_minutes_13 : decode cX12_minutes 13 = .ok (.ifCond .ne 7, 3) := by decide +kernel
theorem dX12_minutes_16 : decode cX12_minutes 16 = .ok (.iconst 1, 1) := by decide +kernel
theorem dX12_minutes_17 : decode cX12_minutes 17 = .ok (.goto 4, 3) := by decide +kernel
theorem dX12_minutes_20 : decode cX12_minutes 20 = .ok (.iconst 0, 1) := by decide +kernel
theorem dX12_minutes_21 : decode cX12_minutes 21 = .ok (.iconst 1, 1) := by decide +kernel
theorem dX12_minutes_22 : decode cX12_minutes 22 = .ok (.invokevirtual 65, 3) := by decide +kernel
theorem dX12_minutes_25 : decode cX12_minutes 25 = .ok (.ifCond .eq 5, 3) := by decide +kernel
theorem dX12_minutes_28 : decode cX12_minutes 28 = .ok (.iconst 0, 1) := by decide +kernel
theorem dX12_minutes_29 : decode cX12_minutes 29 = .ok (.ireturn, 1) := by decide +kernel
theorem dX12_minutes_30 : decode cX12_minutes 30 = .ok (.iconst 0, 1) := by decide +kernel
theorem dX12_minutes_31 : decode cX12_minutes 31 = .ok (.istore_n 2, 1) := by decide +kernel
theorem dX12_minutes_32 : decode cX12_minutes 32 = .ok (.iload_n 2, 1) := by decide +kernel
theorem dX12_minutes_33 : decode cX12_minutes 33 = .ok (.iload_n 1, 1) := by decide +kernel
theorem dX12_minutes_34 : decode cX12_minutes 34 = .ok (.if_icmp .ge 37, 3) := by decide +kernel
theorem dX12_minutes_37 : decode cX12_minutes 37 = .ok (.aload_n 0, 1) := by decide +kernel
theorem dX12_minutes_38 : decode cX12_minutes 38 = .ok (.invokevirtual 83, 3) := by decide +kernel
theorem dX12_minutes_41 : decode cX12_minutes 41 = .ok (.sipush 480, 3) := by decide +kernel
theorem dX12_minutes_44 : decode cX12_minutes 44 = .ok (.if_icmp .ge 27, 3) := by decide +kernel
theorem dX12_minutes_47 : decode cX12_minutes 47 = .ok (.aload_n 0, 1) := by decide +kernel
theorem dX12_minutes_48 : decode cX12_minutes 48 = .ok (.getfield 14, 3) := by decide +kernel
theorem dX12_minutes_51 : decode cX12_minutes 51 = .ok (.iconst 0, 1) := by decide +kernel
theorem dX12_minutes_52 : decode cX12_minutes 52 = .ok (.dup2, 1) := by decide +kernel
theorem dX12_minutes_53 : decode cX12_minutes 53 = .ok (.iaload, 1) := by decide +kernel
theorem dX12_minutes_54 : decode cX12_minutes 54 = .ok (.iconst 1, 1) := by decide +kernel
theorem dX12_minutes_55 : decode cX12_minutes 55 = .ok (.iadd, 1) := by decide +kernel
theorem dX12_minutes_56 : decode cX12_minutes 56 = .ok (.iastore, 1) := by decide +kernel
theorem dX12_minutes_57 : decode cX12_minutes 57 = .ok (.aload_n 0, 1) := by decide +kernel
theorem dX12_minutes_58 : decode cX12_minutes 58 = .ok (.invokevirtual 308, 3) := by decide +kernel
theorem dX12_minutes_61 : decode cX12_minutes 61 = .ok (.aload_n 0, 1) := by decide +kernel
theorem dX12_minutes_62 : decode cX12_minutes 62 = .ok (.invokevirtual 311, 3) := by decide +kernel
theorem dX12_minutes_65 : decode cX12_minutes 65 = .ok (.iinc 2 1, 3) := by decide +kernel
theorem dX12_minutes_68 : decode cX12_minutes 68 = .ok (.goto (-36), 3) := by decide +kernel
theorem dX12_minutes_71 : decode cX12_minutes 71 = .ok (.aload_n 0, 1) := by decide +kernel
theorem dX12_minutes_72 : decode cX12_minutes 72 = .ok (.invokevirtual 83, 3) := by decide +kernel
theorem dX12_minutes_75 : decode cX12_minutes 75 = .ok (.ireturn, 1) := by decide +kernel
theorem dX12_look_0 : decode cX12_look 0 = .ok (.aload_n 0, 1) := by decide +kernel
theorem dX12_look_1 : decode cX12_look 1 = .ok (.iconst 0, 1) := by decide +kernel
theorem dX12_look_2 : decode cX12_look 2 = .ok (.putfield 3, 3) := by decide +kernel
theorem dX12_look_5 : decode cX12_look 5 = .ok (.aload_n 0, 1) := by decide +kernel
theorem dX12_look_6 : decode cX12_look 6 = .ok (.aload_n 0, 1) := by decide +kernel
theorem dX12_look_7 : decode cX12_look 7 = .ok (.iload_n 1, 1) := by decide +kernel
theorem dX12_look_8 : decode cX12_look 8 = .ok (.invokevirtual 247, 3) := by decide +kernel
theorem dX12_look_11 : decode cX12_look 11 = .ok (.iconst 1, 1) := by decide +kernel
theorem dX12_look_12 : decode cX12_look 12 = .ok (.invokevirtual 65, 3) := by decide +kernel
theorem dX12_look_15 : decode cX12_look 15 = .ok (.ifCond .eq 5, 3) := by decide +kernel
theorem dX12_look_18 : decode cX12_look 18 = .ok (.iconst 0, 1) := by decide +kernel
theorem dX12_look_19 : decode cX12_look 19 = .ok (.ireturn, 1) := by decide +kernel
theorem dX12_look_20 : decode cX12_look 20 = .ok (.iload_n 2, 1) := by decide +kernel
theorem dX12_look_21 : decode cX12_look 21 = .ok (.tableswitch 133 0 9 #[55, 63, 71, 79, 87, 95, 103, 111, 119, 127], 55) := by decide +kernel
theorem dX12_look_76 : decode cX12_look 76 = .ok (.aload_n 0, 1) := by decide +kernel
theorem dX12_look_77 : decode cX12_look 77 = .ok (.iload_n 1, 1) := by decide +kernel
theorem dX12_look_78 : decode cX12_look 78 = .ok (.bipush 8, 2) := by decide +kernel
theorem dX12_look_80 : decode cX12_look 80 = .ok (.invokevirtual 250, 3) := by decide +kernel
theorem dX12_look_83 : decode cX12_look 83 = .ok (.ireturn, 1) := by decide +kernel
theorem dX12_look_84 : decode cX12_look 84 = .ok (.aload_n 0, 1) := by decide +kernel
theorem dX12_look_85 : decode cX12_look 85 = .ok (.iload_n 1, 1) := by decide +kernel
theorem dX12_look_86 : decode cX12_look 86 = .ok (.bipush 9, 2) := by decide +kernel
theorem dX12_look_88 : decode cX12_look 88 = .ok (.invokevirtual 250, 3) := by decide +kernel
theorem dX12_look_91 : decode cX12_look 91 = .ok (.ireturn, 1) := by decide +kernel
theorem dX12_look_92 : decode cX12_look 92 = .ok (.aload_n 0, 1) := by decide +kernel
theorem dX12_look_93 : decode cX12_look 93 = .ok (.iload_n 1, 1) := by decide +kernel
theorem dX12_look_94 : decode cX12_look 94 = .ok (.bipush 10, 2) := by decide +kernel
theorem dX12_look_96 : decode cX12_look 96 = .ok (.invokevirtual 250, 3) := by decide +kernel
theorem dX12_look_99 : decode cX12_look 99 = .ok (.ireturn, 1) := by decide +kernel
theorem dX12_look_100 : decode cX12_look 100 = .ok (.aload_n 0, 1) := by decide +kernel
theorem dX12_look_101 : decode cX12_look 101 = .ok (.iload_n 1, 1) := by decide +kernel
theorem dX12_look_102 : decode cX12_look 102 = .ok (.bipush 11, 2) := by decide +kernel
theorem dX12_look_104 : decode cX12_look 104 = .ok (.invokevirtual 250, 3) := by decide +kernel
theorem dX12_look_107 : decode cX12_look 107 = .ok (.ireturn, 1) := by decide +kernel
theorem dX12_look_108 : decode cX12_look 108 = .ok (.aload_n 0, 1) := by decide +kernel
theorem dX12_look_109 : decode cX12_look 109 = .ok (.iload_n 1, 1) := by decide +kernel
theorem dX12_look_110 : decode cX12_look 110 = .ok (.bipush 16, 2) := by decide +kernel
theorem dX12_look_112 : decode cX12_look 112 = .ok (.invokevirtual 250, 3) := by decide +kernel
theorem dX12_look_115 : decode cX12_look 115 = .ok (.ireturn, 1) := by decide +kernel
theorem dX12_look_116 : decode cX12_look 116 = .ok (.aload_n 0, 1) := by decide +kernel
theorem dX12_look_117 : decode cX12_look 117 = .ok (.iload_n 1, 1) := by decide +kernel
theorem dX12_look_118 : decode cX12_look 118 = .ok (.bipush 12, 2) := by decide +kernel
theorem dX12_look_120 : decode cX12_look 120 = .ok (.invokevirtual 250, 3) := by decide +kernel
theorem dX12_look_123 : decode cX12_look 123 = .ok (.ireturn, 1) := by decide +kernel
theorem dX12_look_124 : decode cX12_look 124 = .ok (.aload_n 0, 1) := by decide +kernel
theorem dX12_look_125 : decode cX12_look 125 = .ok (.iload_n 1, 1) := by decide +kernel
theorem dX12_look_126 : decode cX12_look 126 = .ok (.bipush 13, 2) := by decide +kernel
theorem dX12_look_128 : decode cX12_look 128 = .ok (.invokevirtual 250, 3) := by decide +kernel
theorem dX12_look_131 : decode cX12_look 131 = .ok (.ireturn, 1) := by decide +kernel
theorem dX12_look_132 : decode cX12_look 132 = .ok (.aload_n 0, 1) := by decide +kernel
theorem dX12_look_133 : decode cX12_look 133 = .ok (.iload_n 1, 1) := by decide +kernel
theorem dX12_look_134 : decode cX12_look 134 = .ok (.bipush 14, 2) := by decide +kernel
theorem dX12_look_136 : decode cX12_look 136 = .ok (.invokevirtual 250, 3) := by decide +kernel
theorem dX12_look_139 : decode cX12_look 139 = .ok (.ireturn, 1) := by decide +kernel
theorem dX12_look_140 : decode cX12_look 140 = .ok (.aload_n 0, 1) := by decide +kernel
theorem dX12_look_141 : decode cX12_look 141 = .ok (.iload_n 1, 1) := by decide +kernel
theorem dX12_look_142 : decode cX12_look 142 = .ok (.bipush 15, 2) := by decide +kernel
theorem dX12_look_144 : decode cX12_look 144 = .ok (.invokevirtual 250, 3) := by decide +kernel
theorem dX12_look_147 : decode cX12_look 147 = .ok (.ireturn, 1) := by decide +kernel
theorem dX12_look_148 : decode cX12_look 148 = .ok (.aload_n 0, 1) := by decide +kernel
theorem dX12_look_149 : decode cX12_look 149 = .ok (.iload_n 1, 1) := by decide +kernel
theorem dX12_look_150 : decode cX12_look 150 = .ok (.invokevirtual 314, 3) := by decide +kernel
theorem dX12_look_153 : decode cX12_look 153 = .ok (.ireturn, 1) := by decide +kernel
theorem dX12_look_154 : decode cX12_look 154 = .ok (.aload_n 0, 1) := by decide +kernel
theorem dX12_look_155 : decode cX12_look 155 = .ok (.iconst 2, 1) := by decide +kernel
theorem dX12_look_156 : decode cX12_look 156 = .ok (.putfield 3, 3) := by decide +kernel
theorem dX12_look_159 : decode cX12_look 159 = .ok (.iconst 0, 1) := by decide +kernel
theorem dX12_look_160 : decode cX12_look 160 = .ok (.ireturn, 1) := by decide +kernel
theorem dX12_noLamp_0 : decode cX12_noLamp 0 = .ok (.iload_n 0, 1) := by decide +kernel
theorem dX12_noLamp_1 : decode cX12_noLamp 1 = .ok (.iconst 0, 1) := by decide +kernel
theorem dX12_noLamp_2 : decode cX12_noLamp 2 = .ok (.bipush 15, 2) := by decide +kernel
theorem dX12_noLamp_4 : decode cX12_noLamp 4 = .ok (.invokestatic 61, 3) := by decide +kernel
theorem dX12_noLamp_7 : decode cX12_noLamp 7 = .ok (.ifCond .ne 7, 3) := by decide +kernel
theorem dX12_noLamp_10 : decode cX12_noLamp 10 = .ok (.iconst 1, 1) := by decide +kernel
theorem dX12_noLamp_11 : decode cX12_noLamp 11 = .ok (.goto 4, 3) := by decide +kernel
theorem dX12_noLamp_14 : decode cX12_noLamp 14 = .ok (.iconst 0, 1) := by decide +kernel
theorem dX12_noLamp_15 : decode cX12_noLamp 15 = .ok (.ireturn, 1) := by decide +kernel
theorem dX12_lamp_0 : decode cX12_lamp 0 = .ok (.aload_n 0, 1) := by decide +kernel
theorem dX12_lamp_1 : decode cX12_lamp 1 = .ok (.iconst 0, 1) := by decide +kernel
theorem dX12_lamp_2 : decode cX12_lamp 2 = .ok (.putfield 3, 3) := by decide +kernel
theorem dX12_lamp_5 : decode cX12_lamp 5 = .ok (.aload_n 0, 1) := by decide +kernel
theorem dX12_lamp_6 : decode cX12_lamp 6 = .ok (.iload_n 1, 1) := by decide +kernel
theorem dX12_lamp_7 : decode cX12_lamp 7 = .ok (.invokestatic 317, 3) := by decide +kernel
theorem dX12_lamp_10 : decode cX12_lamp 10 = .ok (.iconst 1, 1) := by decide +kernel
theorem dX12_lamp_11 : decode cX12_lamp 11 = .ok (.invokevirtual 65, 3) := by decide +kernel
theorem dX12_lamp_14 : decode cX12_lamp 14 = .ok (.ifCond .ne 51, 3) := by decide +kernel
theorem dX12_lamp_17 : decode cX12_lamp 17 = .ok (.aload_n 0, 1) := by decide +kernel
theorem dX12_lamp_18 : decode cX12_lamp 18 = .ok (.iload_n 2, 1) := by decide +kernel
theorem dX12_lamp_19 : decode cX12_lamp 19 = .ok (.aload_n 0, 1) := by decide +kernel
theorem dX12_lamp_20 : decode cX12_lamp 20 = .ok (.invokevirtual 83, 3) := by decide +kernel
theorem dX12_lamp_23 : decode cX12_lamp 23 = .ok (.sipush 480, 3) := by decide +kernel
theorem dX12_lamp_26 : decode cX12_lamp 26 = .ok (.invokestatic 61, 3) := by decide +kernel
theorem dX12_lamp_29 : decode cX12_lamp 29 = .ok (.ifCond .eq 7, 3) := by decide +kernel
theorem dX12_lamp_32 : decode cX12_lamp 32 = .ok (.iload_n 3, 1) := by decide +kernel
theorem dX12_lamp_33 : decode cX12_lamp 33 = .ok (.ifCond .ne 7, 3) := by decide +kernel
theorem dX12_lamp_36 : decode cX12_lamp 36 = .ok (.iconst 1, 1) := by decide +kernel
theorem dX12_lamp_37 : decode cX12_lamp 37 = .ok (.goto 4, 3) := by decide +kernel
theorem dX12_lamp_40 : decode cX12_lamp 40 = .ok (.iconst 0, 1) := by decide +kernel
theorem dX12_lamp_41 : decode cX12_lamp 41 = .ok (.iconst 2, 1) := by decide +kernel
theorem dX12_lamp_42 : decode cX12_lamp 42 = .ok (.invokevirtual 65, 3) := by decide +kernel
theorem dX12_lamp_45 : decode cX12_lamp 45 = .ok (.ifCond .ne 20, 3) := by decide +kernel
theorem dX12_lamp_48 : decode cX12_lamp 48 = .ok (.aload_n 0, 1) := by decide +kernel
theorem dX12_lamp_49 : decode cX12_lamp 49 = .ok (.getfield 14, 3) := by decide +kernel
theorem dX12_lamp_52 : decode cX12_lamp 52 = .ok (.sipush 137, 3) := by decide +kernel
theorem dX12_lamp_55 : decode cX12_lamp 55 = .ok (.iconst 2, 1) := by decide +kernel
theorem dX12_lamp_56 : decode cX12_lamp 56 = .ok (.iload_n 1, 1) := by decide +kernel
theorem dX12_lamp_57 : decode cX12_lamp 57 = .ok (.imul, 1) := by decide +kernel
theorem dX12_lamp_58 : decode cX12_lamp 58 = .ok (.iadd, 1) := by decide +kernel
theorem dX12_lamp_59 : decode cX12_lamp 59 = .ok (.iconst 1, 1) := by decide +kernel
theorem dX12_lamp_60 : decode cX12_lamp 60 = .ok (.iadd, 1) := by decide +kernel
theorem dX12_lamp_61 : decode cX12_lamp 61 = .ok (.iaload, 1) := by decide +kernel
theorem dX12_lamp_62 : decode cX12_lamp 62 = .ok (.ifCond .eq 5, 3) := by decide +kernel
theorem dX12_lamp_65 : decode cX12_lamp 65 = .ok (.iconst 0, 1) := by decide +kernel
theorem dX12_lamp_66 : decode cX12_lamp 66 = .ok (.ireturn, 1) := by decide +kernel
theorem dX12_lamp_67 : decode cX12_lamp 67 = .ok (.aload_n 0, 1) := by decide +kernel
theorem dX12_lamp_68 : decode cX12_lamp 68 = .ok (.getfield 14, 3) := by decide +kernel
theorem dX12_lamp_71 : decode cX12_lamp 71 = .ok (.sipush 137, 3) := by decide +kernel
theorem dX12_lamp_74 : decode cX12_lamp 74 = .ok (.iconst 2, 1) := by decide +kernel
theorem dX12_lamp_75 : decode cX12_lamp 75 = .ok (.iload_n 1, 1) := by decide +kernel
theorem dX12_lamp_76 : decode cX12_lamp 76 = .ok (.imul, 1) := by decide +kernel
theorem dX12_lamp_77 : decode cX12_lamp 77 = .ok (.iadd, 1) := by decide +kernel
theorem dX12_lamp_78 : decode cX12_lamp 78 = .ok (.iload_n 2, 1) := by decide +kernel
theorem dX12_lamp_79 : decode cX12_lamp 79 = .ok (.iastore, 1) := by decide +kernel
theorem dX12_lamp_80 : decode cX12_lamp 80 = .ok (.aload_n 0, 1) := by decide +kernel
theorem dX12_lamp_81 : decode cX12_lamp 81 = .ok (.getfield 14, 3) := by decide +kernel
theorem dX12_lamp_84 : decode cX12_lamp 84 = .ok (.sipush 137, 3) := by decide +kernel
theorem dX12_lamp_87 : decode cX12_lamp 87 = .ok (.iconst 2, 1) := by decide +kernel
theorem dX12_lamp_88 : decode cX12_lamp 88 = .ok (.iload_n 1, 1) := by decide +kernel
theorem dX12_lamp_89 : decode cX12_lamp 89 = .ok (.imul, 1) := by decide +kernel
theorem dX12_lamp_90 : decode cX12_lamp 90 = .ok (.iadd, 1) := by decide +kernel
theorem dX12_lamp_91 : decode cX12_lamp 91 = .ok (.iconst 1, 1) := by decide +kernel
theorem dX12_lamp_92 : decode cX12_lamp 92 = .ok (.iadd, 1) := by decide +kernel
theorem dX12_lamp_93 : decode cX12_lamp 93 = .ok (.iload_n 3, 1) := by decide +kernel
theorem dX12_lamp_94 : decode cX12_lamp 94 = .ok (.iastore, 1) := by decide +kernel
theorem dX12_lamp_95 : decode cX12_lamp 95 = .ok (.iconst 1, 1) := by decide +kernel
theorem dX12_lamp_96 : decode cX12_lamp 96 = .ok (.ireturn, 1) := by decide +kernel
theorem dX12_test_0 : decode cX12_test 0 = .ok (.aload_n 0, 1) := by decide +kernel
theorem dX12_test_1 : decode cX12_test 1 = .ok (.iconst 0, 1) := by decide +kernel
theorem dX12_test_2 : decode cX12_test 2 = .ok (.putfield 3, 3) := by decide +kernel
theorem dX12_test_5 : decode cX12_test 5 = .ok (.aload_n 0, 1) := by decide +kernel
theorem dX12_test_6 : decode cX12_test 6 = .ok (.iload_n 1, 1) := by decide +kernel
theorem dX12_test_7 : decode cX12_test 7 = .ok (.invokestatic 317, 3) := by decide +kernel
theorem dX12_test_10 : decode cX12_test 10 = .ok (.ifCond .ne 10, 3) := by decide +kernel
theorem dX12_test_13 : decode cX12_test 13 = .ok (.iload_n 2, 1) := by decide +kernel
theorem dX12_test_14 : decode cX12_test 14 = .ok (.invokestatic 317, 3) := by decide +kernel
theorem dX12_test_17 : decode cX12_test 17 = .ok (.ifCond .eq 7, 3) := by decide +kernel
theorem dX12_test_20 : decode cX12_test 20 = .ok (.iconst 1, 1) := by decide +kernel
theorem dX12_test_21 : decode cX12_test 21 = .ok (.goto 4, 3) := by decide +kernel
theorem dX12_test_24 : decode cX12_test 24 = .ok (.iconst 0, 1) := by decide +kernel
theorem dX12_test_25 : decode cX12_test 25 = .ok (.iconst 1, 1) := by decide +kernel
theorem dX12_test_26 : decode cX12_test 26 = .ok (.invokevirtual 65, 3) := by decide +kernel
theorem dX12_test_29 : decode cX12_test 29 = .ok (.ifCond .ne 21, 3) := by decide +kernel
theorem dX12_test_32 : decode cX12_test 32 = .ok (.aload_n 0, 1) := by decide +kernel
theorem dX12_test_33 : decode cX12_test 33 = .ok (.iload_n 2, 1) := by decide +kernel
theorem dX12_test_34 : decode cX12_test 34 = .ok (.iload_n 1, 1) := by decide +kernel
theorem dX12_test_35 : decode cX12_test 35 = .ok (.if_icmp .ge 7, 3) := by decide +kernel
theorem dX12_test_38 : decode cX12_test 38 = .ok (.iconst 1, 1) := by decide +kernel
theorem dX12_test_39 : decode cX12_test 39 = .ok (.goto 4, 3) := by decide +kernel
theorem dX12_test_42 : decode cX12_test 42 = .ok (.iconst 0, 1) := by decide +kernel
theorem dX12_test_43 : decode cX12_test 43 = .ok (.iconst 2, 1) := by decide +kernel
theorem dX12_test_44 : decode cX12_test 44 = .ok (.invokevirtual 65, 3) := by decide +kernel
theorem dX12_test_47 : decode cX12_test 47 = .ok (.ifCond .eq 5, 3) := by decide +kernel
theorem dX12_test_50 : decode cX12_test 50 = .ok (.iconst 0, 1) := by decide +kernel
theorem dX12_test_51 : decode cX12_test 51 = .ok (.ireturn, 1) := by decide +kernel
theorem dX12_test_52 : decode cX12_test 52 = .ok (.iconst 0, 1) := by decide +kernel
theorem dX12_test_53 : decode cX12_test 53 = .ok (.istore_n 3, 1) := by decide +kernel
theorem dX12_test_54 : decode cX12_test 54 = .ok (.iload_n 1, 1) := by decide +kernel
theorem dX12_test_55 : decode cX12_test 55 = .ok (.istore 4, 2) := by decide +kernel
theorem dX12_test_57 : decode cX12_test 57 = .ok (.iload 4, 2) := by decide +kernel
theorem dX12_test_59 : decode cX12_test 59 = .ok (.iload_n 2, 1) := by decide +kernel
theorem dX12_test_60 : decode cX12_test 60 = .ok (.if_icmp .gt 76, 3) := by decide +kernel
theorem dX12_test_63 : decode cX12_test 63 = .ok (.sipush 137, 3) := by decide +kernel
theorem dX12_test_66 : decode cX12_test 66 = .ok (.iconst 2, 1) := by decide +kernel
theorem dX12_test_67 : decode cX12_test 67 = .ok (.iload 4, 2) := by decide +kernel
theorem dX12_test_69 : decode cX12_test 69 = .ok (.imul, 1) := by decide +kernel
theorem dX12_test_70 : decode cX12_test 70 = .ok (.iadd, 1) := by decide +kernel
theorem dX12_test_71 : decode cX12_test 71 = .ok (.istore 5, 2) := by decide +kernel
theorem dX12_test_73 : decode cX12_test 73 = .ok (.aload_n 0, 1) := by decide +kernel
theorem dX12_test_74 : decode cX12_test 74 = .ok (.getfield 14, 3) := by decide +kernel
theorem dX12_test_77 : decode cX12_test 77 = .ok (.iload 5, 2) := by decide +kernel
theorem dX12_test_79 : decode cX12_test 79 = .ok (.iconst 1, 1) := by decide +kernel
theorem dX12_test_80 : decode cX12_test 80 = .ok (.iadd, 1) := by decide +kernel
theorem dX12_test_81 : decode cX12_test 81 = .ok (.iaload, 1) := by decide +kernel
theorem dX12_test_82 : decode cX12_test 82 = .ok (.ifCond .eq 48, 3) := by decide +kernel
theorem dX12_test_85 : decode cX12_test 85 = .ok (.aload_n 0, 1) := by decide +kernel
theorem dX12_test_86 : decode cX12_test 86 = .ok (.getfield 14, 3) := by decide +kernel
theorem dX12_test_89 : decode cX12_test 89 = .ok (.iload 5, 2) := by decide +kernel
theorem dX12_test_91 : decode cX12_test 91 = .ok (.iaload, 1) := by decide +kernel
theorem dX12_test_92 : decode cX12_test 92 = .ok (.aload_n 0, 1) := by decide +kernel
theorem dX12_test_93 : decode cX12_test 93 = .ok (.invokevirtual 83, 3) := by decide +kernel
theorem dX12_test_96 : decode cX12_test 96 = .ok (.if_icmp .le 6, 3) := by decide +kernel
theorem dX12_test_99 : decode cX12_test 99 = .ok (.goto 31, 3) := by decide +kernel
theorem dX12_test_102 : decode cX12_test 102 = .ok (.iload_n 3, 1) := by decide +kernel
theorem dX12_test_103 : decode cX12_test 103 = .ok (.iconst 1, 1) := by decide +kernel
theorem dX12_test_104 : decode cX12_test 104 = .ok (.iload 4, 2) := by decide +kernel
theorem dX12_test_106 : decode cX12_test 106 = .ok (.ishl, 1) := by decide +kernel
theorem dX12_test_107 : decode cX12_test 107 = .ok (.ior, 1) := by decide +kernel
theorem dX12_test_108 : decode cX12_test 108 = .ok (.istore_n 3, 1) := by decide +kernel
theorem dX12_test_109 : decode cX12_test 109 = .ok (.aload_n 0, 1) := by decide +kernel
theorem dX12_test_110 : decode cX12_test 110 = .ok (.getfield 14, 3) := by decide +kernel
theorem dX12_test_113 : decode cX12_test 113 = .ok (.iload 5, 2) := by decide +kernel
theorem dX12_test_115 : decode cX12_test 115 = .ok (.iconst 1, 1) := by decide +kernel
theorem dX12_test_116 : decode cX12_test 116 = .ok (.iadd, 1) := by decide +kernel
theorem dX12_test_117 : decode cX12_test 117 = .ok (.iconst 0, 1) := by decide +kernel
theorem dX12_test_118 : decode cX12_test 118 = .ok (.iastore, 1) := by decide +kernel
theorem dX12_test_119 : decode cX12_test 119 = .ok (.aload_n 0, 1) := by decide +kernel
theorem dX12_test_120 : decode cX12_test 120 = .ok (.getfield 14, 3) := by decide +kernel
theorem dX12_test_123 : decode cX12_test 123 = .ok (.bipush 7, 2) := by decide +kernel
theorem dX12_test_125 : decode cX12_test 125 = .ok (.dup2, 1) := by decide +kernel
theorem dX12_test_126 : decode cX12_test 126 = .ok (.iaload, 1) := by decide +kernel
theorem dX12_test_127 : decode cX12_test 127 = .ok (.iconst 1, 1) := by decide +kernel
theorem dX12_test_128 : decode cX12_test 128 = .ok (.iadd, 1) := by decide +kernel
theorem dX12_test_129 : decode cX12_test 129 = .ok (.iastore, 1) := by decide +kernel
theorem dX12_test_130 : decode cX12_test 130 = .ok (.iinc 4 1, 3) := by decide +kernel
theorem dX12_test_133 : decode cX12_test 133 = .ok (.goto (-76), 3) := by decide +kernel
theorem dX12_test_136 : decode cX12_test 136 = .ok (.iconst 0, 1) := by decide +kernel
theorem dX12_test_137 : decode cX12_test 137 = .ok (.istore 4, 2) := by decide +kernel
theorem dX12_test_139 : decode cX12_test 139 = .ok (.iload 4, 2) := by decide +kernel
theorem dX12_test_141 : decode cX12_test 141 = .ok (.aload_n 0, 1) := by decide +kernel
theorem dX12_test_142 : decode cX12_test 142 = .ok (.invokevirtual 79, 3) := by decide +kernel
theorem dX12_test_145 : decode cX12_test 145 = .ok (.if_icmp .ge 88, 3) := by decide +kernel
theorem dX12_test_148 : decode cX12_test 148 = .ok (.aload_n 0, 1) := by decide +kernel
theorem dX12_test_149 : decode cX12_test 149 = .ok (.iload 4, 2) := by decide +kernel
theorem dX12_test_151 : decode cX12_test 151 = .ok (.iconst 1, 1) := by decide +kernel
theorem dX12_test_152 : decode cX12_test 152 = .ok (.invokevirtual 100, 3) := by decide +kernel
theorem dX12_test_155 : decode cX12_test 155 = .ok (.bipush 16, 2) := by decide +kernel
theorem dX12_test_157 : decode cX12_test 157 = .ok (.irem, 1) := by decide +kernel
theorem dX12_test_158 : decode cX12_test 158 = .ok (.istore 5, 2) := by decide +kernel
theorem dX12_test_160 : decode cX12_test 160 = .ok (.aload_n 0, 1) := by decide +kernel
theorem dX12_test_161 : decode cX12_test 161 = .ok (.iload 4, 2) := by decide +kernel
theorem dX12_test_163 : decode cX12_test 163 = .ok (.bipush 6, 2) := by decide +kernel
theorem dX12_test_165 : decode cX12_test 165 = .ok (.invokevirtual 100, 3) := by decide +kernel
theorem dX12_test_168 : decode cX12_test 168 = .ok (.istore 6, 2) := by decide +kernel
theorem dX12_test_170 : decode cX12_test 170 = .ok (.iload 5, 2) := by decide +kernel
theorem dX12_test_172 : decode cX12_test 172 = .ok (.iload_n 1, 1) := by decide +kernel
theorem dX12_test_173 : decode cX12_test 173 = .ok (.iload_n 2, 1) := by decide +kernel
theorem dX12_test_174 : decode cX12_test 174 = .ok (.invokestatic 61, 3) := by decide +kernel
theorem dX12_test_177 : decode cX12_test 177 = .ok (.ifCond .eq 50, 3) := by decide +kernel
theorem dX12_test_180 : decode cX12_test 180 = .ok (.iload 6, 2) := by decide +kernel
theorem dX12_test_182 : decode cX12_test 182 = .ok (.iconst 4, 1) := by decide +kernel
theorem dX12_test_183 : decode cX12_test 183 = .ok (.idiv, 1) := by decide +kernel
theorem dX12_test_184 : decode cX12_test 184 = .ok (.iconst 2, 1) := by decide +kernel
theorem dX12_test_185 : decode cX12_test 185 = .ok (.irem, 1) := by decide +kernel
theorem dX12_test_186 : decode cX12_test 186 = .ok (.iconst 1, 1) := by decide +kernel
theorem dX12_test_187 : decode cX12_test 187 = .ok (.if_icmp .ne 6, 3) := by decide +kernel
theorem dX12_test_190 : decode cX12_test 190 = .ok (.goto 37, 3) := by decide +kernel
theorem dX12_test_193 : decode cX12_test 193 = .ok (.aload_n 0, 1) := by decide +kernel
theorem dX12_test_194 : decode cX12_test 194 = .ok (.getfield 14, 3) := by decide +kernel
theorem dX12_test_197 : decode cX12_test 197 = .ok (.aload_n 0, 1) := by decide +kernel
theorem dX12_test_198 : decode cX12_test 198 = .ok (.iload 4, 2) := by decide +kernel
theorem dX12_test_200 : decode cX12_test 200 = .ok (.bipush 6, 2) := by decide +kernel
theorem dX12_test_202 : decode cX12_test 202 = .ok (.invokevirtual 75, 3) := by decide +kernel
theorem dX12_test_205 : decode cX12_test 205 = .ok (.iload 6, 2) := by decide +kernel
theorem dX12_test_207 : decode cX12_test 207 = .ok (.iconst 4, 1) := by decide +kernel
theorem dX12_test_208 : decode cX12_test 208 = .ok (.iadd, 1) := by decide +kernel
theorem dX12_test_209 : decode cX12_test 209 = .ok (.iload_n 3, 1) := by decide +kernel
theorem dX12_test_210 : decode cX12_test 210 = .ok (.iload 5, 2) := by decide +kernel
theorem dX12_test_212 : decode cX12_test 212 = .ok (.ishr, 1) := by decide +kernel
theorem dX12_test_213 : decode cX12_test 213 = .ok (.iconst 1, 1) := by decide +kernel
theorem dX12_test_214 : decode cX12_test 214 = .ok (.iand, 1) := by decide +kernel
theorem dX12_test_215 : decode cX12_test 215 = .ok (.iconst 1, 1) := by decide +kernel
theorem dX12_test_216 : decode cX12_test 216 = .ok (.if_icmp .ne 8, 3) := by decide +kernel
theorem dX12_test_219 : decode cX12_test 219 = .ok (.bipush 8, 2) := by decide +kernel
theorem dX12_test_221 : decode cX12_test 221 = .ok (.goto 4, 3) := by decide +kernel
theorem dX12_test_224 : decode cX12_test 224 = .ok (.iconst 0, 1) := by decide +kernel
theorem dX12_test_225 : decode cX12_test 225 = .ok (.iadd, 1) := by decide +kernel
theorem dX12_test_226 : decode cX12_test 226 = .ok (.iastore, 1) := by decide +kernel
theorem dX12_test_227 : decode cX12_test 227 = .ok (.iinc 4 1, 3) := by decide +kernel
theorem dX12_test_230 : decode cX12_test 230 = .ok (.goto (-91), 3) := by decide +kernel
theorem dX12_test_233 : decode cX12_test 233 = .ok (.iload_n 3, 1) := by decide +kernel
theorem dX12_test_234 : decode cX12_test 234 = .ok (.ireturn, 1) := by decide +kernel
theorem dX12_bad_0 : decode cX12_bad 0 = .ok (.iconst 0, 1) := by decide +kernel
theorem dX12_bad_1 : decode cX12_bad 1 = .ok (.istore_n 1, 1) := by decide +kernel
theorem dX12_bad_2 : decode cX12_bad 2 = .ok (.iload_n 1, 1) := by decide +kernel
theorem dX12_bad_3 : decode cX12_bad 3 = .ok (.bipush 64, 2) := by decide +kernel
theorem dX12_bad_5 : decode cX12_bad 5 = .ok (.if_icmp .ge 16, 3) := by decide +kernel
theorem dX12_bad_8 : decode cX12_bad 8 = .ok (.aload_n 0, 1) := by decide +kernel
theorem dX12_bad_9 : decode cX12_bad 9 = .ok (.getfield 41, 3) := by decide +kernel
theorem dX12_bad_12 : decode cX12_bad 12 = .ok (.iload_n 1, 1) := by decide +kernel
theorem dX12_bad_13 : decode cX12_bad 13 = .ok (.iconst 0, 1) := by decide +kernel
theorem dX12_bad_14 : decode cX12_bad 14 = .ok (.bastore, 1) := by decide +kernel
theorem dX12_bad_15 : decode cX12_bad 15 = .ok (.iinc 1 1, 3) := by decide +kernel
theorem dX12_bad_18 : decode cX12_bad 18 = .ok (.goto (-16), 3) := by decide +kernel
theorem dX12_bad_21 : decode cX12_bad 21 = .ok (.iconst 0, 1) := by decide +kernel
theorem dX12_bad_22 : decode cX12_bad 22 = .ok (.istore_n 1, 1) := by decide +kernel
theorem dX12_bad_23 : decode cX12_bad 23 = .ok (.iconst 0, 1) := by decide +kernel
theorem dX12_bad_24 : decode cX12_bad 24 = .ok (.istore_n 2, 1) := by decide +kernel
theorem dX12_bad_25 : decode cX12_bad 25 = .ok (.iload_n 2, 1) := by decide +kernel
theorem dX12_bad_26 : decode cX12_bad 26 = .ok (.aload_n 0, 1) := by decide +kernel
theorem dX12_bad_27 : decode cX12_bad 27 = .ok (.invokevirtual 79, 3) := by decide +kernel
theorem dX12_bad_30 : decode cX12_bad 30 = .ok (.if_icmp .ge 131, 3) := by decide +kernel
theorem dX12_bad_33 : decode cX12_bad 33 = .ok (.aload_n 0, 1) := by decide +kernel
theorem dX12_bad_34 : decode cX12_bad 34 = .ok (.iload_n 2, 1) := by decide +kernel
theorem dX12_bad_35 : decode cX12_bad 35 = .ok (.bipush 6, 2) := by decide +kernel
theorem dX12_bad_37 : decode cX12_bad 37 = .ok (.invokevirtual 100, 3) := by decide +kernel
theorem dX12_bad_40 : decode cX12_bad 40 = .ok (.istore_n 3, 1) := by decide +kernel
theorem dX12_bad_41 : decode cX12_bad 41 = .ok (.aload_n 0, 1) := by decide +kernel
theorem dX12_bad_42 : decode cX12_bad 42 = .ok (.iload_n 2, 1) := by decide +kernel
theorem dX12_bad_43 : decode cX12_bad 43 = .ok (.iconst 5, 1) := by decide +kernel
theorem dX12_bad_44 : decode cX12_bad 44 = .ok (.invokevirtual 100, 3) := by decide +kernel
theorem dX12_bad_47 : decode cX12_bad 47 = .ok (.iload_n 2, 1) := by decide +kernel
theorem dX12_bad_48 : decode cX12_bad 48 = .ok (.if_icmp .ne 72, 3) := by decide +kernel
theorem dX12_bad_51 : decode cX12_bad 51 = .ok (.iconst 0, 1) := by decide +kernel
theorem dX12_bad_52 : decode cX12_bad 52 = .ok (.istore_n 1, 1) := by decide +kernel
theorem dX12_bad_53 : decode cX12_bad 53 = .ok (.iconst 0, 1) := by decide +kernel
theorem dX12_bad_54 : decode cX12_bad 54 = .ok (.istore 4, 2) := by decide +kernel
theorem dX12_bad_56 : decode cX12_bad 56 = .ok (.iload 4, 2) := by decide +kernel
