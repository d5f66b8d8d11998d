theorem dX11_init_0 : decode cX11_init 0 = .ok (.aload_n 0, 1) := by decide +kernel
theorem dX11_init_1 : decode cX11_init 1 = .ok (.invokespecial 1, 3) := by decide +kernel
theorem dX11_init_4 : decode cX11_init 4 = .ok (.aload_n 0, 1) := by decide +kernel
theorem dX11_init_5 : decode cX11_init 5 = .ok (.sipush 572, 3) := by decide +kernel
theorem dX11_init_8 : decode cX11_init 8 = .ok (.newarray .int, 2) := by decide +kernel
theorem dX11_init_10 : decode cX11_init 10 = .ok (.putfield 7, 3) := by decide +kernel
theorem dX11_init_13 : decode cX11_init 13 = .ok (.aload_n 0, 1) := by decide +kernel
theorem dX11_init_14 : decode cX11_init 14 = .ok (.sipush 11440, 3) := by decide +kernel
theorem dX11_init_17 : decode cX11_init 17 = .ok (.newarray .int, 2) := by decide +kernel
theorem dX11_init_19 : decode cX11_init 19 = .ok (.putfield 13, 3) := by decide +kernel
theorem dX11_init_22 : decode cX11_init 22 = .ok (.aload_n 0, 1) := by decide +kernel
theorem dX11_init_23 : decode cX11_init 23 = .ok (.iconst 4, 1) := by decide +kernel
theorem dX11_init_24 : decode cX11_init 24 = .ok (.newarray .int, 2) := by decide +kernel
theorem dX11_init_26 : decode cX11_init 26 = .ok (.putfield 16, 3) := by decide +kernel
theorem dX11_init_29 : decode cX11_init 29 = .ok (.aload_n 0, 1) := by decide +kernel
theorem dX11_init_30 : decode cX11_init 30 = .ok (.iconst 4, 1) := by decide +kernel
theorem dX11_init_31 : decode cX11_init 31 = .ok (.newarray .int, 2) := by decide +kernel
theorem dX11_init_33 : decode cX11_init 33 = .ok (.putfield 19, 3) := by decide +kernel
theorem dX11_init_36 : decode cX11_init 36 = .ok (.aload_n 0, 1) := by decide +kernel
theorem dX11_init_37 : decode cX11_init 37 = .ok (.sipush 160, 3) := by decide +kernel
theorem dX11_init_40 : decode cX11_init 40 = .ok (.newarray .int, 2) := by decide +kernel
theorem dX11_init_42 : decode cX11_init 42 = .ok (.putfield 22, 3) := by decide +kernel
theorem dX11_init_45 : decode cX11_init 45 = .ok (.aload_n 0, 1) := by decide +kernel
theorem dX11_init_46 : decode cX11_init 46 = .ok (.bipush 8, 2) := by decide +kernel
theorem dX11_init_48 : decode cX11_init 48 = .ok (.newarray .int, 2) := by decide +kernel
theorem dX11_init_50 : decode cX11_init 50 = .ok (.dup, 1) := by decide +kernel
theorem dX11_init_51 : decode cX11_init 51 = .ok (.iconst 0, 1) := by decide +kernel
theorem dX11_init_52 : decode cX11_init 52 = .ok (.iconst 1, 1) := by decide +kernel
theorem dX11_init_53 : decode cX11_init 53 = .ok (.iastore, 1) := by decide +kernel
theorem dX11_init_54 : decode cX11_init 54 = .ok (.dup, 1) := by decide +kernel
theorem dX11_init_55 : decode cX11_init 55 = .ok (.iconst 1, 1) := by decide +kernel
theorem dX11_init_56 : decode cX11_init 56 = .ok (.iconst 1, 1) := by decide +kernel
theorem dX11_init_57 : decode cX11_init 57 = .ok (.iastore, 1) := by decide +kernel
theorem dX11_init_58 : decode cX11_init 58 = .ok (.dup, 1) := by decide +kernel
theorem dX11_init_59 : decode cX11_init 59 = .ok (.iconst 2, 1) := by decide +kernel
theorem dX11_init_60 : decode cX11_init 60 = .ok (.iconst 0, 1) := by decide +kernel
theorem dX11_init_61 : decode cX11_init 61 = .ok (.iastore, 1) := by decide +kernel
theorem dX11_init_62 : decode cX11_init 62 = .ok (.dup, 1) := by decide +kernel
theorem dX11_init_63 : decode cX11_init 63 = .ok (.iconst 3, 1) := by decide +kernel
theorem dX11_init_64 : decode cX11_init 64 = .ok (.iconst (-1), 1) := by decide +kernel
theorem dX11_init_65 : decode cX11_init 65 = .ok (.iastore, 1) := by decide +kernel
theorem dX11_init_66 : decode cX11_init 66 = .ok (.dup, 1) := by decide +kernel
theorem dX11_init_67 : decode cX11_init 67 = .ok (.iconst 4, 1) := by decide +kernel
theorem dX11_init_68 : decode cX11_init 68 = .ok (.iconst (-1), 1) := by decide +kernel
theorem dX11_init_69 : decode cX11_init 69 = .ok (.iastore, 1) := by decide +kernel
theorem dX11_init_70 : decode cX11_init 70 = .ok (.dup, 1) := by decide +kernel
theorem dX11_init_71 : decode cX11_init 71 = .ok (.iconst 5, 1) := by decide +kernel
theorem dX11_init_72 : decode cX11_init 72 = .ok (.iconst (-1), 1) := by decide +kernel
theorem dX11_init_73 : decode cX11_init 73 = .ok (.iastore, 1) := by decide +kernel
theorem dX11_init_74 : decode cX11_init 74 = .ok (.dup, 1) := by decide +kernel
theorem dX11_init_75 : decode cX11_init 75 = .ok (.bipush 6, 2) := by decide +kernel
theorem dX11_init_77 : decode cX11_init 77 = .ok (.iconst 0, 1) := by decide +kernel
theorem dX11_init_78 : decode cX11_init 78 = .ok (.iastore, 1) := by decide +kernel
theorem dX11_init_79 : decode cX11_init 79 = .ok (.dup, 1) := by decide +kernel
theorem dX11_init_80 : decode cX11_init 80 = .ok (.bipush 7, 2) := by decide +kernel
theorem dX11_init_82 : decode cX11_init 82 = .ok (.iconst 1, 1) := by decide +kernel
theorem dX11_init_83 : decode cX11_init 83 = .ok (.iastore, 1) := by decide +kernel
theorem dX11_init_84 : decode cX11_init 84 = .ok (.putfield 25, 3) := by decide +kernel
theorem dX11_init_87 : decode cX11_init 87 = .ok (.aload_n 0, 1) := by decide +kernel
theorem dX11_init_88 : decode cX11_init 88 = .ok (.bipush 8, 2) := by decide +kernel
theorem dX11_init_90 : decode cX11_init 90 = .ok (.newarray .int, 2) := by decide +kernel
theorem dX11_init_92 : decode cX11_init 92 = .ok (.dup, 1) := by decide +kernel
theorem dX11_init_93 : decode cX11_init 93 = .ok (.iconst 0, 1) := by decide +kernel
theorem dX11_init_94 : decode cX11_init 94 = .ok (.iconst 0, 1) := by decide +kernel
theorem dX11_init_95 : decode cX11_init 95 = .ok (.iastore, 1) := by decide +kernel
theorem dX11_init_96 : decode cX11_init 96 = .ok (.dup, 1) := by decide +kernel
theorem dX11_init_97 : decode cX11_init 97 = .ok (.iconst 1, 1) := by decide +kernel
theorem dX11_init_98 : decode cX11_init 98 = .ok (.iconst 1, 1) := by decide +kernel
theorem dX11_init_99 : decode cX11_init 99 = .ok (.iastore, 1) := by decide +kernel
theorem dX11_init_100 : decode cX11_init 100 = .ok (.dup, 1) := by decide +kernel
theorem dX11_init_101 : decode cX11_init 101 = .ok (.iconst 2, 1) := by decide +kernel
theorem dX11_init_102 : decode cX11_init 102 = .ok (.iconst 1, 1) := by decide +kernel
theorem dX11_init_103 : decode cX11_init 103 = .ok (.iastore, 1) := by decide +kernel
theorem dX11_init_104 : decode cX11_init 104 = .ok (.dup, 1) := by decide +kernel
theorem dX11_init_105 : decode cX11_init 105 = .ok (.iconst 3, 1) := by decide +kernel
theorem dX11_init_106 : decode cX11_init 106 = .ok (.iconst 1, 1) := by decide +kernel
theorem dX11_init_107 : decode cX11_init 107 = .ok (.iastore, 1) := by decide +kernel
theorem dX11_init_108 : decode cX11_init 108 = .ok (.dup, 1) := by decide +kernel
theorem dX11_init_109 : decode cX11_init 109 = .ok (.iconst 4, 1) := by decide +kernel
theorem dX11_init_110 : decode cX11_init 110 = .ok (.iconst 0, 1) := by decide +kernel
theorem dX11_init_111 : decode cX11_init 111 = .ok (.iastore, 1) := by decide +kernel
theorem dX11_init_112 : decode cX11_init 112 = .ok (.dup, 1) := by decide +kernel
theorem dX11_init_113 : decode cX11_init 113 = .ok (.iconst 5, 1) := by decide +kernel
theorem dX11_init_114 : decode cX11_init 114 = .ok (.iconst (-1), 1) := by decide +kernel
theorem dX11_init_115 : decode cX11_init 115 = .ok (.iastore, 1) := by decide +kernel
theorem dX11_init_116 : decode cX11_init 116 = .ok (.dup, 1) := by decide +kernel
theorem dX11_init_117 : decode cX11_init 117 = .ok (.bipush 6, 2) := by decide +kernel
theorem dX11_init_119 : decode cX11_init 119 = .ok (.iconst (-1), 1) := by decide +kernel
theorem dX11_init_120 : decode cX11_init 120 = .ok (.iastore, 1) := by decide +kernel
theorem dX11_init_121 : decode cX11_init 121 = .ok (.dup, 1) := by decide +kernel
theorem dX11_init_122 : decode cX11_init 122 = .ok (.bipush 7, 2) := by decide +kernel
theorem dX11_init_124 : decode cX11_init 124 = .ok (.iconst (-1), 1) := by decide +kernel
theorem dX11_init_125 : decode cX11_init 125 = .ok (.iastore, 1) := by decide +kernel
theorem dX11_init_126 : decode cX11_init 126 = .ok (.putfield 28, 3) := by decide +kernel
theorem dX11_init_129 : decode cX11_init 129 = .ok (.aload_n 0, 1) := by decide +kernel
theorem dX11_init_130 : decode cX11_init 130 = .ok (.bipush 8, 2) := by decide +kernel
theorem dX11_init_132 : decode cX11_init 132 = .ok (.newarray .int, 2) := by decide +kernel
theorem dX11_init_134 : decode cX11_init 134 = .ok (.putfield 31, 3) := by decide +kernel
theorem dX11_init_137 : decode cX11_init 137 = .ok (.aload_n 0, 1) := by decide +kernel
theorem dX11_init_138 : decode cX11_init 138 = .ok (.sipush 1500, 3) := by decide +kernel
theorem dX11_init_141 : decode cX11_init 141 = .ok (.newarray .int, 2) := by decide +kernel
theorem dX11_init_143 : decode cX11_init 143 = .ok (.putfield 34, 3) := by decide +kernel
theorem dX11_init_146 : decode cX11_init 146 = .ok (.aload_n 0, 1) := by decide +kernel
theorem dX11_init_147 : decode cX11_init 147 = .ok (.bipush 25, 2) := by decide +kernel
theorem dX11_init_149 : decode cX11_init 149 = .ok (.newarray .int, 2) := by decide +kernel
theorem dX11_init_151 : decode cX11_init 151 = .ok (.putfield 37, 3) := by decide +kernel
theorem dX11_init_154 : decode cX11_init 154 = .ok (.aload_n 0, 1) := by decide +kernel
theorem dX11_init_155 : decode cX11_init 155 = .ok (.sipush 200, 3) := by decide +kernel
theorem dX11_init_158 : decode cX11_init 158 = .ok (.newarray .int, 2) := by decide +kernel
theorem dX11_init_160 : decode cX11_init 160 = .ok (.putfield 40, 3) := by decide +kernel
theorem dX11_init_163 : decode cX11_init 163 = .ok (.aload_n 0, 1) := by decide +kernel
theorem dX11_init_164 : decode cX11_init 164 = .ok (.iconst 3, 1) := by decide +kernel
theorem dX11_init_165 : decode cX11_init 165 = .ok (.newarray .int, 2) := by decide +kernel
theorem dX11_init_167 : decode cX11_init 167 = .ok (.putfield 43, 3) := by decide +kernel
theorem dX11_init_170 : decode cX11_init 170 = .ok (.aload_n 0, 1) := by decide +kernel
theorem dX11_init_171 : decode cX11_init 171 = .ok (.bipush 40, 2) := by decide +kernel
theorem dX11_init_173 : decode cX11_init 173 = .ok (.newarray .int, 2) := by decide +kernel
theorem dX11_init_175 : decode cX11_init 175 = .ok (.putfield 46, 3) := by decide +kernel
theorem dX11_init_178 : decode cX11_init 178 = .ok (.aload_n 0, 1) := by decide +kernel
theorem dX11_init_179 : decode cX11_init 179 = .ok (.iconst 3, 1) := by decide +kernel
theorem dX11_init_180 : decode cX11_init 180 = .ok (.invokevirtual 49, 3) := by decide +kernel
theorem dX11_init_183 : decode cX11_init 183 = .ok (.return_, 1) := by decide +kernel
theorem dX11_in_0 : decode cX11_in 0 = .ok (.iload_n 0, 1) := by decide +kernel
theorem dX11_in_1 : decode cX11_in 1 = .ok (.iload_n 1, 1) := by decide +kernel
theorem dX11_in_2 : decode cX11_in 2 = .ok (.if_icmp .lt 12, 3) := by decide +kernel
theorem dX11_in_5 : decode cX11_in 5 = .ok (.iload_n 0, 1) := by decide +kernel
theorem dX11_in_6 : decode cX11_in 6 = .ok (.iload_n 2, 1) := by decide +kernel
theorem dX11_in_7 : decode cX11_in 7 = .ok (.if_icmp .gt 7, 3) := by decide +kernel
theorem dX11_in_10 : decode cX11_in 10 = .ok (.iconst 1, 1) := by decide +kernel
theorem dX11_in_11 : decode cX11_in 11 = .ok (.goto 4, 3) := by decide +kernel
theorem dX11_in_14 : decode cX11_in 14 = .ok (.iconst 0, 1) := by decide +kernel
theorem dX11_in_15 : decode cX11_in 15 = .ok (.ireturn, 1) := by decide +kernel
theorem dX11_finds_0 : decode cX11_finds 0 = .ok (.aload_n 0, 1) := by decide +kernel
theorem dX11_finds_1 : decode cX11_finds 1 = .ok (.dup, 1) := by decide +kernel
theorem dX11_finds_2 : decode cX11_finds 2 = .ok (.getfield 53, 3) := by decide +kernel
theorem dX11_finds_5 : decode cX11_finds 5 = .ok (.iconst 1, 1) := by decide +kernel
theorem dX11_finds_6 : decode cX11_finds 6 = .ok (.iadd, 1) := by decide +kernel
theorem dX11_finds_7 : decode cX11_finds 7 = .ok (.putfield 53, 3) := by decide +kernel
theorem dX11_finds_10 : decode cX11_finds 10 = .ok (.iload_n 1, 1) := by decide +kernel
theorem dX11_finds_11 : decode cX11_finds 11 = .ok (.ireturn, 1) := by decide +kernel
theorem dX11_keep_0 : decode cX11_keep 0 = .ok (.iconst 0, 1) := by decide +kernel
theorem dX11_keep_1 : decode cX11_keep 1 = .ok (.istore_n 1, 1) := by decide +kernel
theorem dX11_keep_2 : decode cX11_keep 2 = .ok (.iload_n 1, 1) := by decide +kernel
theorem dX11_keep_3 : decode cX11_keep 3 = .ok (.sipush 572, 3) := by decide +kernel
theorem dX11_keep_6 : decode cX11_keep 6 = .ok (.if_icmp .ge 30, 3) := by decide +kernel
theorem dX11_keep_9 : decode cX11_keep 9 = .ok (.aload_n 0, 1) := by decide +kernel
theorem dX11_keep_10 : decode cX11_keep 10 = .ok (.getfield 13, 3) := by decide +kernel
theorem dX11_keep_13 : decode cX11_keep 13 = .ok (.sipush 572, 3) := by decide +kernel
theorem dX11_keep_16 : decode cX11_keep 16 = .ok (.aload_n 0, 1) := by decide +kernel
theorem dX11_keep_17 : decode cX11_keep 17 = .ok (.getfield 57, 3) := by decide +kernel
theorem dX11_keep_20 : decode cX11_keep 20 = .ok (.imul, 1) := by decide +kernel
theorem dX11_keep_21 : decode cX11_keep 21 = .ok (.iload_n 1, 1) := by decide +kernel
theorem dX11_keep_22 : decode cX11_keep 22 = .ok (.iadd, 1) := by decide +kernel
theorem dX11_keep_23 : decode cX11_keep 23 = .ok (.aload_n 0, 1) := by decide +kernel
theorem dX11_keep_24 : decode cX11_keep 24 = .ok (.getfield 7, 3) := by decide +kernel
theorem dX11_keep_27 : decode cX11_keep 27 = .ok (.iload_n 1, 1) := by decide +kernel
theorem dX11_keep_28 : decode cX11_keep 28 = .ok (.iaload, 1) := by decide +kernel
theorem dX11_keep_29 : decode cX11_keep 29 = .ok (.iastore, 1) := by decide +kernel
theorem dX11_keep_30 : decode cX11_keep 30 = .ok (.iinc 1 1, 3) := by decide +kernel
theorem dX11_keep_33 : decode cX11_keep 33 = .ok (.goto (-31), 3) := by decide +kernel
theorem dX11_keep_36 : decode cX11_keep 36 = .ok (.aload_n 0, 1) := by decide +kernel
theorem dX11_keep_37 : decode cX11_keep 37 = .ok (.aload_n 0, 1) := by decide +kernel
theorem dX11_keep_38 : decode cX11_keep 38 = .ok (.getfield 57, 3) := by decide +kernel
theorem dX11_keep_41 : decode cX11_keep 41 = .ok (.iconst 1, 1) := by decide +kernel
theorem dX11_keep_42 : decode cX11_keep 42 = .ok (.iadd, 1) := by decide +kernel
theorem dX11_keep_43 : decode cX11_keep 43 = .ok (.bipush 20, 2) := by decide +kernel
theorem dX11_keep_45 : decode cX11_keep 45 = .ok (.irem, 1) := by decide +kernel
theorem dX11_keep_46 : decode cX11_keep 46 = .ok (.putfield 57, 3) := by decide +kernel
theorem dX11_keep_49 : decode cX11_keep 49 = .ok (.aload_n 0, 1) := by decide +kernel
theorem dX11_keep_50 : decode cX11_keep 50 = .ok (.aload_n 0, 1) := by decide +kernel
theorem dX11_keep_51 : decode cX11_keep 51 = .ok (.getfield 60, 3) := by decide +kernel
theorem dX11_keep_54 : decode cX11_keep 54 = .ok (.bipush 20, 2) := by decide +kernel
theorem dX11_keep_56 : decode cX11_keep 56 = .ok (.if_icmp .ge 12, 3) := by decide +kernel
theorem dX11_keep_59 : decode cX11_keep 59 = .ok (.aload_n 0, 1) := by decide +kernel
theorem dX11_keep_60 : decode cX11_keep 60 = .ok (.getfield 60, 3) := by decide +kernel
theorem dX11_keep_63 : decode cX11_keep 63 = .ok (.iconst 1, 1) := by decide +kernel
theorem dX11_keep_64 : decode cX11_keep 64 = .ok (.iadd, 1) := by decide +kernel
theorem dX11_keep_65 : decode cX11_keep 65 = .ok (.goto 5, 3) := by decide +kernel
theorem dX11_keep_68 : decode cX11_keep 68 = .ok (.bipush 20, 2) := by decide +kernel
theorem dX11_keep_70 : decode cX11_keep 70 = .ok (.putfield 60, 3) := by decide +kernel
theorem dX11_keep_73 : decode cX11_keep 73 = .ok (.return_, 1) := by decide +kernel
theorem dX11_undo_0 : decode cX11_undo 0 = .ok (.aload_n 0, 1) := by decide +kernel
theorem dX11_undo_1 : decode cX11_undo 1 = .ok (.getfield 60, 3) := by decide +kernel
theorem dX11_undo_4 : decode cX11_undo 4 = .ok (.ifCond .ne 10, 3) := by decide +kernel
theorem dX11_undo_7 : decode cX11_undo 7 = .ok (.aload_n 0, 1) := by decide +kernel
theorem dX11_undo_8 : decode cX11_undo 8 = .ok (.ldc 63, 2) := by decide +kernel
theorem dX11_undo_10 : decode cX11_undo 10 = .ok (.invokevirtual 64, 3) := by decide +kernel
theorem dX11_undo_13 : decode cX11_undo 13 = .ok (.ireturn, 1) := by decide +kernel
theorem dX11_undo_14 : decode cX11_undo 14 = .ok (.aload_n 0, 1) := by decide +kernel
theorem dX11_undo_15 : decode cX11_undo 15 = .ok (.aload_n 0, 1) := by decide +kernel
theorem dX11_undo_16 : decode cX11_undo 16 = .ok (.getfield 57, 3) := by decide +kernel
theorem dX11_undo_19 : decode cX11_undo 19 = .ok (.bipush 20, 2) := by decide +kernel
theorem dX11_undo_21 : decode cX11_undo 21 = .ok (.iadd, 1) := by decide +kernel
theorem dX11_undo_22 : decode cX11_undo 22 = .ok (.iconst 1, 1) := by decide +kernel
theorem dX11_undo_23 : decode cX11_undo 23 = .ok (.isub, 1) := by decide +kernel
theorem dX11_undo_24 : decode cX11_undo 24 = .ok (.bipush 20, 2) := by decide +kernel
theorem dX11_undo_26 : decode cX11_undo 26 = .ok (.irem, 1) := by decide +kernel
theorem dX11_undo_27 : decode cX11_undo 27 = .ok (.putfield 57, 3) := by decide +kernel
theorem dX11_undo_30 : decode cX11_undo 30 = .ok (.aload_n 0, 1) := by decide +kernel
theorem dX11_undo_31 : decode cX11_undo 31 = .ok (.dup, 1) := by decide +kernel
theorem dX11_undo_32 : decode cX11_undo 32 = .ok (.getfield 60, 3) := by decide +kernel
theorem dX11_undo_35 : decode cX11_undo 35 = .ok (.iconst 1, 1) := by decide +kernel
theorem dX11_undo_36 : decode cX11_undo 36 = .ok (.isub, 1) := by decide +kernel
theorem dX11_undo_37 : decode cX11_undo 37 = .ok (.putfield 60, 3) := by decide +kernel
theorem dX11_undo_40 : decode cX11_undo 40 = .ok (.iconst 0, 1) := by decide +kernel
theorem dX11_undo_41 : decode cX11_undo 41 = .ok (.istore_n 1, 1) := by decide +kernel
theorem dX11_undo_42 : decode cX11_undo 42 = .ok (.iload_n 1, 1) := by decide +kernel
theorem dX11_undo_43 : decode cX11_undo 43 = .ok (.sipush 572, 3) := by decide +kernel
theorem dX11_undo_46 : decode cX11_undo 46 = .ok (.if_icmp .ge 30, 3) := by decide +kernel
theorem dX11_undo_49 : decode cX11_undo 49 = .ok (.aload_n 0, 1) := by decide +kernel
theorem dX11_undo_50 : decode cX11_undo 50 = .ok (.getfield 7, 3) := by decide +kernel
theorem dX11_undo_53 : decode cX11_undo 53 = .ok (.iload_n 1, 1) := by decide +kernel
theorem dX11_undo_54 : decode cX11_undo 54 = .ok (.aload_n 0, 1) := by decide +kernel
theorem dX11_undo_55 : decode cX11_undo 55 = .ok (.getfield 13, 3) := by decide +kernel
theorem dX11_undo_58 : decode cX11_undo 58 = .ok (.sipush 572, 3) := by decide +kernel
theorem dX11_undo_61 : decode cX11_undo 61 = .ok (.aload_n 0, 1) := by decide +kernel
theorem dX11_undo_62 : decode cX11_undo 62 = .ok (.getfield 57, 3) := by decide +kernel
theorem dX11_undo_65 : decode cX11_undo 65 = .ok (.imul, 1) := by decide +kernel
theorem dX11_undo_66 : decode cX11_undo 66 = .ok (.iload_n 1, 1) := by decide +kernel
theorem dX11_undo_67 : decode cX11_undo 67 = .ok (.iadd, 1) := by decide +kernel
theorem dX11_undo_68 : decode cX11_undo 68 = .ok (.iaload, 1) := by decide +kernel
theorem dX11_undo_69 : decode cX11_undo 69 = .ok (.iastore, 1) := by decide +kernel
theorem dX11_undo_70 : decode cX11_undo 70 = .ok (.iinc 1 1, 3) := by decide +kernel
theorem dX11_undo_73 : decode cX11_undo 73 = .ok (.goto (-31), 3) := by decide +kernel
theorem dX11_undo_76 : decode cX11_undo 76 = .ok (.aload_n 0, 1) := by decide +kernel
theorem dX11_undo_77 : decode cX11_undo 77 = .ok (.getfield 60, 3) := by decide +kernel
theorem dX11_undo_80 : decode cX11_undo 80 = .ok (.ireturn, 1) := by decide +kernel
theorem dX11_isFlyer_0 : decode cX11_isFlyer 0 = .ok (.iload_n 1, 1) := by decide +kernel
theorem dX11_isFlyer_1 : decode cX11_isFlyer 1 = .ok (.iconst 0, 1) := by decide +kernel
theorem dX11_isFlyer_2 : decode cX11_isFlyer 2 = .ok (.aload_n 0, 1) := by decide +kernel
theorem dX11_isFlyer_3 : decode cX11_isFlyer 3 = .ok (.getfield 7, 3) := by decide +kernel
theorem dX11_isFlyer_6 : decode cX11_isFlyer 6 = .ok (.iconst 0, 1) := by decide +kernel
theorem dX11_isFlyer_7 : decode cX11_isFlyer 7 = .ok (.iaload, 1) := by decide +kernel
theorem dX11_isFlyer_8 : decode cX11_isFlyer 8 = .ok (.iconst 1, 1) := by decide +kernel
theorem dX11_isFlyer_9 : decode cX11_isFlyer 9 = .ok (.isub, 1) := by decide +kernel
theorem dX11_isFlyer_10 : decode cX11_isFlyer 10 = .ok (.invokestatic 68, 3) := by decide +kernel
theorem dX11_isFlyer_13 : decode cX11_isFlyer 13 = .ok (.ireturn, 1) := by decide +kernel
theorem dX11_ofFlyer_0 : decode cX11_ofFlyer 0 = .ok (.aload_n 0, 1) := by decide +kernel
theorem dX11_ofFlyer_1 : decode cX11_ofFlyer 1 = .ok (.getfield 7, 3) := by decide +kernel
theorem dX11_ofFlyer_4 : decode cX11_ofFlyer 4 = .ok (.iconst 3, 1) := by decide +kernel
theorem dX11_ofFlyer_5 : decode cX11_ofFlyer 5 = .ok (.bipush 8, 2) := by decide +kernel
theorem dX11_ofFlyer_7 : decode cX11_ofFlyer 7 = .ok (.iload_n 1, 1) := by decide +kernel
theorem dX11_ofFlyer_8 : decode cX11_ofFlyer 8 = .ok (.imul, 1) := by decide +kernel
theorem dX11_ofFlyer_9 : decode cX11_ofFlyer 9 = .ok (.iadd, 1) := by decide +kernel
theorem dX11_ofFlyer_10 : decode cX11_ofFlyer 10 = .ok (.iload_n 2, 1) := by decide +kernel
theorem dX11_ofFlyer_11 : decode cX11_ofFlyer 11 = .ok (.iadd, 1) := by decide +kernel
theorem dX11_ofFlyer_12 : decode cX11_ofFlyer 12 = .ok (.iaload, 1) := by decide +kernel
theorem dX11_ofFlyer_13 : decode cX11_ofFlyer 13 = .ok (.ireturn, 1) := by decide +kernel
theorem dX11_isHeight_0 : decode cX11_isHeight 0 = .ok (.iload_n 0, 1) := by decide +kernel
theorem dX11_isHeight_1 : decode cX11_isHeight 1 = .ok (.iconst 0, 1) := by decide +kernel
theorem dX11_isHeight_2 : decode cX11_isHeight 2 = .ok (.iconst 3, 1) := by decide +kernel
theorem dX11_isHeight_3 : decode cX11_isHeight 3 = .ok (.invokestatic 68, 3) := by decide +kernel
theorem dX11_isHeight_6 : decode cX11_isHeight 6 = .ok (.ireturn, 1) := by decide +kernel
theorem dX11_isMinute_0 : decode cX11_isMinute 0 = .ok (.iload_n 0, 1) := by decide +kernel
theorem dX11_isMinute_1 : decode cX11_isMinute 1 = .ok (.iconst 0, 1) := by decide +kernel
theorem dX11_isMinute_2 : decode cX11_isMinute 2 = .ok (.bipush 19, 2) := by decide +kernel
theorem dX11_isMinute_4 : decode cX11_isMinute 4 = .ok (.invokestatic 68, 3) := by decide +kernel
theorem dX11_isMinute_7 : decode cX11_isMinute 7 = .ok (.ireturn, 1) := by decide +kernel
theorem dX11_flyer_0 : decode cX11_flyer 0 = .ok (.iload_n 1, 1) := by decide +kernel
theorem dX11_flyer_1 : decode cX11_flyer 1 = .ok (.iconst 0, 1) := by decide +kernel
theorem dX11_flyer_2 : decode cX11_flyer 2 = .ok (.iconst 3, 1) := by decide +kernel
theorem dX11_flyer_3 : decode cX11_flyer 3 = .ok (.invokestatic 68, 3) := by decide +kernel
theorem dX11_flyer_6 : decode cX11_flyer 6 = .ok (.ifCond .eq 68, 3) := by decide +kernel
theorem dX11_flyer_9 : decode cX11_flyer 9 = .ok (.iload_n 2, 1) := by decide +kernel
theorem dX11_flyer_10 : decode cX11_flyer 10 = .ok (.iconst 0, 1) := by decide +kernel
theorem dX11_flyer_11 : decode cX11_flyer 11 = .ok (.sipush 9999, 3) := by decide +kernel
theorem dX11_flyer_14 : decode cX11_flyer 14 = .ok (.invokestatic 68, 3) := by decide +kernel
theorem dX11_flyer_17 : decode cX11_flyer 17 = .ok (.ifCond .eq 57, 3) := by decide +kernel
theorem dX11_flyer_20 : decode cX11_flyer 20 = .ok (.iload_n 3, 1) := by decide +kernel
theorem dX11_flyer_21 : decode cX11_flyer 21 = .ok (.invokestatic 72, 3) := by decide +kernel
theorem dX11_flyer_24 : decode cX11_flyer 24 = .ok (.ifCond .eq 50, 3) := by decide +kernel
theorem dX11_flyer_27 : decode cX11_flyer 27 = .ok (.iload 4, 2) := by decide +kernel
theorem dX11_flyer_29 : decode cX11_flyer 29 = .ok (.iconst 1, 1) := by decide +kernel
theorem dX11_flyer_30 : decode cX11_flyer 30 = .ok (.bipush 40, 2) := by decide +kernel
theorem dX11_flyer_32 : decode cX11_flyer 32 = .ok (.invokestatic 68, 3) := by decide +kernel
theorem dX11_flyer_35 : decode cX11_flyer 35 = .ok (.ifCond .eq 39, 3) := by decide +kernel
theorem dX11_flyer_38 : decode cX11_flyer 38 = .ok (.iload 5, 2) := by decide +kernel
theorem dX11_flyer_40 : decode cX11_flyer 40 = .ok (.iconst 1, 1) := by decide +kernel
theorem dX11_flyer_41 : decode cX11_flyer 41 = .ok (.bipush 9, 2) := by decide +kernel
theorem dX11_flyer_43 : decode cX11_flyer 43 = .ok (.invokestatic 68, 3) := by decide +kernel
theorem dX11_flyer_46 : decode cX11_flyer 46 = .ok (.ifCond .eq 28, 3) := by decide +kernel
theorem dX11_flyer_49 : decode cX11_flyer 49 = .ok (.iload 6, 2) := by decide +kernel
theorem dX11_flyer_51 : decode cX11_flyer 51 = .ok (.ifCond .lt 23, 3) := by decide +kernel
theorem dX11_flyer_54 : decode cX11_flyer 54 = .ok (.iload 6, 2) := by decide +kernel
theorem dX11_flyer_56 : decode cX11_flyer 56 = .ok (.bipush 16, 2) := by decide +kernel
theorem dX11_flyer_58 : decode cX11_flyer 58 = .ok (.idiv, 1) := by decide +kernel
theorem dX11_flyer_59 : decode cX11_flyer 59 = .ok (.bipush 12, 2) := by decide +kernel
theorem dX11_flyer_61 : decode cX11_flyer 61 = .ok (.if_icmp .gt 13, 3) := by decide +kernel
theorem dX11_flyer_64 : decode cX11_flyer 64 = .ok (.iload 6, 2) := by decide +kernel
theorem dX11_flyer_66 : decode cX11_flyer 66 = .ok (.bipush 16, 2) := by decide +kernel
theorem dX11_flyer_68 : decode cX11_flyer 68 = .ok (.irem, 1) := by decide +kernel
theorem dX11_flyer_69 : decode cX11_flyer 69 = .ok (.bipush 12, 2) := by decide +kernel
theorem dX11_flyer_71 : decode cX11_flyer 71 = .ok (.if_icmp .le 10, 3) := by decide +kernel
theorem dX11_flyer_74 : decode cX11_flyer 74 = .ok (.aload_n 0, 1) := by decide +kernel
theorem dX11_flyer_75 : decode cX11_flyer 75 = .ok (.ldc 76, 2) := by decide +kernel
theorem dX11_flyer_77 : decode cX11_flyer 77 = .ok (.invokevirtual 64, 3) := by decide +kernel
theorem dX11_flyer_80 : decode cX11_flyer 80 = .ok (.ireturn, 1) := by decide +kernel
theorem dX11_flyer_81 : decode cX11_flyer 81 = .ok (.iload 6, 2) := by decide +kernel
theorem dX11_flyer_83 : decode cX11_flyer 83 = .ok (.bipush 16, 2) := by decide +kernel
theorem dX11_flyer_85 : decode cX11_flyer 85 = .ok (.idiv, 1) := by decide +kernel
theorem dX11_flyer_86 : decode cX11_flyer 86 = .ok (.iload 6, 2) := by decide +kernel
theorem dX11_flyer_88 : decode cX11_flyer 88 = .ok (.bipush 16, 2) := by decide +kernel
theorem dX11_flyer_90 : decode cX11_flyer 90 = .ok (.irem, 1) := by decide +kernel
theorem dX11_flyer_91 : decode cX11_flyer 91 = .ok (.if_icmp .le 10, 3) := by decide +kernel
theorem dX11_flyer_94 : decode cX11_flyer 94 = .ok (.aload_n 0, 1) := by decide +kernel
theorem dX11_flyer_95 : decode cX11_flyer 95 = .ok (.ldc 77, 2) := by decide +kernel
theorem dX11_flyer_97 : decode cX11_flyer 97 = .ok (.invokevirtual 64, 3) := by decide +kernel
theorem dX11_flyer_100 : decode cX11_flyer 100 = .ok (.ireturn, 1) := by decide +kernel
theorem dX11_flyer_101 : decode cX11_flyer 101 = .ok (.aload_n 0, 1) := by decide +kernel
theorem dX11_flyer_102 : decode cX11_flyer 102 = .ok (.getfield 7, 3) := by decide +kernel
theorem dX11_flyer_105 : decode cX11_flyer 105 = .ok (.iconst 0, 1) := by decide +kernel
theorem dX11_flyer_106 : decode cX11_flyer 106 = .ok (.iaload, 1) := by decide +kernel
theorem dX11_flyer_107 : decode cX11_flyer 107 = .ok (.istore 7, 2) := by decide +kernel
theorem dX11_flyer_109 : decode cX11_flyer 109 = .ok (.iload 7, 2) := by decide +kernel
theorem dX11_flyer_111 : decode cX11_flyer 111 = .ok (.bipush 8, 2) := by decide +kernel
theorem dX11_flyer_113 : decode cX11_flyer 113 = .ok (.if_icmp .ne 10, 3) := by decide +kernel
theorem dX11_flyer_116 : decode cX11_flyer 116 = .ok (.aload_n 0, 1) := by decide +kernel
theorem dX11_flyer_117 : decode cX11_flyer 117 = .ok (.ldc 78, 2) := by decide +kernel
theorem dX11_flyer_119 : decode cX11_flyer 119 = .ok (.invokevirtual 64, 3) := by decide +kernel
theorem dX11_flyer_122 : decode cX11_flyer 122 = .ok (.ireturn, 1) := by decide +kernel
theorem dX11_flyer_123 : decode cX11_flyer 123 = .ok (.aload_n 0, 1) := by decide +kernel
theorem dX11_flyer_124 : decode cX11_flyer 124 = .ok (.invokevirtual 79, 3) := by decide +kernel
theorem dX11_flyer_127 : decode cX11_flyer 127 = .ok (.iconst 3, 1) := by decide +kernel
theorem dX11_flyer_128 : decode cX11_flyer 128 = .ok (.bipush 8, 2) := by decide +kernel
theorem dX11_flyer_130 : decode cX11_flyer 130 = .ok (.iload 7, 2) := by decide +kernel
theorem dX11_flyer_132 : decode cX11_flyer 132 = .ok (.imul, 1) := by decide +kernel
theorem dX11_flyer_133 : decode cX11_flyer 133 = .ok (.iadd, 1) := by decide +kernel
theorem dX11_flyer_134 : decode cX11_flyer 134 = .ok (.istore 8, 2) := by decide +kernel
theorem dX11_flyer_136 : decode cX11_flyer 136 = .ok (.aload_n 0, 1) := by decide +kernel
theorem dX11_flyer_137 : decode cX11_flyer 137 = .ok (.getfield 7, 3) := by decide +kernel
theorem dX11_flyer_140 : decode cX11_flyer 140 = .ok (.iload 8, 2) := by decide +kernel
theorem dX11_flyer_142 : decode cX11_flyer 142 = .ok (.iload_n 1, 1) := by decide +kernel
theorem dX11_flyer_143 : decode cX11_flyer 143 = .ok (.iastore, 1) := by decide +kernel
theorem dX11_flyer_144 : decode cX11_flyer 144 = .ok (.aload_n 0, 1) := by decide +kernel
theorem dX11_flyer_145 : decode cX11_flyer 145 = .ok (.getfield 7, 3) := by decide +kernel
theorem dX11_flyer_148 : decode cX11_flyer 148 = .ok (.iload 8, 2) := by decide +kernel
theorem dX11_flyer_150 : decode cX11_flyer 150 = .ok (.iconst 1, 1) := by decide +kernel
theorem dX11_flyer_151 : decode cX11_flyer 151 = .ok (.iadd, 1) := by decide +kernel
theorem dX11_flyer_152 : decode cX11_flyer 152 = .ok (.iload_n 2, 1) := by decide +kernel
theorem dX11_flyer_153 : decode cX11_flyer 153 = .ok (.bipush 100, 2) := by decide +kernel
theorem dX11_flyer_155 : decode cX11_flyer 155 = .ok (.idiv, 1) := by decide +kernel
theorem dX11_flyer_156 : decode cX11_flyer 156 = .ok (.iastore, 1) := by decide +kernel
theorem dX11_flyer_157 : decode cX11_flyer 157 = .ok (.aload_n 0, 1) := by decide +kernel
theorem dX11_flyer_158 : decode cX11_flyer 158 = .ok (.getfield 7, 3) := by decide +kernel
theorem dX11_flyer_161 : decode cX11_flyer 161 = .ok (.iload 8, 2) := by decide +kernel
theorem dX11_flyer_163 : decode cX11_flyer 163 = .ok (.iconst 2, 1) := by decide +kernel
theorem dX11_flyer_164 : decode cX11_flyer 164 = .ok (.iadd, 1) := by decide +kernel
theorem dX11_flyer_165 : decode cX11_flyer 165 = .ok (.iload_n 2, 1) := by decide +kernel
theorem dX11_flyer_166 : decode cX11_flyer 166 = .ok (.bipush 100, 2) := by decide +kernel
theorem dX11_flyer_168 : decode cX11_flyer 168 = .ok (.irem, 1) := by decide +kernel
theorem dX11_flyer_169 : decode cX11_flyer 169 = .ok (.iastore, 1) := by decide +kernel
theorem dX11_flyer_170 : decode cX11_flyer 170 = .ok (.aload_n 0, 1) := by decide +kernel
theorem dX11_flyer_171 : decode cX11_flyer 171 = .ok (.getfield 7, 3) := by decide +kernel
theorem dX11_flyer_174 : decode cX11_flyer 174 = .ok (.iload 8, 2) := by decide +kernel
theorem dX11_flyer_176 : decode cX11_flyer 176 = .ok (.iconst 3, 1) := by decide +kernel
theorem dX11_flyer_177 : decode cX11_flyer 177 = .ok (.iadd, 1) := by decide +kernel
theorem dX11_flyer_178 : decode cX11_flyer 178 = .ok (.iload_n 3, 1) := by decide +kernel
theorem dX11_flyer_179 : decode cX11_flyer 179 = .ok (.iastore, 1) := by decide +kernel
theorem dX11_flyer_180 : decode cX11_flyer 180 = .ok (.aload_n 0, 1) := by decide +kernel
theorem dX11_flyer_181 : decode cX11_flyer 181 = .ok (.getfield 7, 3) := by decide +kernel
theorem dX11_flyer_184 : decode cX11_flyer 184 = .ok (.iload 8, 2) := by decide +kernel
theorem dX11_flyer_186 : decode cX11_flyer 186 = .ok (.iconst 4, 1) := by decide +kernel
theorem dX11_flyer_187 : decode cX11_flyer 187 = .ok (.iadd, 1) := by decide +kernel
theorem dX11_flyer_188 : decode cX11_flyer 188 = .ok (.iload 4, 2) := by decide +kernel
theorem dX11_flyer_190 : decode cX11_flyer 190 = .ok (.iastore, 1) := by decide +kernel
theorem dX11_flyer_191 : decode cX11_flyer 191 = .ok (.aload_n 0, 1) := by decide +kernel
theorem dX11_flyer_192 : decode cX11_flyer 192 = .ok (.getfield 7, 3) := by decide +kernel
theorem dX11_flyer_195 : decode cX11_flyer 195 = .ok (.iload 8, 2) := by decide +kernel
theorem dX11_flyer_197 : decode cX11_flyer 197 = .ok (.iconst 5, 1) := by decide +kernel
theorem dX11_flyer_198 : decode cX11_flyer 198 = .ok (.iadd, 1) := by decide +kernel
theorem dX11_flyer_199 : decode cX11_flyer 199 = .ok (.iload 5, 2) := by decide +kernel
theorem dX11_flyer_201 : decode cX11_flyer 201 = .ok (.iastore, 1) := by decide +kernel
theorem dX11_flyer_202 : decode cX11_flyer 202 = .ok (.aload_n 0, 1) := by decide +kernel
theorem dX11_flyer_203 : decode cX11_flyer 203 = .ok (.getfield 7, 3) := by decide +kernel
theorem dX11_flyer_206 : decode cX11_flyer 206 = .ok (.iload 8, 2) := by decide +kernel
theorem dX11_flyer_208 : decode cX11_flyer 208 = .ok (.bipush 6, 2) := by decide +kernel
theorem dX11_flyer_210 : decode cX11_flyer 210 = .ok (.iadd, 1) := by decide +kernel
theorem dX11_flyer_211 : decode cX11_flyer 211 = .ok (.iload 6, 2) := by decide +kernel
theorem dX11_flyer_213 : decode cX11_flyer 213 = .ok (.bipush 16, 2) := by decide +kernel
theorem dX11_flyer_215 : decode cX11_flyer 215 = .ok (.idiv, 1) := by decide +kernel
theorem dX11_flyer_216 : decode cX11_flyer 216 = .ok (.iastore, 1) := by decide +kernel
theorem dX11_flyer_217 : decode cX11_flyer 217 = .ok (.aload_n 0, 1) := by decide +kernel
theorem dX11_flyer_218 : decode cX11_flyer 218 = .ok (.getfield 7, 3) := by decide +kernel
theorem dX11_flyer_221 : decode cX11_flyer 221 = .ok (.iload 8, 2) := by decide +kernel
theorem dX11_flyer_223 : decode cX11_flyer 223 = .ok (.bipush 7, 2) := by decide +kernel
theorem dX11_flyer_225 : decode cX11_flyer 225 = .ok (.iadd, 1) := by decide +kernel
theorem dX11_flyer_226 : decode cX11_flyer 226 = .ok (.iload 6, 2) := by decide +kernel
theorem dX11_flyer_228 : decode cX11_flyer 228 = .ok (.bipush 16, 2) := by decide +kernel
theorem dX11_flyer_230 : decode cX11_flyer 230 = .ok (.irem, 1) := by decide +kernel
theorem dX11_flyer_231 : decode cX11_flyer 231 = .ok (.iastore, 1) := by decide +kernel
theorem dX11_flyer_232 : decode cX11_flyer 232 = .ok (.aload_n 0, 1) := by decide +kernel
theorem dX11_flyer_233 : decode cX11_flyer 233 = .ok (.getfield 7, 3) := by decide +kernel
theorem dX11_flyer_236 : decode cX11_flyer 236 = .ok (.iconst 0, 1) := by decide +kernel
theorem dX11_flyer_237 : decode cX11_flyer 237 = .ok (.dup2, 1) := by decide +kernel
theorem dX11_flyer_238 : decode cX11_flyer 238 = .ok (.iaload, 1) := by decide +kernel
theorem dX11_flyer_239 : decode cX11_flyer 239 = .ok (.iconst 1, 1) := by decide +kernel
theorem dX11_flyer_240 : decode cX11_flyer 240 = .ok (.iadd, 1) := by decide +kernel
theorem dX11_flyer_241 : decode cX11_flyer 241 = .ok (.iastore, 1) := by decide +kernel
theorem dX11_flyer_242 : decode cX11_flyer 242 = .ok (.iload 7, 2) := by decide +kernel
theorem dX11_flyer_244 : decode cX11_flyer 244 = .ok (.ireturn, 1) := by decide +kernel
theorem dX11_as_0 : decode cX11_as 0 = .ok (.aload_n 0, 1) := by decide +kernel
theorem dX11_as_1 : decode cX11_as 1 = .ok (.iload_n 1, 1) := by decide +kernel
theorem dX11_as_2 : decode cX11_as 2 = .ok (.invokevirtual 82, 3) := by decide +kernel
theorem dX11_as_5 : decode cX11_as 5 = .ok (.ifCond .eq 12, 3) := by decide +kernel
theorem dX11_as_8 : decode cX11_as 8 = .ok (.iload_n 2, 1) := by decide +kernel
theorem dX11_as_9 : decode cX11_as 9 = .ok (.iconst 0, 1) := by decide +kernel
theorem dX11_as_10 : decode cX11_as 10 = .ok (.iconst 3, 1) := by decide +kernel
theorem dX11_as_11 : decode cX11_as 11 = .ok (.invokestatic 68, 3) := by decide +kernel
theorem dX11_as_14 : decode cX11_as 14 = .ok (.ifCond .ne 10, 3) := by decide +kernel
theorem dX11_as_17 : decode cX11_as 17 = .ok (.aload_n 0, 1) := by decide +kernel
theorem dX11_as_18 : decode cX11_as 18 = .ok (.ldc 76, 2) := by decide +kernel
theorem dX11_as_20 : decode cX11_as 20 = .ok (.invokevirtual 64, 3) := by decide +kernel
theorem dX11_as_23 : decode cX11_as 23 = .ok (.ireturn, 1) := by decide +kernel
theorem dX11_as_24 : decode cX11_as 24 = .ok (.aload_n 0, 1) := by decide +kernel
theorem dX11_as_25 : decode cX11_as 25 = .ok (.iload_n 1, 1) := by decide +kernel
theorem dX11_as_26 : decode cX11_as 26 = .ok (.iconst 0, 1) := by decide +kernel
theorem dX11_as_27 : decode cX11_as 27 = .ok (.invokevirtual 85, 3) := by decide +kernel
theorem dX11_as_30 : decode cX11_as 30 = .ok (.istore_n 3, 1) := by decide +kernel
theorem dX11_as_31 : decode cX11_as 31 = .ok (.iload_n 2, 1) := by decide +kernel
theorem dX11_as_32 : decode cX11_as 32 = .ok (.ifCond .eq 18, 3) := by decide +kernel
theorem dX11_as_35 : decode cX11_as 35 = .ok (.iload_n 3, 1) := by decide +kernel
theorem dX11_as_36 : decode cX11_as 36 = .ok (.iload_n 2, 1) := by decide +kernel
theorem dX11_as_37 : decode cX11_as 37 = .ok (.if_icmp .eq 13, 3) := by decide +kernel
theorem dX11_as_40 : decode cX11_as 40 = .ok (.iload_n 2, 1) := by decide +kernel
theorem dX11_as_41 : decode cX11_as 41 = .ok (.iconst 1, 1) := by decide +kernel
theorem dX11_as_42 : decode cX11_as 42 = .ok (.if_icmp .ne 12, 3) := by decide +kernel
theorem dX11_as_45 : decode cX11_as 45 = .ok (.iload_n 3, 1) := by decide +kernel
theorem dX11_as_46 : decode cX11_as 46 = .ok (.iconst 3, 1) := by decide +kernel
theorem dX11_as_47 : decode cX11_as 47 = .ok (.if_icmp .ne 7, 3) := by decide +kernel
theorem dX11_as_50 : decode cX11_as 50 = .ok (.iload_n 1, 1) := by decide +kernel
theorem dX11_as_51 : decode cX11_as 51 = .ok (.goto 9, 3) := by decide +kernel
theorem dX11_as_54 : decode cX11_as 54 = .ok (.aload_n 0, 1) := by decide +kernel
theorem dX11_as_55 : decode cX11_as 55 = .ok (.ldc 89, 2) := by decide +kernel
theorem dX11_as_57 : decode cX11_as 57 = .ok (.invokevirtual 64, 3) := by decide +kernel
theorem dX11_as_60 : decode cX11_as 60 = .ok (.ireturn, 1) := by decide +kernel
theorem dX11_of_0 : decode cX11_of 0 = .ok (.aload_n 0, 1) := by decide +kernel
theorem dX11_of_1 : decode cX11_of 1 = .ok (.iload_n 1, 1) := by decide +kernel
theorem dX11_of_2 : decode cX11_of 2 = .ok (.invokevirtual 82, 3) := by decide +kernel
theorem dX11_of_5 : decode cX11_of 5 = .ok (.ifCond .eq 22, 3) := by decide +kernel
theorem dX11_of_8 : decode cX11_of 8 = .ok (.iload_n 2, 1) := by decide +kernel
theorem dX11_of_9 : decode cX11_of 9 = .ok (.iconst 0, 1) := by decide +kernel
theorem dX11_of_10 : decode cX11_of 10 = .ok (.bipush 7, 2) := by decide +kernel
theorem dX11_of_12 : decode cX11_of 12 = .ok (.invokestatic 68, 3) := by decide +kernel
theorem dX11_of_15 : decode cX11_of 15 = .ok (.ifCond .eq 12, 3) := by decide +kernel
theorem dX11_of_18 : decode cX11_of 18 = .ok (.aload_n 0, 1) := by decide +kernel
theorem dX11_of_19 : decode cX11_of 19 = .ok (.iload_n 1, 1) := by decide +kernel
theorem dX11_of_20 : decode cX11_of 20 = .ok (.iload_n 2, 1) := by decide +kernel
theorem dX11_of_21 : decode cX11_of 21 = .ok (.invokevirtual 85, 3) := by decide +kernel
theorem dX11_of_24 : decode cX11_of 24 = .ok (.goto 9, 3) := by decide +kernel
theorem dX11_of_27 : decode cX11_of 27 = .ok (.aload_n 0, 1) := by decide +kernel
theorem dX11_of_28 : decode cX11_of 28 = .ok (.ldc 76, 2) := by decide +kernel
theorem dX11_of_30 : decode cX11_of 30 = .ok (.invokevirtual 64, 3) := by decide +kernel
theorem dX11_of_33 : decode cX11_of 33 = .ok (.ireturn, 1) := by decide +kernel
theorem dX11_go_0 : decode cX11_go 0 = .ok (.aload_n 0, 1) := by decide +kernel
theorem dX11_go_1 : decode cX11_go 1 = .ok (.iload_n 1, 1) := by decide +kernel
theorem dX11_go_2 : decode cX11_go 2 = .ok (.invokevirtual 82, 3) := by decide +kernel
theorem dX11_go_5 : decode cX11_go 5 = .ok (.ifCond .eq 14, 3) := by decide +kernel
theorem dX11_go_8 : decode cX11_go 8 = .ok (.iload_n 2, 1) := by decide +kernel
theorem dX11_go_9 : decode cX11_go 9 = .ok (.iconst 0, 1) := by decide +kernel
theorem dX11_go_10 : decode cX11_go 10 = .ok (.sipush 9999, 3) := by decide +kernel
theorem dX11_go_13 : decode cX11_go 13 = .ok (.invokestatic 68, 3) := by decide +kernel
theorem dX11_go_16 : decode cX11_go 16 = .ok (.ifCond .ne 10, 3) := by decide +kernel
theorem dX11_go_19 : decode cX11_go 19 = .ok (.aload_n 0, 1) := by decide +kernel
theorem dX11_go_20 : decode cX11_go 20 = .ok (.ldc 76, 2) := by decide +kernel
theorem dX11_go_22 : decode cX11_go 22 = .ok (.invokevirtual 64, 3) := by decide +kernel
theorem dX11_go_25 : decode cX11_go 25 = .ok (.ireturn, 1) := by decide +kernel
theorem dX11_go_26 : decode cX11_go 26 = .ok (.aload_n 0, 1) := by decide +kernel
theorem dX11_go_27 : decode cX11_go 27 = .ok (.invokevirtual 79, 3) := by decide +kernel
theorem dX11_go_30 : decode cX11_go 30 = .ok (.bipush 100, 2) := by decide +kernel
theorem dX11_go_32 : decode cX11_go 32 = .ok (.aload_n 0, 1) := by decide +kernel
theorem dX11_go_33 : decode cX11_go 33 = .ok (.iload_n 1, 1) := by decide +kernel
theorem dX11_go_34 : decode cX11_go 34 = .ok (.iconst 1, 1) := by decide +kernel
theorem dX11_go_35 : decode cX11_go 35 = .ok (.invokevirtual 85, 3) := by decide +kernel
theorem dX11_go_38 : decode cX11_go 38 = .ok (.imul, 1) := by decide +kernel
theorem dX11_go_39 : decode cX11_go 39 = .ok (.aload_n 0, 1) := by decide +kernel
theorem dX11_go_40 : decode cX11_go 40 = .ok (.iload_n 1, 1) := by decide +kernel
theorem dX11_go_41 : decode cX11_go 41 = .ok (.iconst 2, 1) := by decide +kernel
theorem dX11_go_42 : decode cX11_go 42 = .ok (.invokevirtual 85, 3) := by decide +kernel
theorem dX11_go_45 : decode cX11_go 45 = .ok (.iadd, 1) := by decide +kernel
theorem dX11_go_46 : decode cX11_go 46 = .ok (.istore_n 3, 1) := by decide +kernel
theorem dX11_go_47 : decode cX11_go 47 = .ok (.aload_n 0, 1) := by decide +kernel
theorem dX11_go_48 : decode cX11_go 48 = .ok (.getfield 7, 3) := by decide +kernel
theorem dX11_go_51 : decode cX11_go 51 = .ok (.iconst 3, 1) := by decide +kernel
theorem dX11_go_52 : decode cX11_go 52 = .ok (.bipush 8, 2) := by decide +kernel
theorem dX11_go_54 : decode cX11_go 54 = .ok (.iload_n 1, 1) := by decide +kernel
theorem dX11_go_55 : decode cX11_go 55 = .ok (.imul, 1) := by decide +kernel
theorem dX11_go_56 : decode cX11_go 56 = .ok (.iadd, 1) := by decide +kernel
theorem dX11_go_57 : decode cX11_go 57 = .ok (.iconst 1, 1) := by decide +kernel
theorem dX11_go_58 : decode cX11_go 58 = .ok (.iadd, 1) := by decide +kernel
theorem dX11_go_59 : decode cX11_go 59 = .ok (.iload_n 2, 1) := by decide +kernel
theorem dX11_go_60 : decode cX11_go 60 = .ok (.bipush 100, 2) := by decide +kernel
theorem dX11_go_62 : decode cX11_go 62 = .ok (.idiv, 1) := by decide +kernel
theorem dX11_go_63 : decode cX11_go 63 = .ok (.iastore, 1) := by decide +kernel
theorem dX11_go_64 : decode cX11_go 64 = .ok (.aload_n 0, 1) := by decide +kernel
theorem dX11_go_65 : decode cX11_go 65 = .ok (.getfield 7, 3) := by decide +kernel
theorem dX11_go_68 : decode cX11_go 68 = .ok (.iconst 3, 1) := by decide +kernel
theorem dX11_go_69 : decode cX11_go 69 = .ok (.bipush 8, 2) := by decide +kernel
theorem dX11_go_71 : decode cX11_go 71 = .ok (.iload_n 1, 1) := by decide +kernel
theorem dX11_go_72 : decode cX11_go 72 = .ok (.imul, 1) := by decide +kernel
theorem dX11_go_73 : decode cX11_go 73 = .ok (.iadd, 1) := by decide +kernel
theorem dX11_go_74 : decode cX11_go 74 = .ok (.iconst 2, 1) := by decide +kernel
theorem dX11_go_75 : decode cX11_go 75 = .ok (.iadd, 1) := by decide +kernel
theorem dX11_go_76 : decode cX11_go 76 = .ok (.iload_n 2, 1) := by decide +kernel
theorem dX11_go_77 : decode cX11_go 77 = .ok (.bipush 100, 2) := by decide +kernel
theorem dX11_go_79 : decode cX11_go 79 = .ok (.irem, 1) := by decide +kernel
theorem dX11_go_80 : decode cX11_go 80 = .ok (.iastore, 1) := by decide +kernel
theorem dX11_go_81 : decode cX11_go 81 = .ok (.iload_n 3, 1) := by decide +kernel
theorem dX11_go_82 : decode cX11_go 82 = .ok (.ireturn, 1) := by decide +kernel
theorem dX11_line_0 : decode cX11_line 0 = .ok (.aload_n 0, 1) := by decide +kernel
theorem dX11_line_1 : decode cX11_line 1 = .ok (.iload_n 1, 1) := by decide +kernel
theorem dX11_line_2 : decode cX11_line 2 = .ok (.invokevirtual 82, 3) := by decide +kernel
theorem dX11_line_5 : decode cX11_line 5 = .ok (.ifCond .eq 13, 3) := by decide +kernel
theorem dX11_line_8 : decode cX11_line 8 = .ok (.iload_n 2, 1) := by decide +kernel
theorem dX11_line_9 : decode cX11_line 9 = .ok (.iconst 1, 1) := by decide +kernel
theorem dX11_line_10 : decode cX11_line 10 = .ok (.bipush 40, 2) := by decide +kernel
theorem dX11_line_12 : decode cX11_line 12 = .ok (.invokestatic 68, 3) := by decide +kernel
theorem dX11_line_15 : decode cX11_line 15 = .ok (.ifCond .ne 10, 3) := by decide +kernel
theorem dX11_line_18 : decode cX11_line 18 = .ok (.aload_n 0, 1) := by decide +kernel
theorem dX11_line_19 : decode cX11_line 19 = .ok (.ldc 76, 2) := by decide +kernel
theorem dX11_line_21 : decode cX11_line 21 = .ok (.invokevirtual 64, 3) := by decide +kernel
theorem dX11_line_24 : decode cX11_line 24 = .ok (.ireturn, 1) := by decide +kernel
theorem dX11_line_25 : decode cX11_line 25 = .ok (.aload_n 0, 1) := by decide +kernel
theorem dX11_line_26 : decode cX11_line 26 = .ok (.invokevirtual 79, 3) := by decide +kernel
theorem dX11_line_29 : decode cX11_line 29 = .ok (.aload_n 0, 1) := by decide +kernel
theorem dX11_line_30 : decode cX11_line 30 = .ok (.iload_n 1, 1) := by decide +kernel
theorem dX11_line_31 : decode cX11_line 31 = .ok (.iconst 4, 1) := by decide +kernel
theorem dX11_line_32 : decode cX11_line 32 = .ok (.invokevirtual 85, 3) := by decide +kernel
theorem dX11_line_35 : decode cX11_line 35 = .ok (.istore_n 3, 1) := by decide +kernel
theorem dX11_line_36 : decode cX11_line 36 = .ok (.aload_n 0, 1) := by decide +kernel
theorem dX11_line_37 : decode cX11_line 37 = .ok (.getfield 7, 3) := by decide +kernel
theorem dX11_line_40 : decode cX11_line 40 = .ok (.iconst 3, 1) := by decide +kernel
theorem dX11_line_41 : decode cX11_line 41 = .ok (.bipush 8, 2) := by decide +kernel
theorem dX11_line_43 : decode cX11_line 43 = .ok (.iload_n 1, 1) := by decide +kernel
theorem dX11_line_44 : decode cX11_line 44 = .ok (.imul, 1) := by decide +kernel
theorem dX11_line_45 : decode cX11_line 45 = .ok (.iadd, 1) := by decide +kernel
theorem dX11_line_46 : decode cX11_line 46 = .ok (.iconst 4, 1) := by decide +kernel
theorem dX11_line_47 : decode cX11_line 47 = .ok (.iadd, 1) := by decide +kernel
theorem dX11_line_48 : decode cX11_line 48 = .ok (.iload_n 2, 1) := by decide +kernel
theorem dX11_line_49 : decode cX11_line 49 = .ok (.iastore, 1) := by decide +kernel
theorem dX11_line_50 : decode cX11_line 50 = .ok (.iload_n 3, 1) := by decide +kernel
theorem dX11_line_51 : decode cX11_line 51 = .ok (.ireturn, 1) := by decide +kernel
theorem dX11_windOf_0 : decode cX11_windOf 0 = .ok (.bipush 67, 2) := by decide +kernel
theorem dX11_windOf_2 : decode cX11_windOf 2 = .ok (.iconst 2, 1) := by decide +kernel
theorem dX11_windOf_3 : decode cX11_windOf 3 = .ok (.bipush 20, 2) := by decide +kernel
theorem dX11_windOf_5 : decode cX11_windOf 5 = .ok (.iload_n 0, 1) := by decide +kernel
theorem dX11_windOf_6 : decode cX11_windOf 6 = .ok (.imul, 1) := by decide +kernel
theorem dX11_windOf_7 : decode cX11_windOf 7 = .ok (.iload_n 1, 1) := by decide +kernel
theorem dX11_windOf_8 : decode cX11_windOf 8 = .ok (.iadd, 1) := by decide +kernel
theorem dX11_windOf_9 : decode cX11_windOf 9 = .ok (.imul, 1) := by decide +kernel
theorem dX11_windOf_10 : decode cX11_windOf 10 = .ok (.iadd, 1) := by decide +kernel
theorem dX11_windOf_11 : decode cX11_windOf 11 = .ok (.ireturn, 1) := by decide +kernel
theorem dX11_force_0 : decode cX11_force 0 = .ok (.aload_n 0, 1) := by decide +kernel
theorem dX11_force_1 : decode cX11_force 1 = .ok (.getfield 7, 3) := by decide +kernel
theorem dX11_force_4 : decode cX11_force 4 = .ok (.iload_n 1, 1) := by decide +kernel
theorem dX11_force_5 : decode cX11_force 5 = .ok (.iload_n 2, 1) := by decide +kernel
theorem dX11_force_6 : decode cX11_force 6 = .ok (.invokestatic 90, 3) := by decide +kernel
theorem dX11_force_9 : decode cX11_force 9 = .ok (.iconst 1, 1) := by decide +kernel
theorem dX11_force_10 : decode cX11_force 10 = .ok (.iadd, 1) := by decide +kernel
theorem dX11_force_11 : decode cX11_force 11 = .ok (.iaload, 1) := by decide +kernel
theorem dX11_force_12 : decode cX11_force 12 = .ok (.ireturn, 1) := by decide +kernel
theorem dX11_wind_0 : decode cX11_wind 0 = .ok (.iload_n 1, 1) := by decide +kernel
theorem dX11_wind_1 : decode cX11_wind 1 = .ok (.invokestatic 72, 3) := by decide +kernel
theorem dX11_wind_4 : decode cX11_wind 4 = .ok (.ifCond .eq 31, 3) := by decide +kernel
theorem dX11_wind_7 : decode cX11_wind 7 = .ok (.iload_n 2, 1) := by decide +kernel
theorem dX11_wind_8 : decode cX11_wind 8 = .ok (.invokestatic 93, 3) := by decide +kernel
theorem dX11_wind_11 : decode cX11_wind 11 = .ok (.ifCond .eq 24, 3) := by decide +kernel
theorem dX11_wind_14 : decode cX11_wind 14 = .ok (.iload_n 3, 1) := by decide +kernel
theorem dX11_wind_15 : decode cX11_wind 15 = .ok (.iconst 0, 1) := by decide +kernel
theorem dX11_wind_16 : decode cX11_wind 16 = .ok (.bipush 7, 2) := by decide +kernel
theorem dX11_wind_18 : decode cX11_wind 18 = .ok (.invokestatic 68, 3) := by decide +kernel
theorem dX11_wind_21 : decode cX11_wind 21 = .ok (.ifCond .eq 14, 3) := by decide +kernel
theorem dX11_wind_24 : decode cX11_wind 24 = .ok (.iload 4, 2) := by decide +kernel
theorem dX11_wind_26 : decode cX11_wind 26 = .ok (.iconst 0, 1) := by decide +kernel
theorem dX11_wind_27 : decode cX11_wind 27 = .ok (.bipush 12, 2) := by decide +kernel
theorem dX11_wind_29 : decode cX11_wind 29 = .ok (.invokestatic 68, 3) := by decide +kernel
theorem dX11_wind_32 : decode cX11_wind 32 = .ok (.ifCond .ne 10, 3) := by decide +kernel
theorem dX11_wind_35 : decode cX11_wind 35 = .ok (.aload_n 0, 1) := by decide +kernel
theorem dX11_wind_36 : decode cX11_wind 36 = .ok (.ldc 76, 2) := by decide +kernel
theorem dX11_wind_38 : decode cX11_wind 38 = .ok (.invokevirtual 64, 3) := by decide +kernel
theorem dX11_wind_41 : decode cX11_wind 41 = .ok (.ireturn, 1) := by decide +kernel
theorem dX11_wind_42 : decode cX11_wind 42 = .ok (.aload_n 0, 1) := by decide +kernel
theorem dX11_wind_43 : decode cX11_wind 43 = .ok (.invokevirtual 79, 3) := by decide +kernel
theorem dX11_wind_46 : decode cX11_wind 46 = .ok (.aload_n 0, 1) := by decide +kernel
theorem dX11_wind_47 : decode cX11_wind 47 = .ok (.getfield 7, 3) := by decide +kernel
theorem dX11_wind_50 : decode cX11_wind 50 = .ok (.iload_n 1, 1) := by decide +kernel
theorem dX11_wind_51 : decode cX11_wind 51 = .ok (.iload_n 2, 1) := by decide +kernel
theorem dX11_wind_52 : decode cX11_wind 52 = .ok (.invokestatic 90, 3) := by decide +kernel
theorem dX11_wind_55 : decode cX11_wind 55 = .ok (.iload_n 3, 1) := by decide +kernel
theorem dX11_wind_56 : decode cX11_wind 56 = .ok (.iastore, 1) := by decide +kernel
theorem dX11_wind_57 : decode cX11_wind 57 = .ok (.aload_n 0, 1) := by decide +kernel
theorem dX11_wind_58 : decode cX11_wind 58 = .ok (.getfield 7, 3) := by decide +kernel
theorem dX11_wind_61 : decode cX11_wind 61 = .ok (.iload_n 1, 1) := by decide +kernel
theorem dX11_wind_62 : decode cX11_wind 62 = .ok (.iload_n 2, 1) := by decide +kernel
theorem dX11_wind_63 : decode cX11_wind 63 = .ok (.invokestatic 90, 3) := by decide +kernel
theorem dX11_wind_66 : decode cX11_wind 66 = .ok (.iconst 1, 1) := by decide +kernel
theorem dX11_wind_67 : decode cX11_wind 67 = .ok (.iadd, 1) := by decide +kernel
theorem dX11_wind_68 : decode cX11_wind 68 = .ok (.iload 4, 2) := by decide +kernel
theorem dX11_wind_70 : decode cX11_wind 70 = .ok (.iastore, 1) := by decide +kernel
theorem dX11_wind_71 : decode cX11_wind 71 = .ok (.iconst 0, 1) := by decide +kernel
theorem dX11_wind_72 : decode cX11_wind 72 = .ok (.ireturn, 1) := by decide +kernel
theorem dX11_windAt_0 : decode cX11_windAt 0 = .ok (.iload_n 1, 1) := by decide +kernel
theorem dX11_windAt_1 : decode cX11_windAt 1 = .ok (.invokestatic 72, 3) := by decide +kernel
theorem dX11_windAt_4 : decode cX11_windAt 4 = .ok (.ifCond .eq 10, 3) := by decide +kernel
theorem dX11_windAt_7 : decode cX11_windAt 7 = .ok (.iload_n 2, 1) := by decide +kernel
theorem dX11_windAt_8 : decode cX11_windAt 8 = .ok (.invokestatic 93, 3) := by decide +kernel
theorem dX11_windAt_11 : decode cX11_windAt 11 = .ok (.ifCond .ne 10, 3) := by decide +kernel
theorem dX11_windAt_14 : decode cX11_windAt 14 = .ok (.aload_n 0, 1) := by decide +kernel
theorem dX11_windAt_15 : decode cX11_windAt 15 = .ok (.ldc 76, 2) := by decide +kernel
theorem dX11_windAt_17 : decode cX11_windAt 17 = .ok (.invokevirtual 64, 3) := by decide +kernel
theorem dX11_windAt_20 : decode cX11_windAt 20 = .ok (.ireturn, 1) := by decide +kernel
theorem dX11_windAt_21 : decode cX11_windAt 21 = .ok (.aload_n 0, 1) := by decide +kernel
theorem dX11_windAt_22 : decode cX11_windAt 22 = .ok (.getfield 7, 3) := by decide +kernel
theorem dX11_windAt_25 : decode cX11_windAt 25 = .ok (.iload_n 1, 1) := by decide +kernel
theorem dX11_windAt_26 : decode cX11_windAt 26 = .ok (.iload_n 2, 1) := by decide +kernel
theorem dX11_windAt_27 : decode cX11_windAt 27 = .ok (.invokestatic 90, 3) := by decide +kernel
theorem dX11_windAt_30 : decode cX11_windAt 30 = .ok (.iload_n 3, 1) := by decide +kernel
theorem dX11_windAt_31 : decode cX11_windAt 31 = .ok (.ifCond .eq 7, 3) := by decide +kernel
theorem dX11_windAt_34 : decode cX11_windAt 34 = .ok (.iconst 0, 1) := by decide +kernel
theorem dX11_windAt_35 : decode cX11_windAt 35 = .ok (.goto 4, 3) := by decide +kernel
theorem dX11_windAt_38 : decode cX11_windAt 38 = .ok (.iconst 1, 1) := by decide +kernel
theorem dX11_windAt_39 : decode cX11_windAt 39 = .ok (.iadd, 1) := by decide +kernel
theorem dX11_windAt_40 : decode cX11_windAt 40 = .ok (.iaload, 1) := by decide +kernel
theorem dX11_windAt_41 : decode cX11_windAt 41 = .ok (.ireturn, 1) := by decide +kernel
theorem dX11_doesFly_0 : decode cX11_doesFly 0 = .ok (.aload_n 0, 1) := by decide +kernel
theorem dX11_doesFly_1 : decode cX11_doesFly 1 = .ok (.iload_n 1, 1) := by decide +kernel
theorem dX11_doesFly_2 : decode cX11_doesFly 2 = .ok (.iconst 0, 1) := by decide +kernel
theorem dX11_doesFly_3 : decode cX11_doesFly 3 = .ok (.invokevirtual 85, 3) := by decide +kernel
theorem dX11_doesFly_6 : decode cX11_doesFly 6 = .ok (.istore_n 3, 1) := by decide +kernel
theorem dX11_doesFly_7 : decode cX11_doesFly 7 = .ok (.aload_n 0, 1) := by decide +kernel
theorem dX11_doesFly_8 : decode cX11_doesFly 8 = .ok (.iload_n 1, 1) := by decide +kernel
theorem dX11_doesFly_9 : decode cX11_doesFly 9 = .ok (.iconst 3, 1) := by decide +kernel
theorem dX11_doesFly_10 : decode cX11_doesFly 10 = .ok (.invokevirtual 85, 3) := by decide +kernel
theorem dX11_doesFly_13 : decode cX11_doesFly 13 = .ok (.istore 4, 2) := by decide +kernel
theorem dX11_doesFly_15 : decode cX11_doesFly 15 = .ok (.aload_n 0, 1) := by decide +kernel
theorem dX11_doesFly_16 : decode cX11_doesFly 16 = .ok (.iload 4, 2) := by decide +kernel
theorem dX11_doesFly_18 : decode cX11_doesFly 18 = .ok (.iload_n 2, 1) := by decide +kernel
theorem dX11_doesFly_19 : decode cX11_doesFly 19 = .ok (.invokevirtual 96, 3) := by decide +kernel
theorem dX11_doesFly_22 : decode cX11_doesFly 22 = .ok (.istore 5, 2) := by decide +kernel
theorem dX11_doesFly_24 : decode cX11_doesFly 24 = .ok (.iload_n 3, 1) := by decide +kernel
theorem dX11_doesFly_25 : decode cX11_doesFly 25 = .ok (.iconst 2, 1) := by decide +kernel
theorem dX11_doesFly_26 : decode cX11_doesFly 26 = .ok (.if_icmp .ne 27, 3) := by decide +kernel
theorem dX11_doesFly_29 : decode cX11_doesFly 29 = .ok (.iload 5, 2) := by decide +kernel
theorem dX11_doesFly_31 : decode cX11_doesFly 31 = .ok (.aload_n 0, 1) := by decide +kernel
theorem dX11_doesFly_32 : decode cX11_doesFly 32 = .ok (.iload_n 1, 1) := by decide +kernel
theorem dX11_doesFly_33 : decode cX11_doesFly 33 = .ok (.bipush 6, 2) := by decide +kernel
theorem dX11_doesFly_35 : decode cX11_doesFly 35 = .ok (.invokevirtual 85, 3) := by decide +kernel
theorem dX11_doesFly_38 : decode cX11_doesFly 38 = .ok (.iconst 1, 1) := by decide +kernel
theorem dX11_doesFly_39 : decode cX11_doesFly 39 = .ok (.iadd, 1) := by decide +kernel
theorem dX11_doesFly_40 : decode cX11_doesFly 40 = .ok (.aload_n 0, 1) := by decide +kernel
theorem dX11_doesFly_41 : decode cX11_doesFly 41 = .ok (.iload_n 1, 1) := by decide +kernel
theorem dX11_doesFly_42 : decode cX11_doesFly 42 = .ok (.bipush 7, 2) := by decide +kernel
theorem dX11_doesFly_44 : decode cX11_doesFly 44 = .ok (.invokevirtual 85, 3) := by decide +kernel
theorem dX11_doesFly_47 : decode cX11_doesFly 47 = .ok (.iconst 2, 1) := by decide +kernel
theorem dX11_doesFly_48 : decode cX11_doesFly 48 = .ok (.iadd, 1) := by decide +kernel
theorem dX11_doesFly_49 : decode cX11_doesFly 49 = .ok (.invokestatic 68, 3) := by decide +kernel
theorem dX11_doesFly_52 : decode cX11_doesFly 52 = .ok (.ireturn, 1) := by decide +kernel
theorem dX11_doesFly_53 : decode cX11_doesFly 53 = .ok (.iload 5, 2) := by decide +kernel
theorem dX11_doesFly_55 : decode cX11_doesFly 55 = .ok (.aload_n 0, 1) := by decide +kernel
theorem dX11_doesFly_56 : decode cX11_doesFly 56 = .ok (.iload_n 1, 1) := by decide +kernel
theorem dX11_doesFly_57 : decode cX11_doesFly 57 = .ok (.bipush 6, 2) := by decide +kernel
theorem dX11_doesFly_59 : decode cX11_doesFly 59 = .ok (.invokevirtual 85, 3) := by decide +kernel
theorem dX11_doesFly_62 : decode cX11_doesFly 62 = .ok (.aload_n 0, 1) := by decide +kernel
theorem dX11_doesFly_63 : decode cX11_doesFly 63 = .ok (.iload_n 1, 1) := by decide +kernel
theorem dX11_doesFly_64 : decode cX11_doesFly 64 = .ok (.bipush 7, 2) := by decide +kernel
theorem dX11_doesFly_66 : decode cX11_doesFly 66 = .ok (.invokevirtual 85, 3) := by decide +kernel
theorem dX11_doesFly_69 : decode cX11_doesFly 69 = .ok (.invokestatic 68, 3) := by decide +kernel
theorem dX11_doesFly_72 : decode cX11_doesFly 72 = .ok (.ifCond .ne 5, 3) := by decide +kernel
theorem dX11_doesFly_75 : decode cX11_doesFly 75 = .ok (.iconst 0, 1) := by decide +kernel
theorem dX11_doesFly_76 : decode cX11_doesFly 76 = .ok (.ireturn, 1) := by decide +kernel
theorem dX11_doesFly_77 : decode cX11_doesFly 77 = .ok (.iload_n 3, 1) := by decide +kernel
theorem dX11_doesFly_78 : decode cX11_doesFly 78 = .ok (.ifCond .eq 28, 3) := by decide +kernel
theorem dX11_doesFly_81 : decode cX11_doesFly 81 = .ok (.iload_n 2, 1) := by decide +kernel
theorem dX11_doesFly_82 : decode cX11_doesFly 82 = .ok (.ifCond .eq 24, 3) := by decide +kernel
theorem dX11_doesFly_85 : decode cX11_doesFly 85 = .ok (.iload 5, 2) := by decide +kernel
theorem dX11_doesFly_87 : decode cX11_doesFly 87 = .ok (.aload_n 0, 1) := by decide +kernel
theorem dX11_doesFly_88 : decode cX11_doesFly 88 = .ok (.iload 4, 2) := by decide +kernel
theorem dX11_doesFly_90 : decode cX11_doesFly 90 = .ok (.iload_n 2, 1) := by decide +kernel
theorem dX11_doesFly_91 : decode cX11_doesFly 91 = .ok (.iconst 1, 1) := by decide +kernel
theorem dX11_doesFly_92 : decode cX11_doesFly 92 = .ok (.isub, 1) := by decide +kernel
theorem dX11_doesFly_93 : decode cX11_doesFly 93 = .ok (.invokevirtual 96, 3) := by decide +kernel
theorem dX11_doesFly_96 : decode cX11_doesFly 96 = .ok (.isub, 1) := by decide +kernel
theorem dX11_doesFly_97 : decode cX11_doesFly 97 = .ok (.bipush (-3), 2) := by decide +kernel
theorem dX11_doesFly_99 : decode cX11_doesFly 99 = .ok (.iconst 3, 1) := by decide +kernel
theorem dX11_doesFly_100 : decode cX11_doesFly 100 = .ok (.invokestatic 68, 3) := by decide +kernel
theorem dX11_doesFly_103 : decode cX11_doesFly 103 = .ok (.ifCond .eq 7, 3) := by decide +kernel
theorem dX11_doesFly_106 : decode cX11_doesFly 106 = .ok (.iconst 1, 1) := by decide +kernel
theorem dX11_doesFly_107 : decode cX11_doesFly 107 = .ok (.goto 4, 3) := by decide +kernel
theorem dX11_doesFly_110 : decode cX11_doesFly 110 = .ok (.iconst 0, 1) := by decide +kernel
theorem dX11_doesFly_111 : decode cX11_doesFly 111 = .ok (.ireturn, 1) := by decide +kernel
theorem dX11_flies_0 : decode cX11_flies 0 = .ok (.aload_n 0, 1) := by decide +kernel
theorem dX11_flies_1 : decode cX11_flies 1 = .ok (.iload_n 1, 1) := by decide +kernel
theorem dX11_flies_2 : decode cX11_flies 2 = .ok (.invokevirtual 82, 3) := by decide +kernel
theorem dX11_flies_5 : decode cX11_flies 5 = .ok (.ifCond .eq 10, 3) := by decide +kernel
theorem dX11_flies_8 : decode cX11_flies 8 = .ok (.iload_n 2, 1) := by decide +kernel
theorem dX11_flies_9 : decode cX11_flies 9 = .ok (.invokestatic 93, 3) := by decide +kernel
theorem dX11_flies_12 : decode cX11_flies 12 = .ok (.ifCond .ne 10, 3) := by decide +kernel
theorem dX11_flies_15 : decode cX11_flies 15 = .ok (.aload_n 0, 1) := by decide +kernel
theorem dX11_flies_16 : decode cX11_flies 16 = .ok (.ldc 76, 2) := by decide +kernel
theorem dX11_flies_18 : decode cX11_flies 18 = .ok (.invokevirtual 64, 3) := by decide +kernel
theorem dX11_flies_21 : decode cX11_flies 21 = .ok (.ireturn, 1) := by decide +kernel
theorem dX11_flies_22 : decode cX11_flies 22 = .ok (.aload_n 0, 1) := by decide +kernel
theorem dX11_flies_23 : decode cX11_flies 23 = .ok (.iload_n 1, 1) := by decide +kernel
theorem dX11_flies_24 : decode cX11_flies 24 = .ok (.iload_n 2, 1) := by decide +kernel
theorem dX11_flies_25 : decode cX11_flies 25 = .ok (.invokevirtual 99, 3) := by decide +kernel
theorem dX11_flies_28 : decode cX11_flies 28 = .ok (.ifCond .eq 7, 3) := by decide +kernel
theorem dX11_flies_31 : decode cX11_flies 31 = .ok (.iconst 1, 1) := by decide +kernel
theorem dX11_flies_32 : decode cX11_flies 32 = .ok (.goto 4, 3) := by decide +kernel
theorem dX11_flies_35 : decode cX11_flies 35 = .ok (.iconst 0, 1) := by decide +kernel
theorem dX11_flies_36 : decode cX11_flies 36 = .ok (.ireturn, 1) := by decide +kernel
theorem dX11_whereIs_0 : decode cX11_whereIs 0 = .ok (.aload_n 0, 1) := by decide +kernel
theorem dX11_whereIs_1 : decode cX11_whereIs 1 = .ok (.getfield 7, 3) := by decide +kernel
theorem dX11_whereIs_4 : decode cX11_whereIs 4 = .ok (.aload_n 0, 1) := by decide +kernel
theorem dX11_whereIs_5 : decode cX11_whereIs 5 = .ok (.iload_n 1, 1) := by decide +kernel
theorem dX11_whereIs_6 : decode cX11_whereIs 6 = .ok (.iconst 3, 1) := by decide +kernel
theorem dX11_whereIs_7 : decode cX11_whereIs 7 = .ok (.invokevirtual 85, 3) := by decide +kernel
theorem dX11_whereIs_10 : decode cX11_whereIs 10 = .ok (.iload_n 2, 1) := by decide +kernel
theorem dX11_whereIs_11 : decode cX11_whereIs 11 = .ok (.invokestatic 90, 3) := by decide +kernel
theorem dX11_whereIs_14 : decode cX11_whereIs 14 = .ok (.iaload, 1) := by decide +kernel
theorem dX11_whereIs_15 : decode cX11_whereIs 15 = .ok (.istore 4, 2) := by decide +kernel
theorem dX11_whereIs_17 : decode cX11_whereIs 17 = .ok (.aload_n 0, 1) := by decide +kernel
theorem dX11_whereIs_18 : decode cX11_whereIs 18 = .ok (.iload_n 1, 1) := by decide +kernel
theorem dX11_whereIs_19 : decode cX11_whereIs 19 = .ok (.iload_n 3, 1) := by decide +kernel
theorem dX11_whereIs_20 : decode cX11_whereIs 20 = .ok (.ifCond .eq 7, 3) := by decide +kernel
theorem dX11_whereIs_23 : decode cX11_whereIs 23 = .ok (.iconst 2, 1) := by decide +kernel
theorem dX11_whereIs_24 : decode cX11_whereIs 24 = .ok (.goto 4, 3) := by decide +kernel
theorem dX11_whereIs_27 : decode cX11_whereIs 27 = .ok (.iconst 1, 1) := by decide +kernel
theorem dX11_whereIs_28 : decode cX11_whereIs 28 = .ok (.invokevirtual 85, 3) := by decide +kernel
theorem dX11_whereIs_31 : decode cX11_whereIs 31 = .ok (.aload_n 0, 1) := by decide +kernel
theorem dX11_whereIs_32 : decode cX11_whereIs 32 = .ok (.iload_n 1, 1) := by decide +kernel
theorem dX11_whereIs_33 : decode cX11_whereIs 33 = .ok (.iconst 4, 1) := by decide +kernel
theorem dX11_whereIs_34 : decode cX11_whereIs 34 = .ok (.invokevirtual 85, 3) := by decide +kernel
theorem dX11_whereIs_37 : decode cX11_whereIs 37 = .ok (.iload_n 3, 1) := by decide +kernel
theorem dX11_whereIs_38 : decode cX11_whereIs 38 = .ok (.ifCond .eq 13, 3) := by decide +kernel
theorem dX11_whereIs_41 : decode cX11_whereIs 41 = .ok (.aload_n 0, 1) := by decide +kernel
theorem dX11_whereIs_42 : decode cX11_whereIs 42 = .ok (.getfield 28, 3) := by decide +kernel
theorem dX11_whereIs_45 : decode cX11_whereIs 45 = .ok (.iload 4, 2) := by decide +kernel
theorem dX11_whereIs_47 : decode cX11_whereIs 47 = .ok (.iaload, 1) := by decide +kernel
theorem dX11_whereIs_48 : decode cX11_whereIs 48 = .ok (.goto 10, 3) := by decide +kernel
theorem dX11_whereIs_51 : decode cX11_whereIs 51 = .ok (.aload_n 0, 1) := by decide +kernel
theorem dX11_whereIs_52 : decode cX11_whereIs 52 = .ok (.getfield 25, 3) := by decide +kernel
theorem dX11_whereIs_55 : decode cX11_whereIs 55 = .ok (.iload 4, 2) := by decide +kernel
theorem dX11_whereIs_57 : decode cX11_whereIs 57 = .ok (.iaload, 1) := by decide +kernel
theorem dX11_whereIs_58 : decode cX11_whereIs 58 = .ok (.imul, 1) := by decide +kernel
theorem dX11_whereIs_59 : decode cX11_whereIs 59 = .ok (.iadd, 1) := by decide +kernel
theorem dX11_whereIs_60 : decode cX11_whereIs 60 = .ok (.ireturn, 1) := by decide +kernel
theorem dX11_kite_0 : decode cX11_kite 0 = .ok (.aload_n 0, 1) := by decide +kernel
theorem dX11_kite_1 : decode cX11_kite 1 = .ok (.iload_n 1, 1) := by decide +kernel
theorem dX11_kite_2 : decode cX11_kite 2 = .ok (.invokevirtual 82, 3) := by decide +kernel
theorem dX11_kite_5 : decode cX11_kite 5 = .ok (.ifCond .eq 10, 3) := by decide +kernel
theorem dX11_kite_8 : decode cX11_kite 8 = .ok (.iload_n 2, 1) := by decide +kernel
theorem dX11_kite_9 : decode cX11_kite 9 = .ok (.invokestatic 93, 3) := by decide +kernel
theorem dX11_kite_12 : decode cX11_kite 12 = .ok (.ifCond .ne 10, 3) := by decide +kernel
theorem dX11_kite_15 : decode cX11_kite 15 = .ok (.aload_n 0, 1) := by decide +kernel
theorem dX11_kite_16 : decode cX11_kite 16 = .ok (.ldc 76, 2) := by decide +kernel
theorem dX11_kite_18 : decode cX11_kite 18 = .ok (.invokevirtual 64, 3) := by decide +kernel
theorem dX11_kite_21 : decode cX11_kite 21 = .ok (.ireturn, 1) := by decide +kernel
theorem dX11_kite_22 : decode cX11_kite 22 = .ok (.aload_n 0, 1) := by decide +kernel
theorem dX11_kite_23 : decode cX11_kite 23 = .ok (.iload_n 1, 1) := by decide +kernel
theorem dX11_kite_24 : decode cX11_kite 24 = .ok (.iload_n 2, 1) := by decide +kernel
theorem dX11_kite_25 : decode cX11_kite 25 = .ok (.invokevirtual 99, 3) := by decide +kernel
theorem dX11_kite_28 : decode cX11_kite 28 = .ok (.ifCond .eq 13, 3) := by decide +kernel
theorem dX11_kite_31 : decode cX11_kite 31 = .ok (.aload_n 0, 1) := by decide +kernel
theorem dX11_kite_32 : decode cX11_kite 32 = .ok (.iload_n 1, 1) := by decide +kernel
theorem dX11_kite_33 : decode cX11_kite 33 = .ok (.iload_n 2, 1) := by decide +kernel
theorem dX11_kite_34 : decode cX11_kite 34 = .ok (.iload_n 3, 1) := by decide +kernel
theorem dX11_kite_35 : decode cX11_kite 35 = .ok (.invokevirtual 103, 3) := by decide +kernel
theorem dX11_kite_38 : decode cX11_kite 38 = .ok (.goto 9, 3) := by decide +kernel
theorem dX11_kite_41 : decode cX11_kite 41 = .ok (.aload_n 0, 1) := by decide +kernel
theorem dX11_kite_42 : decode cX11_kite 42 = .ok (.ldc 63, 2) := by decide +kernel
theorem dX11_kite_44 : decode cX11_kite 44 = .ok (.invokevirtual 64, 3) := by decide +kernel
theorem dX11_kite_47 : decode cX11_kite 47 = .ok (.ireturn, 1) := by decide +kernel
theorem dX11_doMeet_0 : decode cX11_doMeet 0 = .ok (.aload_n 0, 1) := by decide +kernel
theorem dX11_doMeet_1 : decode cX11_doMeet 1 = .ok (.iload_n 1, 1) := by decide +kernel
theorem dX11_doMeet_2 : decode cX11_doMeet 2 = .ok (.iconst 3, 1) := by decide +kernel
theorem dX11_doMeet_3 : decode cX11_doMeet 3 = .ok (.invokevirtual 85, 3) := by decide +kernel
theorem dX11_doMeet_6 : decode cX11_doMeet 6 = .ok (.aload_n 0, 1) := by decide +kernel
theorem dX11_doMeet_7 : decode cX11_doMeet 7 = .ok (.iload_n 2, 1) := by decide +kernel
theorem dX11_doMeet_8 : decode cX11_doMeet 8 = .ok (.iconst 3, 1) := by decide +kernel
theorem dX11_doMeet_9 : decode cX11_doMeet 9 = .ok (.invokevirtual 85, 3) := by decide +kernel
theorem dX11_doMeet_12 : decode cX11_doMeet 12 = .ok (.if_icmp .ne 21, 3) := by decide +kernel
theorem dX11_doMeet_15 : decode cX11_doMeet 15 = .ok (.aload_n 0, 1) := by decide +kernel
theorem dX11_doMeet_16 : decode cX11_doMeet 16 = .ok (.iload_n 1, 1) := by decide +kernel
theorem dX11_doMeet_17 : decode cX11_doMeet 17 = .ok (.iload_n 3, 1) := by decide +kernel
theorem dX11_doMeet_18 : decode cX11_doMeet 18 = .ok (.invokevirtual 99, 3) := by decide +kernel
theorem dX11_doMeet_21 : decode cX11_doMeet 21 = .ok (.ifCond .eq 12, 3) := by decide +kernel
theorem dX11_doMeet_24 : decode cX11_doMeet 24 = .ok (.aload_n 0, 1) := by decide +kernel
theorem dX11_doMeet_25 : decode cX11_doMeet 25 = .ok (.iload_n 2, 1) := by decide +kernel
theorem dX11_doMeet_26 : decode cX11_doMeet 26 = .ok (.iload_n 3, 1) := by decide +kernel
theorem dX11_doMeet_27 : decode cX11_doMeet 27 = .ok (.invokevirtual 99, 3) := by decide +kernel
theorem dX11_doMeet_30 : decode cX11_doMeet 30 = .ok (.ifCond .ne 5, 3) := by decide +kernel
theorem dX11_doMeet_33 : decode cX11_doMeet 33 = .ok (.iconst 0, 1) := by decide +kernel
theorem dX11_doMeet_34 : decode cX11_doMeet 34 = .ok (.ireturn, 1) := by decide +kernel
theorem dX11_doMeet_35 : decode cX11_doMeet 35 = .ok (.aload_n 0, 1) := by decide +kernel
theorem dX11_doMeet_36 : decode cX11_doMeet 36 = .ok (.iload_n 1, 1) := by decide +kernel
theorem dX11_doMeet_37 : decode cX11_doMeet 37 = .ok (.iconst 5, 1) := by decide +kernel
theorem dX11_doMeet_38 : decode cX11_doMeet 38 = .ok (.invokevirtual 85, 3) := by decide +kernel
theorem dX11_doMeet_41 : decode cX11_doMeet 41 = .ok (.aload_n 0, 1) := by decide +kernel
theorem dX11_doMeet_42 : decode cX11_doMeet 42 = .ok (.iload_n 2, 1) := by decide +kernel
theorem dX11_doMeet_43 : decode cX11_doMeet 43 = .ok (.iconst 5, 1) := by decide +kernel
theorem dX11_doMeet_44 : decode cX11_doMeet 44 = .ok (.invokevirtual 85, 3) := by decide +kernel
theorem dX11_doMeet_47 : decode cX11_doMeet 47 = .ok (.iadd, 1) := by decide +kernel
theorem dX11_doMeet_48 : decode cX11_doMeet 48 = .ok (.iconst 1, 1) := by decide +kernel
theorem dX11_doMeet_49 : decode cX11_doMeet 49 = .ok (.isub, 1) := by decide +kernel
theorem dX11_doMeet_50 : decode cX11_doMeet 50 = .ok (.istore 4, 2) := by decide +kernel
theorem dX11_doMeet_52 : decode cX11_doMeet 52 = .ok (.aload_n 0, 1) := by decide +kernel
theorem dX11_doMeet_53 : decode cX11_doMeet 53 = .ok (.iload_n 1, 1) := by decide +kernel
theorem dX11_doMeet_54 : decode cX11_doMeet 54 = .ok (.iload_n 3, 1) := by decide +kernel
theorem dX11_doMeet_55 : decode cX11_doMeet 55 = .ok (.iconst 0, 1) := by decide +kernel
theorem dX11_doMeet_56 : decode cX11_doMeet 56 = .ok (.invokevirtual 103, 3) := by decide +kernel
theorem dX11_doMeet_59 : decode cX11_doMeet 59 = .ok (.aload_n 0, 1) := by decide +kernel
theorem dX11_doMeet_60 : decode cX11_doMeet 60 = .ok (.iload_n 2, 1) := by decide +kernel
theorem dX11_doMeet_61 : decode cX11_doMeet 61 = .ok (.iload_n 3, 1) := by decide +kernel
theorem dX11_doMeet_62 : decode cX11_doMeet 62 = .ok (.iconst 0, 1) := by decide +kernel
theorem dX11_doMeet_63 : decode cX11_doMeet 63 = .ok (.invokevirtual 103, 3) := by decide +kernel
theorem dX11_doMeet_66 : decode cX11_doMeet 66 = .ok (.isub, 1) := by decide +kernel
theorem dX11_doMeet_67 : decode cX11_doMeet 67 = .ok (.iload 4, 2) := by decide +kernel
theorem dX11_doMeet_69 : decode cX11_doMeet 69 = .ok (.ineg, 1) := by decide +kernel
theorem dX11_doMeet_70 : decode cX11_doMeet 70 = .ok (.iload 4, 2) := by decide +kernel
theorem dX11_doMeet_72 : decode cX11_doMeet 72 = .ok (.invokestatic 68, 3) := by decide +kernel
theorem dX11_doMeet_75 : decode cX11_doMeet 75 = .ok (.ifCond .eq 33, 3) := by decide +kernel
theorem dX11_doMeet_78 : decode cX11_doMeet 78 = .ok (.aload_n 0, 1) := by decide +kernel
theorem dX11_doMeet_79 : decode cX11_doMeet 79 = .ok (.iload_n 1, 1) := by decide +kernel
theorem dX11_doMeet_80 : decode cX11_doMeet 80 = .ok (.iload_n 3, 1) := by decide +kernel
theorem dX11_doMeet_81 : decode cX11_doMeet 81 = .ok (.iconst 1, 1) := by decide +kernel
theorem dX11_doMeet_82 : decode cX11_doMeet 82 = .ok (.invokevirtual 103, 3) := by decide +kernel
theorem dX11_doMeet_85 : decode cX11_doMeet 85 = .ok (.aload_n 0, 1) := by decide +kernel
theorem dX11_doMeet_86 : decode cX11_doMeet 86 = .ok (.iload_n 2, 1) := by decide +kernel
theorem dX11_doMeet_87 : decode cX11_doMeet 87 = .ok (.iload_n 3, 1) := by decide +kernel
theorem dX11_doMeet_88 : decode cX11_doMeet 88 = .ok (.iconst 1, 1) := by decide +kernel
theorem dX11_doMeet_89 : decode cX11_doMeet 89 = .ok (.invokevirtual 103, 3) := by decide +kernel
theorem dX11_doMeet_92 : decode cX11_doMeet 92 = .ok (.isub, 1) := by decide +kernel
theorem dX11_doMeet_93 : decode cX11_doMeet 93 = .ok (.iload 4, 2) := by decide +kernel
theorem dX11_doMeet_95 : decode cX11_doMeet 95 = .ok (.ineg, 1) := by decide +kernel
theorem dX11_doMeet_96 : decode cX11_doMeet 96 = .ok (.iload 4, 2) := by decide +kernel
theorem dX11_doMeet_98 : decode cX11_doMeet 98 = .ok (.invokestatic 68, 3) := by decide +kernel
theorem dX11_doMeet_101 : decode cX11_doMeet 101 = .ok (.ifCond .eq 7, 3) := by decide +kernel
theorem dX11_doMeet_104 : decode cX11_doMeet 104 = .ok (.iconst 1, 1) := by decide +kernel
theorem dX11_doMeet_105 : decode cX11_doMeet 105 = .ok (.goto 4, 3) := by decide +kernel
theorem dX11_doMeet_108 : decode cX11_doMeet 108 = .ok (.iconst 0, 1) := by decide +kernel
theorem dX11_doMeet_109 : decode cX11_doMeet 109 = .ok (.ireturn, 1) := by decide +kernel
theorem dX11_meet_0 : decode cX11_meet 0 = .ok (.aload_n 0, 1) := by decide +kernel
theorem dX11_meet_1 : decode cX11_meet 1 = .ok (.iload_n 1, 1) := by decide +kernel
theorem dX11_meet_2 : decode cX11_meet 2 = .ok (.invokevirtual 82, 3) := by decide +kernel
theorem dX11_meet_5 : decode cX11_meet 5 = .ok (.ifCond .eq 18, 3) := by decide +kernel
theorem dX11_meet_8 : decode cX11_meet 8 = .ok (.aload_n 0, 1) := by decide +kernel
theorem dX11_meet_9 : decode cX11_meet 9 = .ok (.iload_n 2, 1) := by decide +kernel
theorem dX11_meet_10 : decode cX11_meet 10 = .ok (.invokevirtual 82, 3) := by decide +kernel
theorem dX11_meet_13 : decode cX11_meet 13 = .ok (.ifCond .eq 10, 3) := by decide +kernel
theorem dX11_meet_16 : decode cX11_meet 16 = .ok (.iload_n 3, 1) := by decide +kernel
theorem dX11_meet_17 : decode cX11_meet 17 = .ok (.invokestatic 93, 3) := by decide +kernel
theorem dX11_meet_20 : decode cX11_meet 20 = .ok (.ifCond .ne 10, 3) := by decide +kernel
theorem dX11_meet_23 : decode cX11_meet 23 = .ok (.aload_n 0, 1) := by decide +kernel
theorem dX11_meet_24 : decode cX11_meet 24 = .ok (.ldc 76, 2) := by decide +kernel
theorem dX11_meet_26 : decode cX11_meet 26 = .ok (.invokevirtual 64, 3) := by decide +kernel
theorem dX11_meet_29 : decode cX11_meet 29 = .ok (.ireturn, 1) := by decide +kernel
theorem dX11_meet_30 : decode cX11_meet 30 = .ok (.iload_n 1, 1) := by decide +kernel
theorem dX11_meet_31 : decode cX11_meet 31 = .ok (.iload_n 2, 1) := by decide +kernel
theorem dX11_meet_32 : decode cX11_meet 32 = .ok (.if_icmp .ne 10, 3) := by decide +kernel
theorem dX11_meet_35 : decode cX11_meet 35 = .ok (.aload_n 0, 1) := by decide +kernel
theorem dX11_meet_36 : decode cX11_meet 36 = .ok (.ldc 77, 2) := by decide +kernel
theorem dX11_meet_38 : decode cX11_meet 38 = .ok (.invokevirtual 64, 3) := by decide +kernel
theorem dX11_meet_41 : decode cX11_meet 41 = .ok (.ireturn, 1) := by decide +kernel
theorem dX11_meet_42 : decode cX11_meet 42 = .ok (.iload_n 3, 1) := by decide +kernel
theorem dX11_meet_43 : decode cX11_meet 43 = .ok (.istore 4, 2) := by decide +kernel
theorem dX11_meet_45 : decode cX11_meet 45 = .ok (.iload 4, 2) := by decide +kernel
theorem dX11_meet_47 : decode cX11_meet 47 = .ok (.bipush 20, 2) := by decide +kernel
theorem dX11_meet_49 : decode cX11_meet 49 = .ok (.if_icmp .ge 23, 3) := by decide +kernel
theorem dX11_meet_52 : decode cX11_meet 52 = .ok (.aload_n 0, 1) := by decide +kernel
theorem dX11_meet_53 : decode cX11_meet 53 = .ok (.iload_n 1, 1) := by decide +kernel
theorem dX11_meet_54 : decode cX11_meet 54 = .ok (.iload_n 2, 1) := by decide +kernel
theorem dX11_meet_55 : decode cX11_meet 55 = .ok (.iload 4, 2) := by decide +kernel
theorem dX11_meet_57 : decode cX11_meet 57 = .ok (.invokevirtual 107, 3) := by decide +kernel
theorem dX11_meet_60 : decode cX11_meet 60 = .ok (.ifCond .eq 6, 3) := by decide +kernel
theorem dX11_meet_63 : decode cX11_meet 63 = .ok (.iload 4, 2) := by decide +kernel
theorem dX11_meet_65 : decode cX11_meet 65 = .ok (.ireturn, 1) := by decide +kernel
theorem dX11_meet_66 : decode cX11_meet 66 = .ok (.iinc 4 1, 3) := by decide +kernel
theorem dX11_meet_69 : decode cX11_meet 69 = .ok (.goto (-24), 3) := by decide +kernel
theorem dX11_meet_72 : decode cX11_meet 72 = .ok (.aload_n 0, 1) := by decide +kernel
theorem dX11_meet_73 : decode cX11_meet 73 = .ok (.ldc 63, 2) := by decide +kernel
theorem dX11_meet_75 : decode cX11_meet 75 = .ok (.invokevirtual 64, 3) := by decide +kernel
theorem dX11_meet_78 : decode cX11_meet 78 = .ok (.ireturn, 1) := by decide +kernel
theorem dX11_meets_0 : decode cX11_meets 0 = .ok (.iload_n 1, 1) := by decide +kernel
theorem dX11_meets_1 : decode cX11_meets 1 = .ok (.invokestatic 93, 3) := by decide +kernel
theorem dX11_meets_4 : decode cX11_meets 4 = .ok (.ifCond .ne 10, 3) := by decide +kernel
theorem dX11_meets_7 : decode cX11_meets 7 = .ok (.aload_n 0, 1) := by decide +kernel
theorem dX11_meets_8 : decode cX11_meets 8 = .ok (.ldc 76, 2) := by decide +kernel
theorem dX11_meets_10 : decode cX11_meets 10 = .ok (.invokevirtual 64, 3) := by decide +kernel
theorem dX11_meets_13 : decode cX11_meets 13 = .ok (.ireturn, 1) := by decide +kernel
theorem dX11_meets_14 : decode cX11_meets 14 = .ok (.iconst 0, 1) := by decide +kernel
theorem dX11_meets_15 : decode cX11_meets 15 = .ok (.istore_n 2, 1) := by decide +kernel
theorem dX11_meets_16 : decode cX11_meets 16 = .ok (.iconst 0, 1) := by decide +kernel
theorem dX11_meets_17 : decode cX11_meets 17 = .ok (.istore_n 3, 1) := by decide +kernel
theorem dX11_meets_18 : decode cX11_meets 18 = .ok (.iload_n 3, 1) := by decide +kernel
theorem dX11_meets_19 : decode cX11_meets 19 = .ok (.aload_n 0, 1) := by decide +kernel
theorem dX11_meets_20 : decode cX11_meets 20 = .ok (.getfield 7, 3) := by decide +kernel
theorem dX11_meets_23 : decode cX11_meets 23 = .ok (.iconst 0, 1) := by decide +kernel
theorem dX11_meets_24 : decode cX11_meets 24 = .ok (.iaload, 1) := by decide +kernel
theorem dX11_meets_25 : decode cX11_meets 25 = .ok (.if_icmp .ge 43, 3) := by decide +kernel
theorem dX11_meets_28 : decode cX11_meets 28 = .ok (.iconst 0, 1) := by decide +kernel
theorem dX11_meets_29 : decode cX11_meets 29 = .ok (.istore 4, 2) := by decide +kernel
theorem dX11_meets_31 : decode cX11_meets 31 = .ok (.iload 4, 2) := by decide +kernel
theorem dX11_meets_33 : decode cX11_meets 33 = .ok (.iload_n 3, 1) := by decide +kernel
theorem dX11_meets_34 : decode cX11_meets 34 = .ok (.if_icmp .ge 28, 3) := by decide +kernel
theorem dX11_meets_37 : decode cX11_meets 37 = .ok (.iload_n 2, 1) := by decide +kernel
theorem dX11_meets_38 : decode cX11_meets 38 = .ok (.aload_n 0, 1) := by decide +kernel
theorem dX11_meets_39 : decode cX11_meets 39 = .ok (.iload_n 3, 1) := by decide +kernel
theorem dX11_meets_40 : decode cX11_meets 40 = .ok (.iload 4, 2) := by decide +kernel
theorem dX11_meets_42 : decode cX11_meets 42 = .ok (.iload_n 1, 1) := by decide +kernel
theorem dX11_meets_43 : decode cX11_meets 43 = .ok (.invokevirtual 107, 3) := by decide +kernel
theorem dX11_meets_46 : decode cX11_meets 46 = .ok (.ifCond .eq 7, 3) := by decide +kernel
theorem dX11_meets_49 : decode cX11_meets 49 = .ok (.iconst 1, 1) := by decide +kernel
theorem dX11_meets_50 : decode cX11_meets 50 = .ok (.goto 4, 3) := by decide +kernel
theorem dX11_meets_53 : decode cX11_meets 53 = .ok (.iconst 0, 1) := by decide +kernel
theorem dX11_meets_54 : decode cX11_meets 54 = .ok (.iadd, 1) := by decide +kernel
theorem dX11_meets_55 : decode cX11_meets 55 = .ok (.istore_n 2, 1) := by decide +kernel
theorem dX11_meets_56 : decode cX11_meets 56 = .ok (.iinc 4 1, 3) := by decide +kernel
theorem dX11_meets_59 : decode cX11_meets 59 = .ok (.goto (-28), 3) := by decide +kernel
theorem dX11_meets_62 : decode cX11_meets 62 = .ok (.iinc 3 1, 3) := by decide +kernel
theorem dX11_meets_65 : decode cX11_meets 65 = .ok (.goto (-47), 3) := by decide +kernel
theorem dX11_meets_68 : decode cX11_meets 68 = .ok (.iload_n 2, 1) := by decide +kernel
theorem dX11_meets_69 : decode cX11_meets 69 = .ok (.ireturn, 1) := by decide +kernel
theorem dX11_ones_0 : decode cX11_ones 0 = .ok (.iconst 0, 1) := by decide +kernel
theorem dX11_ones_1 : decode cX11_ones 1 = .ok (.istore_n 1, 1) := by decide +kernel
theorem dX11_ones_2 : decode cX11_ones 2 = .ok (.iconst 0, 1) := by decide +kernel
theorem dX11_ones_3 : decode cX11_ones 3 = .ok (.istore_n 2, 1) := by decide +kernel
theorem dX11_ones_4 : decode cX11_ones 4 = .ok (.iload_n 2, 1) := by decide +kernel
theorem dX11_ones_5 : decode cX11_ones 5 = .ok (.bipush 8, 2) := by decide +kernel
theorem dX11_ones_7 : decode cX11_ones 7 = .ok (.if_icmp .ge 17, 3) := by decide +kernel
theorem dX11_ones_10 : decode cX11_ones 10 = .ok (.iload_n 1, 1) := by decide +kernel
theorem dX11_ones_11 : decode cX11_ones 11 = .ok (.iload_n 0, 1) := by decide +kernel
theorem dX11_ones_12 : decode cX11_ones 12 = .ok (.iload_n 2, 1) := by decide +kernel
theorem dX11_ones_13 : decode cX11_ones 13 = .ok (.ishr, 1) := by decide +kernel
theorem dX11_ones_14 : decode cX11_ones 14 = .ok (.iconst 1, 1) := by decide +kernel
theorem dX11_ones_15 : decode cX11_ones 15 = .ok (.iand, 1) := by decide +kernel
theorem dX11_ones_16 : decode cX11_ones 16 = .ok (.iadd, 1) := by decide +kernel
theorem dX11_ones_17 : decode cX11_ones 17 = .ok (.istore_n 1, 1) := by decide +kernel
theorem dX11_ones_18 : decode cX11_ones 18 = .ok (.iinc 2 1, 3) := by decide +kernel
theorem dX11_ones_21 : decode cX11_ones 21 = .ok (.goto (-17), 3) := by decide +kernel
theorem dX11_ones_24 : decode cX11_ones 24 = .ok (.iload_n 1, 1) := by decide +kernel
theorem dX11_ones_25 : decode cX11_ones 25 = .ok (.ireturn, 1) := by decide +kernel
theorem dX11_fieldOf_0 : decode cX11_fieldOf 0 = .ok (.iconst 0, 1) := by decide +kernel
theorem dX11_fieldOf_1 : decode cX11_fieldOf 1 = .ok (.istore_n 2, 1) := by decide +kernel
theorem dX11_fieldOf_2 : decode cX11_fieldOf 2 = .ok (.iconst 0, 1) := by decide +kernel
theorem dX11_fieldOf_3 : decode cX11_fieldOf 3 = .ok (.istore_n 3, 1) := by decide +kernel
theorem dX11_fieldOf_4 : decode cX11_fieldOf 4 = .ok (.iload_n 3, 1) := by decide +kernel
theorem dX11_fieldOf_5 : decode cX11_fieldOf 5 = .ok (.aload_n 0, 1) := by decide +kernel
theorem dX11_fieldOf_6 : decode cX11_fieldOf 6 = .ok (.getfield 7, 3) := by decide +kernel
theorem dX11_fieldOf_9 : decode cX11_fieldOf 9 = .ok (.iconst 0, 1) := by decide +kernel
theorem dX11_fieldOf_10 : decode cX11_fieldOf 10 = .ok (.iaload, 1) := by decide +kernel
theorem dX11_fieldOf_11 : decode cX11_fieldOf 11 = .ok (.if_icmp .ge 89, 3) := by decide +kernel
theorem dX11_fieldOf_14 : decode cX11_fieldOf 14 = .ok (.iload_n 2, 1) := by decide +kernel
theorem dX11_fieldOf_15 : decode cX11_fieldOf 15 = .ok (.aload_n 0, 1) := by decide +kernel
theorem dX11_fieldOf_16 : decode cX11_fieldOf 16 = .ok (.iload_n 3, 1) := by decide +kernel
theorem dX11_fieldOf_17 : decode cX11_fieldOf 17 = .ok (.iload_n 1, 1) := by decide +kernel
theorem dX11_fieldOf_18 : decode cX11_fieldOf 18 = .ok (.invokevirtual 99, 3) := by decide +kernel
theorem dX11_fieldOf_21 : decode cX11_fieldOf 21 = .ok (.ifCond .eq 9, 3) := by decide +kernel
theorem dX11_fieldOf_24 : decode cX11_fieldOf 24 = .ok (.iconst 1, 1) := by decide +kernel
theorem dX11_fieldOf_25 : decode cX11_fieldOf 25 = .ok (.iload_n 3, 1) := by decide +kernel
theorem dX11_fieldOf_26 : decode cX11_fieldOf 26 = .ok (.ishl, 1) := by decide +kernel
theorem dX11_fieldOf_27 : decode cX11_fieldOf 27 = .ok (.goto 4, 3) := by decide +kernel
theorem dX11_fieldOf_30 : decode cX11_fieldOf 30 = .ok (.iconst 0, 1) := by decide +kernel
theorem dX11_fieldOf_31 : decode cX11_fieldOf 31 = .ok (.ior, 1) := by decide +kernel
theorem dX11_fieldOf_32 : decode cX11_fieldOf 32 = .ok (.istore_n 2, 1) := by decide +kernel
theorem dX11_fieldOf_33 : decode cX11_fieldOf 33 = .ok (.aload_n 0, 1) := by decide +kernel
theorem dX11_fieldOf_34 : decode cX11_fieldOf 34 = .ok (.getfield 31, 3) := by decide +kernel
theorem dX11_fieldOf_37 : decode cX11_fieldOf 37 = .ok (.iload_n 3, 1) := by decide +kernel
theorem dX11_fieldOf_38 : decode cX11_fieldOf 38 = .ok (.iconst 0, 1) := by decide +kernel
theorem dX11_fieldOf_39 : decode cX11_fieldOf 39 = .ok (.iastore, 1) := by decide +kernel
theorem dX11_fieldOf_40 : decode cX11_fieldOf 40 = .ok (.iconst 0, 1) := by decide +kernel
theorem dX11_fieldOf_41 : decode cX11_fieldOf 41 = .ok (.istore 4, 2) := by decide +kernel
theorem dX11_fieldOf_43 : decode cX11_fieldOf 43 = .ok (.iload 4, 2) := by decide +kernel
theorem dX11_fieldOf_45 : decode cX11_fieldOf 45 = .ok (.aload_n 0, 1) := by decide +kernel
theorem dX11_fieldOf_46 : decode cX11_fieldOf 46 = .ok (.getfield 7, 3) := by decide +kernel
theorem dX11_fieldOf_49 : decode cX11_fieldOf 49 = .ok (.iconst 0, 1) := by decide +kernel
theorem dX11_fieldOf_50 : decode cX11_fieldOf 50 = .ok (.iaload, 1) := by decide +kernel
theorem dX11_fieldOf_51 : decode cX11_fieldOf 51 = .ok (.if_icmp .ge 43, 3) := by decide +kernel
theorem dX11_fieldOf_54 : decode cX11_fieldOf 54 = .ok (.aload_n 0, 1) := by decide +kernel
theorem dX11_fieldOf_55 : decode cX11_fieldOf 55 = .ok (.getfield 31, 3) := by decide +kernel
theorem dX11_fieldOf_58 : decode cX11_fieldOf 58 = .ok (.iload_n 3, 1) := by decide +kernel
theorem dX11_fieldOf_59 : decode cX11_fieldOf 59 = .ok (.dup2, 1) := by decide +kernel
theorem dX11_fieldOf_60 : decode cX11_fieldOf 60 = .ok (.iaload, 1) := by decide +kernel
theorem dX11_fieldOf_61 : decode cX11_fieldOf 61 = .ok (.iload 4, 2) := by decide +kernel
theorem dX11_fieldOf_63 : decode cX11_fieldOf 63 = .ok (.iload_n 3, 1) := by decide +kernel
theorem dX11_fieldOf_64 : decode cX11_fieldOf 64 = .ok (.if_icmp .eq 21, 3) := by decide +kernel
theorem dX11_fieldOf_67 : decode cX11_fieldOf 67 = .ok (.aload_n 0, 1) := by decide +kernel
theorem dX11_fieldOf_68 : decode cX11_fieldOf 68 = .ok (.iload_n 3, 1) := by decide +kernel
theorem dX11_fieldOf_69 : decode cX11_fieldOf 69 = .ok (.iload 4, 2) := by decide +kernel
theorem dX11_fieldOf_71 : decode cX11_fieldOf 71 = .ok (.iload_n 1, 1) := by decide +kernel
theorem dX11_fieldOf_72 : decode cX11_fieldOf 72 = .ok (.invokevirtual 107, 3) := by decide +kernel
theorem dX11_fieldOf_75 : decode cX11_fieldOf 75 = .ok (.ifCond .eq 10, 3) := by decide +kernel
theorem dX11_fieldOf_78 : decode cX11_fieldOf 78 = .ok (.iconst 1, 1) := by decide +kernel
theorem dX11_fieldOf_79 : decode cX11_fieldOf 79 = .ok (.iload 4, 2) := by decide +kernel
theorem dX11_fieldOf_81 : decode cX11_fieldOf 81 = .ok (.ishl, 1) := by decide +kernel
theorem dX11_fieldOf_82 : decode cX11_fieldOf 82 = .ok (.goto 4, 3) := by decide +kernel
theorem dX11_fieldOf_85 : decode cX11_fieldOf 85 = .ok (.iconst 0, 1) := by decide +kernel
theorem dX11_fieldOf_86 : decode cX11_fieldOf 86 = .ok (.ior, 1) := by decide +kernel
theorem dX11_fieldOf_87 : decode cX11_fieldOf 87 = .ok (.iastore, 1) := by decide +kernel
theorem dX11_fieldOf_88 : decode cX11_fieldOf 88 = .ok (.iinc 4 1, 3) := by decide +kernel
theorem dX11_fieldOf_91 : decode cX11_fieldOf 91 = .ok (.goto (-48), 3) := by decide +kernel
theorem dX11_fieldOf_94 : decode cX11_fieldOf 94 = .ok (.iinc 3 1, 3) := by decide +kernel
theorem dX11_fieldOf_97 : decode cX11_fieldOf 97 = .ok (.goto (-93), 3) := by decide +kernel
theorem dX11_fieldOf_100 : decode cX11_fieldOf 100 = .ok (.iconst 0, 1) := by decide +kernel
theorem dX11_fieldOf_101 : decode cX11_fieldOf 101 = .ok (.istore_n 3, 1) := by decide +kernel
theorem dX11_fieldOf_102 : decode cX11_fieldOf 102 = .ok (.iconst 1, 1) := by decide +kernel
theorem dX11_fieldOf_103 : decode cX11_fieldOf 103 = .ok (.istore 4, 2) := by decide +kernel
theorem dX11_fieldOf_105 : decode cX11_fieldOf 105 = .ok (.iload 4, 2) := by decide +kernel
theorem dX11_fieldOf_107 : decode cX11_fieldOf 107 = .ok (.iload_n 2, 1) := by decide +kernel
theorem dX11_fieldOf_108 : decode cX11_fieldOf 108 = .ok (.if_icmp .gt 103, 3) := by decide +kernel
theorem dX11_fieldOf_111 : decode cX11_fieldOf 111 = .ok (.iload 4, 2) := by decide +kernel
theorem dX11_fieldOf_113 : decode cX11_fieldOf 113 = .ok (.iload_n 2, 1) := by decide +kernel
theorem dX11_fieldOf_114 : decode cX11_fieldOf 114 = .ok (.iconst (-1), 1) := by decide +kernel
theorem dX11_fieldOf_115 : decode cX11_fieldOf 115 = .ok (.ixor, 1) := by decide +kernel
theorem dX11_fieldOf_116 : decode cX11_fieldOf 116 = .ok (.iand, 1) := by decide +kernel
theorem dX11_fieldOf_117 : decode cX11_fieldOf 117 = .ok (.ifCond .ne 88, 3) := by decide +kernel
theorem dX11_fieldOf_120 : decode cX11_fieldOf 120 = .ok (.iload 4, 2) := by decide +kernel
theorem dX11_fieldOf_122 : decode cX11_fieldOf 122 = .ok (.invokestatic 110, 3) := by decide +kernel
theorem dX11_fieldOf_125 : decode cX11_fieldOf 125 = .ok (.iload_n 3, 1) := by decide +kernel
theorem dX11_fieldOf_126 : decode cX11_fieldOf 126 = .ok (.invokestatic 110, 3) := by decide +kernel
theorem dX11_fieldOf_129 : decode cX11_fieldOf 129 = .ok (.if_icmp .gt 6, 3) := by decide +kernel
theorem dX11_fieldOf_132 : decode cX11_fieldOf 132 = .ok (.goto 73, 3) := by decide +kernel
theorem dX11_fieldOf_135 : decode cX11_fieldOf 135 = .ok (.iconst 1, 1) := by decide +kernel
theorem dX11_fieldOf_136 : decode cX11_fieldOf 136 = .ok (.istore 5, 2) := by decide +kernel
theorem dX11_fieldOf_138 : decode cX11_fieldOf 138 = .ok (.iconst 0, 1) := by decide +kernel
theorem dX11_fieldOf_139 : decode cX11_fieldOf 139 = .ok (.istore 6, 2) := by decide +kernel
theorem dX11_fieldOf_141 : decode cX11_fieldOf 141 = .ok (.iload 6, 2) := by decide +kernel
theorem dX11_fieldOf_143 : decode cX11_fieldOf 143 = .ok (.aload_n 0, 1) := by decide +kernel
theorem dX11_fieldOf_144 : decode cX11_fieldOf 144 = .ok (.getfield 7, 3) := by decide +kernel
theorem dX11_fieldOf_147 : decode cX11_fieldOf 147 = .ok (.iconst 0, 1) := by decide +kernel
theorem dX11_fieldOf_148 : decode cX11_fieldOf 148 = .ok (.iaload, 1) := by decide +kernel
theorem dX11_fieldOf_149 : decode cX11_fieldOf 149 = .ok (.if_icmp .ge 44, 3) := by decide +kernel
theorem dX11_fieldOf_152 : decode cX11_fieldOf 152 = .ok (.iload 5, 2) := by decide +kernel
theorem dX11_fieldOf_154 : decode cX11_fieldOf 154 = .ok (.ifCond .eq 30, 3) := by decide +kernel
theorem dX11_fieldOf_157 : decode cX11_fieldOf 157 = .ok (.iload 4, 2) := by decide +kernel
theorem dX11_fieldOf_159 : decode cX11_fieldOf 159 = .ok (.iload 6, 2) := by decide +kernel
theorem dX11_fieldOf_161 : decode cX11_fieldOf 161 = .ok (.ishr, 1) := by decide +kernel
theorem dX11_fieldOf_162 : decode cX11_fieldOf 162 = .ok (.iconst 1, 1) := by decide +kernel
theorem dX11_fieldOf_163 : decode cX11_fieldOf 163 = .ok (.iand, 1) := by decide +kernel
theorem dX11_fieldOf_164 : decode cX11_fieldOf 164 = .ok (.ifCond .eq 16, 3) := by decide +kernel
theorem dX11_fieldOf_167 : decode cX11_fieldOf 167 = .ok (.iload 4, 2) := by decide +kernel
theorem dX11_fieldOf_169 : decode cX11_fieldOf 169 = .ok (.aload_n 0, 1) := by decide +kernel
theorem dX11_fieldOf_170 : decode cX11_fieldOf 170 = .ok (.getfield 31, 3) := by decide +kernel
theorem dX11_fieldOf_173 : decode cX11_fieldOf 173 = .ok (.iload 6, 2) := by decide +kernel
theorem dX11_fieldOf_175 : decode cX11_fieldOf 175 = .ok (.iaload, 1) := by decide +kernel
theorem dX11_fieldOf_176 : decode cX11_fieldOf 176 = .ok (.iand, 1) := by decide +kernel
theorem dX11_fieldOf_177 : decode cX11_fieldOf 177 = .ok (.ifCond .ne 7, 3) := by decide +kernel
theorem dX11_fieldOf_180 : decode cX11_fieldOf 180 = .ok (.iconst 1, 1) := by decide +kernel
theorem dX11_fieldOf_181 : decode cX11_fieldOf 181 = .ok (.goto 4, 3) := by decide +kernel
theorem dX11_fieldOf_184 : decode cX11_fieldOf 184 = .ok (.iconst 0, 1) := by decide +kernel
theorem dX11_fieldOf_185 : decode cX11_fieldOf 185 = .ok (.istore 5, 2) := by decide +kernel
theorem dX11_fieldOf_187 : decode cX11_fieldOf 187 = .ok (.iinc 6 1, 3) := by decide +kernel
theorem dX11_fieldOf_190 : decode cX11_fieldOf 190 = .ok (.goto (-49), 3) := by decide +kernel
theorem dX11_fieldOf_193 : decode cX11_fieldOf 193 = .ok (.iload 5, 2) := by decide +kernel
theorem dX11_fieldOf_195 : decode cX11_fieldOf 195 = .ok (.ifCond .eq 8, 3) := by decide +kernel
theorem dX11_fieldOf_198 : decode cX11_fieldOf 198 = .ok (.iload 4, 2) := by decide +kernel
theorem dX11_fieldOf_200 : decode cX11_fieldOf 200 = .ok (.goto 4, 3) := by decide +kernel
theorem dX11_fieldOf_203 : decode cX11_fieldOf 203 = .ok (.iload_n 3, 1) := by decide +kernel
theorem dX11_fieldOf_204 : decode cX11_fieldOf 204 = .ok (.istore_n 3, 1) := by decide +kernel
theorem dX11_fieldOf_205 : decode cX11_fieldOf 205 = .ok (.iinc 4 1, 3) := by decide +kernel
theorem dX11_fieldOf_208 : decode cX11_fieldOf 208 = .ok (.goto (-103), 3) := by decide +kernel
theorem dX11_fieldOf_211 : decode cX11_fieldOf 211 = .ok (.iload_n 3, 1) := by decide +kernel
theorem dX11_fieldOf_212 : decode cX11_fieldOf 212 = .ok (.ireturn, 1) := by decide +kernel
theorem dX11_field_0 : decode cX11_field 0 = .ok (.iload_n 1, 1) := by decide +kernel
theorem dX11_field_1 : decode cX11_field 1 = .ok (.invokestatic 93, 3) := by decide +kernel
theorem dX11_field_4 : decode cX11_field 4 = .ok (.ifCond .eq 11, 3) := by decide +kernel
theorem dX11_field_7 : decode cX11_field 7 = .ok (.aload_n 0, 1) := by decide +kernel
theorem dX11_field_8 : decode cX11_field 8 = .ok (.iload_n 1, 1) := by decide +kernel
theorem dX11_field_9 : decode cX11_field 9 = .ok (.invokevirtual 113, 3) := by decide +kernel
theorem dX11_field_12 : decode cX11_field 12 = .ok (.goto 9, 3) := by decide +kernel
theorem dX11_field_15 : decode cX11_field 15 = .ok (.aload_n 0, 1) := by decide +kernel
theorem dX11_field_16 : decode cX11_field 16 = .ok (.ldc 76, 2) := by decide +kernel
theorem dX11_field_18 : decode cX11_field 18 = .ok (.invokevirtual 64, 3) := by decide +kernel
theorem dX11_field_21 : decode cX11_field 21 = .ok (.ireturn, 1) := by decide +kernel
theorem dX11_best_0 : decode cX11_best 0 = .ok (.iload_n 1, 1) := by decide +kernel
theorem dX11_best_1 : decode cX11_best 1 = .ok (.invokestatic 93, 3) := by decide +kernel
theorem dX11_best_4 : decode cX11_best 4 = .ok (.ifCond .eq 15, 3) := by decide +kernel
theorem dX11_best_7 : decode cX11_best 7 = .ok (.iload_n 2, 1) := by decide +kernel
theorem dX11_best_8 : decode cX11_best 8 = .ok (.invokestatic 93, 3) := by decide +kernel
theorem dX11_best_11 : decode cX11_best 11 = .ok (.ifCond .eq 8, 3) := by decide +kernel
theorem dX11_best_14 : decode cX11_best 14 = .ok (.iload_n 1, 1) := by decide +kernel
theorem dX11_best_15 : decode cX11_best 15 = .ok (.iload_n 2, 1) := by decide +kernel
theorem dX11_best_16 : decode cX11_best 16 = .ok (.if_icmp .le 10, 3) := by decide +kernel
theorem dX11_best_19 : decode cX11_best 19 = .ok (.aload_n 0, 1) := by decide +kernel
theorem dX11_best_20 : decode cX11_best 20 = .ok (.ldc 76, 2) := by decide +kernel
theorem dX11_best_22 : decode cX11_best 22 = .ok (.invokevirtual 64, 3) := by decide +kernel
theorem dX11_best_25 : decode cX11_best 25 = .ok (.ireturn, 1) := by decide +kernel
theorem dX11_best_26 : decode cX11_best 26 = .ok (.iload_n 1, 1) := by decide +kernel
theorem dX11_best_27 : decode cX11_best 27 = .ok (.istore_n 3, 1) := by decide +kernel
theorem dX11_best_28 : decode cX11_best 28 = .ok (.iconst (-1), 1) := by decide +kernel
theorem dX11_best_29 : decode cX11_best 29 = .ok (.istore 4, 2) := by decide +kernel
theorem dX11_best_31 : decode cX11_best 31 = .ok (.iload_n 1, 1) := by decide +kernel
theorem dX11_best_32 : decode cX11_best 32 = .ok (.istore 5, 2) := by decide +kernel
theorem dX11_best_34 : decode cX11_best 34 = .ok (.iload 5, 2) := by decide +kernel
theorem dX11_best_36 : decode cX11_best 36 = .ok (.iload_n 2, 1) := by decide +kernel
theorem dX11_best_37 : decode cX11_best 37 = .ok (.if_icmp .gt 37, 3) := by decide +kernel
theorem dX11_best_40 : decode cX11_best 40 = .ok (.aload_n 0, 1) := by decide +kernel
theorem dX11_best_41 : decode cX11_best 41 = .ok (.iload 5, 2) := by decide +kernel
theorem dX11_best_43 : decode cX11_best 43 = .ok (.invokevirtual 113, 3) := by decide +kernel
theorem dX11_best_46 : decode cX11_best 46 = .ok (.invokestatic 110, 3) := by decide +kernel
theorem dX11_best_49 : decode cX11_best 49 = .ok (.istore 6, 2) := by decide +kernel
theorem dX11_best_51 : decode cX11_best 51 = .ok (.iload 6, 2) := by decide +kernel
theorem dX11_best_53 : decode cX11_best 53 = .ok (.iload 4, 2) := by decide +kernel
theorem dX11_best_55 : decode cX11_best 55 = .ok (.if_icmp .gt 6, 3) := by decide +kernel
theorem dX11_best_58 : decode cX11_best 58 = .ok (.goto 10, 3) := by decide +kernel
theorem dX11_best_61 : decode cX11_best 61 = .ok (.iload 5, 2) := by decide +kernel
theorem dX11_best_63 : decode cX11_best 63 = .ok (.istore_n 3, 1) := by decide +kernel
theorem dX11_best_64 : decode cX11_best 64 = .ok (.iload 6, 2) := by decide +kernel
theorem dX11_best_66 : decode cX11_best 66 = .ok (.istore 4, 2) := by decide +kernel
theorem dX11_best_68 : decode cX11_best 68 = .ok (.iinc 5 1, 3) := by decide +kernel
theorem dX11_best_71 : decode cX11_best 71 = .ok (.goto (-37), 3) := by decide +kernel
theorem dX11_best_74 : decode cX11_best 74 = .ok (.iload_n 3, 1) := by decide +kernel
theorem dX11_best_75 : decode cX11_best 75 = .ok (.ireturn, 1) := by decide +kernel
theorem dX11_turned_0 : decode cX11_turned 0 = .ok (.iload_n 0, 1) := by decide +kernel
theorem dX11_turned_1 : decode cX11_turned 1 = .ok (.bipush 10, 2) := by decide +kernel
theorem dX11_turned_3 : decode cX11_turned 3 = .ok (.if_icmp .ge 10, 3) := by decide +kernel
theorem dX11_turned_6 : decode cX11_turned 6 = .ok (.iload_n 0, 1) := by decide +kernel
theorem dX11_turned_7 : decode cX11_turned 7 = .ok (.bipush 10, 2) := by decide +kernel
theorem dX11_turned_9 : decode cX11_turned 9 = .ok (.iadd, 1) := by decide +kernel
theorem dX11_turned_10 : decode cX11_turned 10 = .ok (.goto 7, 3) := by decide +kernel
theorem dX11_turned_13 : decode cX11_turned 13 = .ok (.iload_n 0, 1) := by decide +kernel
theorem dX11_turned_14 : decode cX11_turned 14 = .ok (.bipush 10, 2) := by decide +kernel
theorem dX11_turned_16 : decode cX11_turned 16 = .ok (.isub, 1) := by decide +kernel
theorem dX11_turned_17 : decode cX11_turned 17 = .ok (.ireturn, 1) := by decide +kernel
theorem dX11_one_0 : decode cX11_one 0 = .ok (.aload_n 0, 1) := by decide +kernel
theorem dX11_one_1 : decode cX11_one 1 = .ok (.getfield 116, 3) := by decide +kernel
theorem dX11_one_4 : decode cX11_one 4 = .ok (.ifCond .le 32, 3) := by decide +kernel
theorem dX11_one_7 : decode cX11_one 7 = .ok (.aload_n 0, 1) := by decide +kernel
theorem dX11_one_8 : decode cX11_one 8 = .ok (.getfield 40, 3) := by decide +kernel
theorem dX11_one_11 : decode cX11_one 11 = .ok (.aload_n 0, 1) := by decide +kernel
theorem dX11_one_12 : decode cX11_one 12 = .ok (.getfield 116, 3) := by decide +kernel
theorem dX11_one_15 : decode cX11_one 15 = .ok (.iconst 1, 1) := by decide +kernel
theorem dX11_one_16 : decode cX11_one 16 = .ok (.isub, 1) := by decide +kernel
theorem dX11_one_17 : decode cX11_one 17 = .ok (.iaload, 1) := by decide +kernel
theorem dX11_one_18 : decode cX11_one 18 = .ok (.iload_n 1, 1) := by decide +kernel
theorem dX11_one_19 : decode cX11_one 19 = .ok (.invokestatic 119, 3) := by decide +kernel
theorem dX11_one_22 : decode cX11_one 22 = .ok (.if_icmp .ne 14, 3) := by decide +kernel
theorem dX11_one_25 : decode cX11_one 25 = .ok (.aload_n 0, 1) := by decide +kernel
theorem dX11_one_26 : decode cX11_one 26 = .ok (.dup, 1) := by decide +kernel
theorem dX11_one_27 : decode cX11_one 27 = .ok (.getfield 116, 3) := by decide +kernel
theorem dX11_one_30 : decode cX11_one 30 = .ok (.iconst 1, 1) := by decide +kernel
theorem dX11_one_31 : decode cX11_one 31 = .ok (.isub, 1) := by decide +kernel
theorem dX11_one_32 : decode cX11_one 32 = .ok (.putfield 116, 3) := by decide +kernel
theorem dX11_one_35 : decode cX11_one 35 = .ok (.return_, 1) := by decide +kernel
theorem dX11_one_36 : decode cX11_one 36 = .ok (.aload_n 0, 1) := by decide +kernel
theorem dX11_one_37 : decode cX11_one 37 = .ok (.getfield 40, 3) := by decide +kernel
theorem dX11_one_40 : decode cX11_one 40 = .ok (.aload_n 0, 1) := by decide +kernel
theorem dX11_one_41 : decode cX11_one 41 = .ok (.getfield 116, 3) := by decide +kernel
theorem dX11_one_44 : decode cX11_one 44 = .ok (.iload_n 1, 1) := by decide +kernel
theorem dX11_one_45 : decode cX11_one 45 = .ok (.iastore, 1) := by decide +kernel
theorem dX11_one_46 : decode cX11_one 46 = .ok (.aload_n 0, 1) := by decide +kernel
theorem dX11_one_47 : decode cX11_one 47 = .ok (.dup, 1) := by decide +kernel
theorem dX11_one_48 : decode cX11_one 48 = .ok (.getfield 116, 3) := by decide +kernel
theorem dX11_one_51 : decode cX11_one 51 = .ok (.iconst 1, 1) := by decide +kernel
theorem dX11_one_52 : decode cX11_one 52 = .ok (.iadd, 1) := by decide +kernel
theorem dX11_one_53 : decode cX11_one 53 = .ok (.putfield 116, 3) := by decide +kernel
theorem dX11_one_56 : decode cX11_one 56 = .ok (.return_, 1) := by decide +kernel
theorem dX11_takes_0 : decode cX11_takes 0 = .ok (.aload_n 0, 1) := by decide +kernel
theorem dX11_takes_1 : decode cX11_takes 1 = .ok (.getfield 37, 3) := by decide +kernel
theorem dX11_takes_4 : decode cX11_takes 4 = .ok (.iconst 5, 1) := by decide +kernel
theorem dX11_takes_5 : decode cX11_takes 5 = .ok (.iload_n 1, 1) := by decide +kernel
theorem dX11_takes_6 : decode cX11_takes 6 = .ok (.imul, 1) := by decide +kernel
theorem dX11_takes_7 : decode cX11_takes 7 = .ok (.iload_n 2, 1) := by decide +kernel
theorem dX11_takes_8 : decode cX11_takes 8 = .ok (.iadd, 1) := by decide +kernel
theorem dX11_takes_9 : decode cX11_takes 9 = .ok (.iaload, 1) := by decide +kernel
theorem dX11_takes_10 : decode cX11_takes 10 = .ok (.istore 4, 2) := by decide +kernel
theorem dX11_takes_12 : decode cX11_takes 12 = .ok (.iconst 0, 1) := by decide +kernel
theorem dX11_takes_13 : decode cX11_takes 13 = .ok (.istore 5, 2) := by decide +kernel
theorem dX11_takes_15 : decode cX11_takes 15 = .ok (.iload 5, 2) := by decide +kernel
theorem dX11_takes_17 : decode cX11_takes 17 = .ok (.iload 4, 2) := by decide +kernel
theorem dX11_takes_19 : decode cX11_takes 19 = .ok (.if_icmp .ge 61, 3) := by decide +kernel
theorem dX11_takes_22 : decode cX11_takes 22 = .ok (.aload_n 0, 1) := by decide +kernel
theorem dX11_takes_23 : decode cX11_takes 23 = .ok (.getfield 34, 3) := by decide +kernel
theorem dX11_takes_26 : decode cX11_takes 26 = .ok (.sipush 300, 3) := by decide +kernel
theorem dX11_takes_29 : decode cX11_takes 29 = .ok (.iload_n 1, 1) := by decide +kernel
theorem dX11_takes_30 : decode cX11_takes 30 = .ok (.imul, 1) := by decide +kernel
theorem dX11_takes_31 : decode cX11_takes 31 = .ok (.bipush 60, 2) := by decide +kernel
theorem dX11_takes_33 : decode cX11_takes 33 = .ok (.iload_n 2, 1) := by decide +kernel
theorem dX11_takes_34 : decode cX11_takes 34 = .ok (.imul, 1) := by decide +kernel
theorem dX11_takes_35 : decode cX11_takes 35 = .ok (.iadd, 1) := by decide +kernel
theorem dX11_takes_36 : decode cX11_takes 36 = .ok (.iload_n 3, 1) := by decide +kernel
theorem dX11_takes_37 : decode cX11_takes 37 = .ok (.ifCond .eq 13, 3) := by decide +kernel
theorem dX11_takes_40 : decode cX11_takes 40 = .ok (.iload 4, 2) := by decide +kernel
theorem dX11_takes_42 : decode cX11_takes 42 = .ok (.iconst 1, 1) := by decide +kernel
theorem dX11_takes_43 : decode cX11_takes 43 = .ok (.isub, 1) := by decide +kernel
theorem dX11_takes_44 : decode cX11_takes 44 = .ok (.iload 5, 2) := by decide +kernel
theorem dX11_takes_46 : decode cX11_takes 46 = .ok (.isub, 1) := by decide +kernel
theorem dX11_takes_47 : decode cX11_takes 47 = .ok (.goto 5, 3) := by decide +kernel
theorem dX11_takes_50 : decode cX11_takes 50 = .ok (.iload 5, 2) := by decide +kernel
theorem dX11_takes_52 : decode cX11_takes 52 = .ok (.iadd, 1) := by decide +kernel
theorem dX11_takes_53 : decode cX11_takes 53 = .ok (.iaload, 1) := by decide +kernel
theorem dX11_takes_54 : decode cX11_takes 54 = .ok (.istore 6, 2) := by decide +kernel
theorem dX11_takes_56 : decode cX11_takes 56 = .ok (.aload_n 0, 1) := by decide +kernel
theorem dX11_takes_57 : decode cX11_takes 57 = .ok (.iload_n 3, 1) := by decide +kernel
theorem dX11_takes_58 : decode cX11_takes 58 = .ok (.ifCond .eq 11, 3) := by decide +kernel
theorem dX11_takes_61 : decode cX11_takes 61 = .ok (.iload 6, 2) := by decide +kernel
theorem dX11_takes_63 : decode cX11_takes 63 = .ok (.invokestatic 119, 3) := by decide +kernel
theorem dX11_takes_66 : decode cX11_takes 66 = .ok (.goto 5, 3) := by decide +kernel
theorem dX11_takes_69 : decode cX11_takes 69 = .ok (.iload 6, 2) := by decide +kernel
theorem dX11_takes_71 : decode cX11_takes 71 = .ok (.invokevirtual 122, 3) := by decide +kernel
theorem dX11_takes_74 : decode cX11_takes 74 = .ok (.iinc 5 1, 3) := by decide +kernel
theorem dX11_takes_77 : decode cX11_takes 77 = .ok (.goto (-62), 3) := by decide +kernel
theorem dX11_takes_80 : decode cX11_takes 80 = .ok (.return_, 1) := by decide +kernel
theorem dX11_lays_0 : decode cX11_lays 0 = .ok (.aload_n 0, 1) := by decide +kernel
theorem dX11_lays_1 : decode cX11_lays 1 = .ok (.getfield 116, 3) := by decide +kernel
theorem dX11_lays_4 : decode cX11_lays 4 = .ok (.bipush 60, 2) := by decide +kernel
theorem dX11_lays_6 : decode cX11_lays 6 = .ok (.if_icmp .le 5, 3) := by decide +kernel
theorem dX11_lays_9 : decode cX11_lays 9 = .ok (.iconst 0, 1) := by decide +kernel
theorem dX11_lays_10 : decode cX11_lays 10 = .ok (.ireturn, 1) := by decide +kernel
theorem dX11_lays_11 : decode cX11_lays 11 = .ok (.aload_n 0, 1) := by decide +kernel
theorem dX11_lays_12 : decode cX11_lays 12 = .ok (.getfield 37, 3) := by decide +kernel
theorem dX11_lays_15 : decode cX11_lays 15 = .ok (.iconst 5, 1) := by decide +kernel
theorem dX11_lays_16 : decode cX11_lays 16 = .ok (.iload_n 1, 1) := by decide +kernel
theorem dX11_lays_17 : decode cX11_lays 17 = .ok (.imul, 1) := by decide +kernel
theorem dX11_lays_18 : decode cX11_lays 18 = .ok (.iload_n 2, 1) := by decide +kernel
theorem dX11_lays_19 : decode cX11_lays 19 = .ok (.iadd, 1) := by decide +kernel
theorem dX11_lays_20 : decode cX11_lays 20 = .ok (.aload_n 0, 1) := by decide +kernel
theorem dX11_lays_21 : decode cX11_lays 21 = .ok (.getfield 116, 3) := by decide +kernel
theorem dX11_lays_24 : decode cX11_lays 24 = .ok (.iastore, 1) := by decide +kernel
theorem dX11_lays_25 : decode cX11_lays 25 = .ok (.iconst 0, 1) := by decide +kernel
theorem dX11_lays_26 : decode cX11_lays 26 = .ok (.istore_n 3, 1) := by decide +kernel
theorem dX11_lays_27 : decode cX11_lays 27 = .ok (.iload_n 3, 1) := by decide +kernel
theorem dX11_lays_28 : decode cX11_lays 28 = .ok (.aload_n 0, 1) := by decide +kernel
theorem dX11_lays_29 : decode cX11_lays 29 = .ok (.getfield 116, 3) := by decide +kernel
theorem dX11_lays_32 : decode cX11_lays 32 = .ok (.if_icmp .ge 32, 3) := by decide +kernel
theorem dX11_lays_35 : decode cX11_lays 35 = .ok (.aload_n 0, 1) := by decide +kernel
theorem dX11_lays_36 : decode cX11_lays 36 = .ok (.getfield 34, 3) := by decide +kernel
theorem dX11_lays_39 : decode cX11_lays 39 = .ok (.sipush 300, 3) := by decide +kernel
theorem dX11_lays_42 : decode cX11_lays 42 = .ok (.iload_n 1, 1) := by decide +kernel
theorem dX11_lays_43 : decode cX11_lays 43 = .ok (.imul, 1) := by decide +kernel
theorem dX11_lays_44 : decode cX11_lays 44 = .ok (.bipush 60, 2) := by decide +kernel
theorem dX11_lays_46 : decode cX11_lays 46 = .ok (.iload_n 2, 1) := by decide +kernel
theorem dX11_lays_47 : decode cX11_lays 47 = .ok (.imul, 1) := by decide +kernel
theorem dX11_lays_48 : decode cX11_lays 48 = .ok (.iadd, 1) := by decide +kernel
theorem dX11_lays_49 : decode cX11_lays 49 = .ok (.iload_n 3, 1) := by decide +kernel
theorem dX11_lays_50 : decode cX11_lays 50 = .ok (.iadd, 1) := by decide +kernel
theorem dX11_lays_51 : decode cX11_lays 51 = .ok (.aload_n 0, 1) := by decide +kernel
theorem dX11_lays_52 : decode cX11_lays 52 = .ok (.getfield 40, 3) := by decide +kernel
theorem dX11_lays_55 : decode cX11_lays 55 = .ok (.iload_n 3, 1) := by decide +kernel
theorem dX11_lays_56 : decode cX11_lays 56 = .ok (.iaload, 1) := by decide +kernel
theorem dX11_lays_57 : decode cX11_lays 57 = .ok (.iastore, 1) := by decide +kernel
theorem dX11_lays_58 : decode cX11_lays 58 = .ok (.iinc 3 1, 3) := by decide +kernel
theorem dX11_lays_61 : decode cX11_lays 61 = .ok (.goto (-34), 3) := by decide +kernel
theorem dX11_lays_64 : decode cX11_lays 64 = .ok (.iconst 1, 1) := by decide +kernel
theorem dX11_lays_65 : decode cX11_lays 65 = .ok (.ireturn, 1) := by decide +kernel
theorem dX11_walks_0 : decode cX11_walks 0 = .ok (.iconst 0, 1) := by decide +kernel
theorem dX11_walks_1 : decode cX11_walks 1 = .ok (.istore 6, 2) := by decide +kernel
theorem dX11_walks_3 : decode cX11_walks 3 = .ok (.iload 6, 2) := by decide +kernel
theorem dX11_walks_5 : decode cX11_walks 5 = .ok (.iload_n 3, 1) := by decide +kernel
theorem dX11_walks_6 : decode cX11_walks 6 = .ok (.if_icmp .ge 142, 3) := by decide +kernel
theorem dX11_walks_9 : decode cX11_walks 9 = .ok (.aload_n 0, 1) := by decide +kernel
theorem dX11_walks_10 : decode cX11_walks 10 = .ok (.iconst 0, 1) := by decide +kernel
theorem dX11_walks_11 : decode cX11_walks 11 = .ok (.putfield 116, 3) := by decide +kernel
theorem dX11_walks_14 : decode cX11_walks 14 = .ok (.iload 6, 2) := by decide +kernel
theorem dX11_walks_16 : decode cX11_walks 16 = .ok (.iload 4, 2) := by decide +kernel
theorem dX11_walks_18 : decode cX11_walks 18 = .ok (.if_icmp .ne 54, 3) := by decide +kernel
theorem dX11_walks_21 : decode cX11_walks 21 = .ok (.aload_n 0, 1) := by decide +kernel
theorem dX11_walks_22 : decode cX11_walks 22 = .ok (.iload_n 1, 1) := by decide +kernel
theorem dX11_walks_23 : decode cX11_walks 23 = .ok (.iload 5, 2) := by decide +kernel
theorem dX11_walks_25 : decode cX11_walks 25 = .ok (.ifCond .eq 8, 3) := by decide +kernel
theorem dX11_walks_28 : decode cX11_walks 28 = .ok (.iload 4, 2) := by decide +kernel
theorem dX11_walks_30 : decode cX11_walks 30 = .ok (.goto 7, 3) := by decide +kernel
theorem dX11_walks_33 : decode cX11_walks 33 = .ok (.iload 4, 2) := by decide +kernel
theorem dX11_walks_35 : decode cX11_walks 35 = .ok (.iconst 1, 1) := by decide +kernel
theorem dX11_walks_36 : decode cX11_walks 36 = .ok (.iadd, 1) := by decide +kernel
theorem dX11_walks_37 : decode cX11_walks 37 = .ok (.iconst 0, 1) := by decide +kernel
theorem dX11_walks_38 : decode cX11_walks 38 = .ok (.invokevirtual 125, 3) := by decide +kernel
theorem dX11_walks_41 : decode cX11_walks 41 = .ok (.iload 5, 2) := by decide +kernel
theorem dX11_walks_43 : decode cX11_walks 43 = .ok (.ifCond .eq 13, 3) := by decide +kernel
theorem dX11_walks_46 : decode cX11_walks 46 = .ok (.aload_n 0, 1) := by decide +kernel
theorem dX11_walks_47 : decode cX11_walks 47 = .ok (.iload_n 1, 1) := by decide +kernel
theorem dX11_walks_48 : decode cX11_walks 48 = .ok (.iload 4, 2) := by decide +kernel
theorem dX11_walks_50 : decode cX11_walks 50 = .ok (.iconst 1, 1) := by decide +kernel
theorem dX11_walks_51 : decode cX11_walks 51 = .ok (.iadd, 1) := by decide +kernel
theorem dX11_walks_52 : decode cX11_walks 52 = .ok (.iconst 0, 1) := by decide +kernel
theorem dX11_walks_53 : decode cX11_walks 53 = .ok (.invokevirtual 125, 3) := by decide +kernel
theorem dX11_walks_56 : decode cX11_walks 56 = .ok (.iload 5, 2) := by decide +kernel
theorem dX11_walks_58 : decode cX11_walks 58 = .ok (.ifCond .eq 72, 3) := by decide +kernel
theorem dX11_walks_61 : decode cX11_walks 61 = .ok (.aload_n 0, 1) := by decide +kernel
theorem dX11_walks_62 : decode cX11_walks 62 = .ok (.iload_n 1, 1) := by decide +kernel
theorem dX11_walks_63 : decode cX11_walks 63 = .ok (.iload 4, 2) := by decide +kernel
theorem dX11_walks_65 : decode cX11_walks 65 = .ok (.iconst 1, 1) := by decide +kernel
theorem dX11_walks_66 : decode cX11_walks 66 = .ok (.invokevirtual 125, 3) := by decide +kernel
theorem dX11_walks_69 : decode cX11_walks 69 = .ok (.goto 61, 3) := by decide +kernel
theorem dX11_walks_72 : decode cX11_walks 72 = .ok (.iload 6, 2) := by decide +kernel
theorem dX11_walks_74 : decode cX11_walks 74 = .ok (.iload 4, 2) := by decide +kernel
theorem dX11_walks_76 : decode cX11_walks 76 = .ok (.iconst 1, 1) := by decide +kernel
theorem dX11_walks_77 : decode cX11_walks 77 = .ok (.iadd, 1) := by decide +kernel
theorem dX11_walks_78 : decode cX11_walks 78 = .ok (.if_icmp .ne 44, 3) := by decide +kernel
theorem dX11_walks_81 : decode cX11_walks 81 = .ok (.iload 5, 2) := by decide +kernel
theorem dX11_walks_83 : decode cX11_walks 83 = .ok (.ifCond .ne 13, 3) := by decide +kernel
theorem dX11_walks_86 : decode cX11_walks 86 = .ok (.aload_n 0, 1) := by decide +kernel
theorem dX11_walks_87 : decode cX11_walks 87 = .ok (.iload_n 1, 1) := by decide +kernel
theorem dX11_walks_88 : decode cX11_walks 88 = .ok (.iload 4, 2) := by decide +kernel
theorem dX11_walks_90 : decode cX11_walks 90 = .ok (.iconst 1, 1) := by decide +kernel
theorem dX11_walks_91 : decode cX11_walks 91 = .ok (.iadd, 1) := by decide +kernel
theorem dX11_walks_92 : decode cX11_walks 92 = .ok (.iconst 1, 1) := by decide +kernel
theorem dX11_walks_93 : decode cX11_walks 93 = .ok (.invokevirtual 125, 3) := by decide +kernel
theorem dX11_walks_96 : decode cX11_walks 96 = .ok (.aload_n 0, 1) := by decide +kernel
theorem dX11_walks_97 : decode cX11_walks 97 = .ok (.iload_n 1, 1) := by decide +kernel
theorem dX11_walks_98 : decode cX11_walks 98 = .ok (.iload 4, 2) := by decide +kernel
theorem dX11_walks_100 : decode cX11_walks 100 = .ok (.iconst 0, 1) := by decide +kernel
theorem dX11_walks_101 : decode cX11_walks 101 = .ok (.invokevirtual 125, 3) := by decide +kernel
theorem dX11_walks_104 : decode cX11_walks 104 = .ok (.iload 5, 2) := by decide +kernel
theorem dX11_walks_106 : decode cX11_walks 106 = .ok (.ifCond .ne 24, 3) := by decide +kernel
theorem dX11_walks_109 : decode cX11_walks 109 = .ok (.aload_n 0, 1) := by decide +kernel
theorem dX11_walks_110 : decode cX11_walks 110 = .ok (.iload_n 1, 1) := by decide +kernel
theorem dX11_walks_111 : decode cX11_walks 111 = .ok (.iload 4, 2) := by decide +kernel
theorem dX11_walks_113 : decode cX11_walks 113 = .ok (.iconst 1, 1) := by decide +kernel
theorem dX11_walks_114 : decode cX11_walks 114 = .ok (.iadd, 1) := by decide +kernel
theorem dX11_walks_115 : decode cX11_walks 115 = .ok (.iconst 0, 1) := by decide +kernel
theorem dX11_walks_116 : decode cX11_walks 116 = .ok (.invokevirtual 125, 3) := by decide +kernel
theorem dX11_walks_119 : decode cX11_walks 119 = .ok (.goto 11, 3) := by decide +kernel
theorem dX11_walks_122 : decode cX11_walks 122 = .ok (.aload_n 0, 1) := by decide +kernel
theorem dX11_walks_123 : decode cX11_walks 123 = .ok (.iload_n 1, 1) := by decide +kernel
theorem dX11_walks_124 : decode cX11_walks 124 = .ok (.iload 6, 2) := by decide +kernel
theorem dX11_walks_126 : decode cX11_walks 126 = .ok (.iconst 0, 1) := by decide +kernel
theorem dX11_walks_127 : decode cX11_walks 127 = .ok (.invokevirtual 125, 3) := by decide +kernel
theorem dX11_walks_130 : decode cX11_walks 130 = .ok (.aload_n 0, 1) := by decide +kernel
theorem dX11_walks_131 : decode cX11_walks 131 = .ok (.iload_n 2, 1) := by decide +kernel
theorem dX11_walks_132 : decode cX11_walks 132 = .ok (.iload 6, 2) := by decide +kernel
theorem dX11_walks_134 : decode cX11_walks 134 = .ok (.invokevirtual 129, 3) := by decide +kernel
theorem dX11_walks_137 : decode cX11_walks 137 = .ok (.ifCond .ne 5, 3) := by decide +kernel
theorem dX11_walks_140 : decode cX11_walks 140 = .ok (.iconst 0, 1) := by decide +kernel
theorem dX11_walks_141 : decode cX11_walks 141 = .ok (.ireturn, 1) := by decide +kernel
theorem dX11_walks_142 : decode cX11_walks 142 = .ok (.iinc 6 1, 3) := by decide +kernel
theorem dX11_walks_145 : decode cX11_walks 145 = .ok (.goto (-142), 3) := by decide +kernel
theorem dX11_walks_148 : decode cX11_walks 148 = .ok (.iconst 1, 1) := by decide +kernel
theorem dX11_walks_149 : decode cX11_walks 149 = .ok (.ireturn, 1) := by decide +kernel
theorem dX11_firstWords_0 : decode cX11_firstWords 0 = .ok (.iconst 0, 1) := by decide +kernel
theorem dX11_firstWords_1 : decode cX11_firstWords 1 = .ok (.istore_n 2, 1) := by decide +kernel
theorem dX11_firstWords_2 : decode cX11_firstWords 2 = .ok (.iload_n 2, 1) := by decide +kernel
theorem dX11_firstWords_3 : decode cX11_firstWords 3 = .ok (.iconst 5, 1) := by decide +kernel
theorem dX11_firstWords_4 : decode cX11_firstWords 4 = .ok (.if_icmp .ge 36, 3) := by decide +kernel
theorem dX11_firstWords_7 : decode cX11_firstWords 7 = .ok (.aload_n 0, 1) := by decide +kernel
theorem dX11_firstWords_8 : decode cX11_firstWords 8 = .ok (.getfield 37, 3) := by decide +kernel
theorem dX11_firstWords_11 : decode cX11_firstWords 11 = .ok (.iconst 5, 1) := by decide +kernel
theorem dX11_firstWords_12 : decode cX11_firstWords 12 = .ok (.iload_n 1, 1) := by decide +kernel
theorem dX11_firstWords_13 : decode cX11_firstWords 13 = .ok (.imul, 1) := by decide +kernel
theorem dX11_firstWords_14 : decode cX11_firstWords 14 = .ok (.iload_n 2, 1) := by decide +kernel
theorem dX11_firstWords_15 : decode cX11_firstWords 15 = .ok (.iadd, 1) := by decide +kernel
theorem dX11_firstWords_16 : decode cX11_firstWords 16 = .ok (.iconst 1, 1) := by decide +kernel
theorem dX11_firstWords_17 : decode cX11_firstWords 17 = .ok (.iastore, 1) := by decide +kernel
theorem dX11_firstWords_18 : decode cX11_firstWords 18 = .ok (.aload_n 0, 1) := by decide +kernel
theorem dX11_firstWords_19 : decode cX11_firstWords 19 = .ok (.getfield 34, 3) := by decide +kernel
theorem dX11_firstWords_22 : decode cX11_firstWords 22 = .ok (.sipush 300, 3) := by decide +kernel
theorem dX11_firstWords_25 : decode cX11_firstWords 25 = .ok (.iload_n 1, 1) := by decide +kernel
theorem dX11_firstWords_26 : decode cX11_firstWords 26 = .ok (.imul, 1) := by decide +kernel
theorem dX11_firstWords_27 : decode cX11_firstWords 27 = .ok (.bipush 60, 2) := by decide +kernel
theorem dX11_firstWords_29 : decode cX11_firstWords 29 = .ok (.iload_n 2, 1) := by decide +kernel
theorem dX11_firstWords_30 : decode cX11_firstWords 30 = .ok (.imul, 1) := by decide +kernel
theorem dX11_firstWords_31 : decode cX11_firstWords 31 = .ok (.iadd, 1) := by decide +kernel
theorem dX11_firstWords_32 : decode cX11_firstWords 32 = .ok (.iload_n 2, 1) := by decide +kernel
theorem dX11_firstWords_33 : decode cX11_firstWords 33 = .ok (.iastore, 1) := by decide +kernel
theorem dX11_firstWords_34 : decode cX11_firstWords 34 = .ok (.iinc 2 1, 3) := by decide +kernel
theorem dX11_firstWords_37 : decode cX11_firstWords 37 = .ok (.goto (-35), 3) := by decide +kernel
theorem dX11_firstWords_40 : decode cX11_firstWords 40 = .ok (.return_, 1) := by decide +kernel
theorem dX11_fromNow_0 : decode cX11_fromNow 0 = .ok (.iconst 0, 1) := by decide +kernel
theorem dX11_fromNow_1 : decode cX11_fromNow 1 = .ok (.istore_n 1, 1) := by decide +kernel
theorem dX11_fromNow_2 : decode cX11_fromNow 2 = .ok (.iload_n 1, 1) := by decide +kernel
theorem dX11_fromNow_3 : decode cX11_fromNow 3 = .ok (.iconst 5, 1) := by decide +kernel
theorem dX11_fromNow_4 : decode cX11_fromNow 4 = .ok (.if_icmp .ge 25, 3) := by decide +kernel
theorem dX11_fromNow_7 : decode cX11_fromNow 7 = .ok (.aload_n 0, 1) := by decide +kernel
theorem dX11_fromNow_8 : decode cX11_fromNow 8 = .ok (.getfield 37, 3) := by decide +kernel
theorem dX11_fromNow_11 : decode cX11_fromNow 11 = .ok (.iload_n 1, 1) := by decide +kernel
theorem dX11_fromNow_12 : decode cX11_fromNow 12 = .ok (.aload_n 0, 1) := by decide +kernel
theorem dX11_fromNow_13 : decode cX11_fromNow 13 = .ok (.getfield 7, 3) := by decide +kernel
theorem dX11_fromNow_16 : decode cX11_fromNow 16 = .ok (.sipush 232, 3) := by decide +kernel
theorem dX11_fromNow_19 : decode cX11_fromNow 19 = .ok (.iload_n 1, 1) := by decide +kernel
theorem dX11_fromNow_20 : decode cX11_fromNow 20 = .ok (.iadd, 1) := by decide +kernel
theorem dX11_fromNow_21 : decode cX11_fromNow 21 = .ok (.iaload, 1) := by decide +kernel
theorem dX11_fromNow_22 : decode cX11_fromNow 22 = .ok (.iastore, 1) := by decide +kernel
theorem dX11_fromNow_23 : decode cX11_fromNow 23 = .ok (.iinc 1 1, 3) := by decide +kernel
theorem dX11_fromNow_26 : decode cX11_fromNow 26 = .ok (.goto (-24), 3) := by decide +kernel
theorem dX11_fromNow_29 : decode cX11_fromNow 29 = .ok (.iconst 0, 1) := by decide +kernel
theorem dX11_fromNow_30 : decode cX11_fromNow 30 = .ok (.istore_n 1, 1) := by decide +kernel
theorem dX11_fromNow_31 : decode cX11_fromNow 31 = .ok (.iload_n 1, 1) := by decide +kernel
theorem dX11_fromNow_32 : decode cX11_fromNow 32 = .ok (.sipush 300, 3) := by decide +kernel
theorem dX11_fromNow_35 : decode cX11_fromNow 35 = .ok (.if_icmp .ge 25, 3) := by decide +kernel
theorem dX11_fromNow_38 : decode cX11_fromNow 38 = .ok (.aload_n 0, 1) := by decide +kernel
theorem dX11_fromNow_39 : decode cX11_fromNow 39 = .ok (.getfield 34, 3) := by decide +kernel
theorem dX11_fromNow_42 : decode cX11_fromNow 42 = .ok (.iload_n 1, 1) := by decide +kernel
theorem dX11_fromNow_43 : decode cX11_fromNow 43 = .ok (.aload_n 0, 1) := by decide +kernel
theorem dX11_fromNow_44 : decode cX11_fromNow 44 = .ok (.getfield 7, 3) := by decide +kernel
theorem dX11_fromNow_47 : decode cX11_fromNow 47 = .ok (.sipush 272, 3) := by decide +kernel
theorem dX11_fromNow_50 : decode cX11_fromNow 50 = .ok (.iload_n 1, 1) := by decide +kernel
theorem dX11_fromNow_51 : decode cX11_fromNow 51 = .ok (.iadd, 1) := by decide +kernel
theorem dX11_fromNow_52 : decode cX11_fromNow 52 = .ok (.iaload, 1) := by decide +kernel
theorem dX11_fromNow_53 : decode cX11_fromNow 53 = .ok (.iastore, 1) := by decide +kernel
theorem dX11_fromNow_54 : decode cX11_fromNow 54 = .ok (.iinc 1 1, 3) := by decide +kernel
theorem dX11_fromNow_57 : decode cX11_fromNow 57 = .ok (.goto (-26), 3) := by decide +kernel
theorem dX11_fromNow_60 : decode cX11_fromNow 60 = .ok (.return_, 1) := by decide +kernel
theorem dX11_toNow_0 : decode cX11_toNow 0 = .ok (.iconst 0, 1) := by decide +kernel
theorem dX11_toNow_1 : decode cX11_toNow 1 = .ok (.istore_n 2, 1) := by decide +kernel
theorem dX11_toNow_2 : decode cX11_toNow 2 = .ok (.iload_n 2, 1) := by decide +kernel
theorem dX11_toNow_3 : decode cX11_toNow 3 = .ok (.iconst 5, 1) := by decide +kernel
theorem dX11_toNow_4 : decode cX11_toNow 4 = .ok (.if_icmp .ge 29, 3) := by decide +kernel
theorem dX11_toNow_7 : decode cX11_toNow 7 = .ok (.aload_n 0, 1) := by decide +kernel
theorem dX11_toNow_8 : decode cX11_toNow 8 = .ok (.getfield 7, 3) := by decide +kernel
theorem dX11_toNow_11 : decode cX11_toNow 11 = .ok (.sipush 232, 3) := by decide +kernel
theorem dX11_toNow_14 : decode cX11_toNow 14 = .ok (.iload_n 2, 1) := by decide +kernel
theorem dX11_toNow_15 : decode cX11_toNow 15 = .ok (.iadd, 1) := by decide +kernel
theorem dX11_toNow_16 : decode cX11_toNow 16 = .ok (.aload_n 0, 1) := by decide +kernel
theorem dX11_toNow_17 : decode cX11_toNow 17 = .ok (.getfield 37, 3) := by decide +kernel
theorem dX11_toNow_20 : decode cX11_toNow 20 = .ok (.iconst 5, 1) := by decide +kernel
theorem dX11_toNow_21 : decode cX11_toNow 21 = .ok (.iload_n 1, 1) := by decide +kernel
theorem dX11_toNow_22 : decode cX11_toNow 22 = .ok (.imul, 1) := by decide +kernel
theorem dX11_toNow_23 : decode cX11_toNow 23 = .ok (.iload_n 2, 1) := by decide +kernel
theorem dX11_toNow_24 : decode cX11_toNow 24 = .ok (.iadd, 1) := by decide +kernel
theorem dX11_toNow_25 : decode cX11_toNow 25 = .ok (.iaload, 1) := by decide +kernel
theorem dX11_toNow_26 : decode cX11_toNow 26 = .ok (.iastore, 1) := by decide +kernel
theorem dX11_toNow_27 : decode cX11_toNow 27 = .ok (.iinc 2 1, 3) := by decide +kernel
theorem dX11_toNow_30 : decode cX11_toNow 30 = .ok (.goto (-28), 3) := by decide +kernel
theorem dX11_toNow_33 : decode cX11_toNow 33 = .ok (.iconst 0, 1) := by decide +kernel
theorem dX11_toNow_34 : decode cX11_toNow 34 = .ok (.istore_n 2, 1) := by decide +kernel
theorem dX11_toNow_35 : decode cX11_toNow 35 = .ok (.iload_n 2, 1) := by decide +kernel
theorem dX11_toNow_36 : decode cX11_toNow 36 = .ok (.sipush 300, 3) := by decide +kernel
theorem dX11_toNow_39 : decode cX11_toNow 39 = .ok (.if_icmp .ge 31, 3) := by decide +kernel
theorem dX11_toNow_42 : decode cX11_toNow 42 = .ok (.aload_n 0, 1) := by decide +kernel
theorem dX11_toNow_43 : decode cX11_toNow 43 = .ok (.getfield 7, 3) := by decide +kernel
theorem dX11_toNow_46 : decode cX11_toNow 46 = .ok (.sipush 272, 3) := by decide +kernel
theorem dX11_toNow_49 : decode cX11_toNow 49 = .ok (.iload_n 2, 1) := by decide +kernel
theorem dX11_toNow_50 : decode cX11_toNow 50 = .ok (.iadd, 1) := by decide +kernel
theorem dX11_toNow_51 : decode cX11_toNow 51 = .ok (.aload_n 0, 1) := by decide +kernel
theorem dX11_toNow_52 : decode cX11_toNow 52 = .ok (.getfield 34, 3) := by decide +kernel
theorem dX11_toNow_55 : decode cX11_toNow 55 = .ok (.sipush 300, 3) := by decide +kernel
theorem dX11_toNow_58 : decode cX11_toNow 58 = .ok (.iload_n 1, 1) := by decide +kernel
theorem dX11_toNow_59 : decode cX11_toNow 59 = .ok (.imul, 1) := by decide +kernel
theorem dX11_toNow_60 : decode cX11_toNow 60 = .ok (.iload_n 2, 1) := by decide +kernel
theorem dX11_toNow_61 : decode cX11_toNow 61 = .ok (.iadd, 1) := by decide +kernel
theorem dX11_toNow_62 : decode cX11_toNow 62 = .ok (.iaload, 1) := by decide +kernel
theorem dX11_toNow_63 : decode cX11_toNow 63 = .ok (.iastore, 1) := by decide +kernel
theorem dX11_toNow_64 : decode cX11_toNow 64 = .ok (.iinc 2 1, 3) := by decide +kernel
theorem dX11_toNow_67 : decode cX11_toNow 67 = .ok (.goto (-32), 3) := by decide +kernel
theorem dX11_toNow_70 : decode cX11_toNow 70 = .ok (.return_, 1) := by decide +kernel
theorem dX11_isFirst_0 : decode cX11_isFirst 0 = .ok (.iconst 0, 1) := by decide +kernel
theorem dX11_isFirst_1 : decode cX11_isFirst 1 = .ok (.istore_n 3, 1) := by decide +kernel
theorem dX11_isFirst_2 : decode cX11_isFirst 2 = .ok (.iload_n 3, 1) := by decide +kernel
theorem dX11_isFirst_3 : decode cX11_isFirst 3 = .ok (.iload_n 2, 1) := by decide +kernel
theorem dX11_isFirst_4 : decode cX11_isFirst 4 = .ok (.if_icmp .ge 44, 3) := by decide +kernel
theorem dX11_isFirst_7 : decode cX11_isFirst 7 = .ok (.aload_n 0, 1) := by decide +kernel
theorem dX11_isFirst_8 : decode cX11_isFirst 8 = .ok (.getfield 37, 3) := by decide +kernel
theorem dX11_isFirst_11 : decode cX11_isFirst 11 = .ok (.iconst 5, 1) := by decide +kernel
theorem dX11_isFirst_12 : decode cX11_isFirst 12 = .ok (.iload_n 1, 1) := by decide +kernel
theorem dX11_isFirst_13 : decode cX11_isFirst 13 = .ok (.imul, 1) := by decide +kernel
theorem dX11_isFirst_14 : decode cX11_isFirst 14 = .ok (.iload_n 3, 1) := by decide +kernel
theorem dX11_isFirst_15 : decode cX11_isFirst 15 = .ok (.iadd, 1) := by decide +kernel
theorem dX11_isFirst_16 : decode cX11_isFirst 16 = .ok (.iaload, 1) := by decide +kernel
theorem dX11_isFirst_17 : decode cX11_isFirst 17 = .ok (.iconst 1, 1) := by decide +kernel
theorem dX11_isFirst_18 : decode cX11_isFirst 18 = .ok (.if_icmp .ne 22, 3) := by decide +kernel
theorem dX11_isFirst_21 : decode cX11_isFirst 21 = .ok (.aload_n 0, 1) := by decide +kernel
theorem dX11_isFirst_22 : decode cX11_isFirst 22 = .ok (.getfield 34, 3) := by decide +kernel
theorem dX11_isFirst_25 : decode cX11_isFirst 25 = .ok (.sipush 300, 3) := by decide +kernel
theorem dX11_isFirst_28 : decode cX11_isFirst 28 = .ok (.iload_n 1, 1) := by decide +kernel
theorem dX11_isFirst_29 : decode cX11_isFirst 29 = .ok (.imul, 1) := by decide +kernel
theorem dX11_isFirst_30 : decode cX11_isFirst 30 = .ok (.bipush 60, 2) := by decide +kernel
theorem dX11_isFirst_32 : decode cX11_isFirst 32 = .ok (.iload_n 3, 1) := by decide +kernel
theorem dX11_isFirst_33 : decode cX11_isFirst 33 = .ok (.imul, 1) := by decide +kernel
theorem dX11_isFirst_34 : decode cX11_isFirst 34 = .ok (.iadd, 1) := by decide +kernel
theorem dX11_isFirst_35 : decode cX11_isFirst 35 = .ok (.iaload, 1) := by decide +kernel
theorem dX11_isFirst_36 : decode cX11_isFirst 36 = .ok (.iload_n 3, 1) := by decide +kernel
theorem dX11_isFirst_37 : decode cX11_isFirst 37 = .ok (.if_icmp .eq 5, 3) := by decide +kernel
theorem dX11_isFirst_40 : decode cX11_isFirst 40 = .ok (.iconst 0, 1) := by decide +kernel
theorem dX11_isFirst_41 : decode cX11_isFirst 41 = .ok (.ireturn, 1) := by decide +kernel
theorem dX11_isFirst_42 : decode cX11_isFirst 42 = .ok (.iinc 3 1, 3) := by decide +kernel
theorem dX11_isFirst_45 : decode cX11_isFirst 45 = .ok (.goto (-43), 3) := by decide +kernel
theorem dX11_isFirst_48 : decode cX11_isFirst 48 = .ok (.iconst 1, 1) := by decide +kernel
theorem dX11_isFirst_49 : decode cX11_isFirst 49 = .ok (.ireturn, 1) := by decide +kernel
theorem dX11_begin_0 : decode cX11_begin 0 = .ok (.aload_n 0, 1) := by decide +kernel
theorem dX11_begin_1 : decode cX11_begin 1 = .ok (.getfield 7, 3) := by decide +kernel
theorem dX11_begin_4 : decode cX11_begin 4 = .ok (.iconst 1, 1) := by decide +kernel
theorem dX11_begin_5 : decode cX11_begin 5 = .ok (.iload_n 1, 1) := by decide +kernel
theorem dX11_begin_6 : decode cX11_begin 6 = .ok (.iastore, 1) := by decide +kernel
theorem dX11_begin_7 : decode cX11_begin 7 = .ok (.aload_n 0, 1) := by decide +kernel
theorem dX11_begin_8 : decode cX11_begin 8 = .ok (.getfield 7, 3) := by decide +kernel
theorem dX11_begin_11 : decode cX11_begin 11 = .ok (.iconst 2, 1) := by decide +kernel
theorem dX11_begin_12 : decode cX11_begin 12 = .ok (.iconst 0, 1) := by decide +kernel
theorem dX11_begin_13 : decode cX11_begin 13 = .ok (.iastore, 1) := by decide +kernel
theorem dX11_begin_14 : decode cX11_begin 14 = .ok (.iconst 0, 1) := by decide +kernel
theorem dX11_begin_15 : decode cX11_begin 15 = .ok (.istore_n 2, 1) := by decide +kernel
theorem dX11_begin_16 : decode cX11_begin 16 = .ok (.iload_n 2, 1) := by decide +kernel
theorem dX11_begin_17 : decode cX11_begin 17 = .ok (.iconst 5, 1) := by decide +kernel
theorem dX11_begin_18 : decode cX11_begin 18 = .ok (.if_icmp .ge 42, 3) := by decide +kernel
theorem dX11_begin_21 : decode cX11_begin 21 = .ok (.aload_n 0, 1) := by decide +kernel
theorem dX11_begin_22 : decode cX11_begin 22 = .ok (.getfield 7, 3) := by decide +kernel
theorem dX11_begin_25 : decode cX11_begin 25 = .ok (.sipush 227, 3) := by decide +kernel
theorem dX11_begin_28 : decode cX11_begin 28 = .ok (.iload_n 2, 1) := by decide +kernel
theorem dX11_begin_29 : decode cX11_begin 29 = .ok (.iadd, 1) := by decide +kernel
theorem dX11_begin_30 : decode cX11_begin 30 = .ok (.iload_n 2, 1) := by decide +kernel
theorem dX11_begin_31 : decode cX11_begin 31 = .ok (.iastore, 1) := by decide +kernel
theorem dX11_begin_32 : decode cX11_begin 32 = .ok (.aload_n 0, 1) := by decide +kernel
theorem dX11_begin_33 : decode cX11_begin 33 = .ok (.getfield 7, 3) := by decide +kernel
theorem dX11_begin_36 : decode cX11_begin 36 = .ok (.sipush 237, 3) := by decide +kernel
theorem dX11_begin_39 : decode cX11_begin 39 = .ok (.iload_n 2, 1) := by decide +kernel
theorem dX11_begin_40 : decode cX11_begin 40 = .ok (.iadd, 1) := by decide +kernel
theorem dX11_begin_41 : decode cX11_begin 41 = .ok (.iconst 0, 1) := by decide +kernel
theorem dX11_begin_42 : decode cX11_begin 42 = .ok (.iastore, 1) := by decide +kernel
theorem dX11_begin_43 : decode cX11_begin 43 = .ok (.aload_n 0, 1) := by decide +kernel
theorem dX11_begin_44 : decode cX11_begin 44 = .ok (.getfield 7, 3) := by decide +kernel
theorem dX11_begin_47 : decode cX11_begin 47 = .ok (.sipush 242, 3) := by decide +kernel
theorem dX11_begin_50 : decode cX11_begin 50 = .ok (.iload_n 2, 1) := by decide +kernel
theorem dX11_begin_51 : decode cX11_begin 51 = .ok (.iadd, 1) := by decide +kernel
theorem dX11_begin_52 : decode cX11_begin 52 = .ok (.iconst 0, 1) := by decide +kernel
theorem dX11_begin_53 : decode cX11_begin 53 = .ok (.iastore, 1) := by decide +kernel
theorem dX11_begin_54 : decode cX11_begin 54 = .ok (.iinc 2 1, 3) := by decide +kernel
theorem dX11_begin_57 : decode cX11_begin 57 = .ok (.goto (-41), 3) := by decide +kernel
theorem dX11_begin_60 : decode cX11_begin 60 = .ok (.iconst 0, 1) := by decide +kernel
theorem dX11_begin_61 : decode cX11_begin 61 = .ok (.istore_n 2, 1) := by decide +kernel
theorem dX11_begin_62 : decode cX11_begin 62 = .ok (.iload_n 2, 1) := by decide +kernel
theorem dX11_begin_63 : decode cX11_begin 63 = .ok (.bipush 25, 2) := by decide +kernel
theorem dX11_begin_65 : decode cX11_begin 65 = .ok (.if_icmp .ge 20, 3) := by decide +kernel
theorem dX11_begin_68 : decode cX11_begin 68 = .ok (.aload_n 0, 1) := by decide +kernel
theorem dX11_begin_69 : decode cX11_begin 69 = .ok (.getfield 7, 3) := by decide +kernel
theorem dX11_begin_72 : decode cX11_begin 72 = .ok (.sipush 247, 3) := by decide +kernel
theorem dX11_begin_75 : decode cX11_begin 75 = .ok (.iload_n 2, 1) := by decide +kernel
theorem dX11_begin_76 : decode cX11_begin 76 = .ok (.iadd, 1) := by decide +kernel
theorem dX11_begin_77 : decode cX11_begin 77 = .ok (.iconst 0, 1) := by decide +kernel
theorem dX11_begin_78 : decode cX11_begin 78 = .ok (.iastore, 1) := by decide +kernel
theorem dX11_begin_79 : decode cX11_begin 79 = .ok (.iinc 2 1, 3) := by decide +kernel
theorem dX11_begin_82 : decode cX11_begin 82 = .ok (.goto (-20), 3) := by decide +kernel
theorem dX11_begin_85 : decode cX11_begin 85 = .ok (.aload_n 0, 1) := by decide +kernel
theorem dX11_begin_86 : decode cX11_begin 86 = .ok (.iconst 1, 1) := by decide +kernel
theorem dX11_begin_87 : decode cX11_begin 87 = .ok (.invokevirtual 132, 3) := by decide +kernel
theorem dX11_begin_90 : decode cX11_begin 90 = .ok (.aload_n 0, 1) := by decide +kernel
theorem dX11_begin_91 : decode cX11_begin 91 = .ok (.iconst 1, 1) := by decide +kernel
theorem dX11_begin_92 : decode cX11_begin 92 = .ok (.invokevirtual 135, 3) := by decide +kernel
theorem dX11_begin_95 : decode cX11_begin 95 = .ok (.return_, 1) := by decide +kernel
theorem dX11_row_0 : decode cX11_row 0 = .ok (.iload_n 1, 1) := by decide +kernel
theorem dX11_row_1 : decode cX11_row 1 = .ok (.iconst 2, 1) := by decide +kernel
theorem dX11_row_2 : decode cX11_row 2 = .ok (.iconst 5, 1) := by decide +kernel
theorem dX11_row_3 : decode cX11_row 3 = .ok (.invokestatic 68, 3) := by decide +kernel
theorem dX11_row_6 : decode cX11_row 6 = .ok (.ifCond .ne 10, 3) := by decide +kernel
theorem dX11_row_9 : decode cX11_row 9 = .ok (.aload_n 0, 1) := by decide +kernel
theorem dX11_row_10 : decode cX11_row 10 = .ok (.ldc 76, 2) := by decide +kernel
theorem dX11_row_12 : decode cX11_row 12 = .ok (.invokevirtual 64, 3) := by decide +kernel
theorem dX11_row_15 : decode cX11_row 15 = .ok (.ireturn, 1) := by decide +kernel
theorem dX11_row_16 : decode cX11_row 16 = .ok (.aload_n 0, 1) := by decide +kernel
theorem dX11_row_17 : decode cX11_row 17 = .ok (.invokevirtual 79, 3) := by decide +kernel
theorem dX11_row_20 : decode cX11_row 20 = .ok (.aload_n 0, 1) := by decide +kernel
theorem dX11_row_21 : decode cX11_row 21 = .ok (.getfield 7, 3) := by decide +kernel
theorem dX11_row_24 : decode cX11_row 24 = .ok (.iconst 2, 1) := by decide +kernel
theorem dX11_row_25 : decode cX11_row 25 = .ok (.iaload, 1) := by decide +kernel
theorem dX11_row_26 : decode cX11_row 26 = .ok (.istore_n 2, 1) := by decide +kernel
theorem dX11_row_27 : decode cX11_row 27 = .ok (.aload_n 0, 1) := by decide +kernel
theorem dX11_row_28 : decode cX11_row 28 = .ok (.iload_n 1, 1) := by decide +kernel
theorem dX11_row_29 : decode cX11_row 29 = .ok (.invokevirtual 49, 3) := by decide +kernel
theorem dX11_row_32 : decode cX11_row 32 = .ok (.iload_n 2, 1) := by decide +kernel
theorem dX11_row_33 : decode cX11_row 33 = .ok (.ireturn, 1) := by decide +kernel
theorem dX11_isPlace_0 : decode cX11_isPlace 0 = .ok (.iload_n 1, 1) := by decide +kernel
theorem dX11_isPlace_1 : decode cX11_isPlace 1 = .ok (.iconst 0, 1) := by decide +kernel
theorem dX11_isPlace_2 : decode cX11_isPlace 2 = .ok (.aload_n 0, 1) := by decide +kernel
theorem dX11_isPlace_3 : decode cX11_isPlace 3 = .ok (.getfield 7, 3) := by decide +kernel
theorem dX11_isPlace_6 : decode cX11_isPlace 6 = .ok (.iconst 1, 1) := by decide +kernel
theorem dX11_isPlace_7 : decode cX11_isPlace 7 = .ok (.iaload, 1) := by decide +kernel
theorem dX11_isPlace_8 : decode cX11_isPlace 8 = .ok (.iconst 1, 1) := by decide +kernel
theorem dX11_isPlace_9 : decode cX11_isPlace 9 = .ok (.isub, 1) := by decide +kernel
theorem dX11_isPlace_10 : decode cX11_isPlace 10 = .ok (.invokestatic 68, 3) := by decide +kernel
theorem dX11_isPlace_13 : decode cX11_isPlace 13 = .ok (.ireturn, 1) := by decide +kernel
theorem dX11_isLost_0 : decode cX11_isLost 0 = .ok (.aload_n 0, 1) := by decide +kernel
theorem dX11_isLost_1 : decode cX11_isLost 1 = .ok (.getfield 7, 3) := by decide +kernel
theorem dX11_isLost_4 : decode cX11_isLost 4 = .ok (.sipush 237, 3) := by decide +kernel
theorem dX11_isLost_7 : decode cX11_isLost 7 = .ok (.iload_n 1, 1) := by decide +kernel
theorem dX11_isLost_8 : decode cX11_isLost 8 = .ok (.iadd, 1) := by decide +kernel
theorem dX11_isLost_9 : decode cX11_isLost 9 = .ok (.iaload, 1) := by decide +kernel
theorem dX11_isLost_10 : decode cX11_isLost 10 = .ok (.bipush 20, 2) := by decide +kernel
theorem dX11_isLost_12 : decode cX11_isLost 12 = .ok (.if_icmp .lt 7, 3) := by decide +kernel
theorem dX11_isLost_15 : decode cX11_isLost 15 = .ok (.iconst 1, 1) := by decide +kernel
theorem dX11_isLost_16 : decode cX11_isLost 16 = .ok (.goto 4, 3) := by decide +kernel
theorem dX11_isLost_19 : decode cX11_isLost 19 = .ok (.iconst 0, 1) := by decide +kernel
theorem dX11_isLost_20 : decode cX11_isLost 20 = .ok (.ireturn, 1) := by decide +kernel
theorem dX11_wears_0 : decode cX11_wears 0 = .ok (.aload_n 0, 1) := by decide +kernel
theorem dX11_wears_1 : decode cX11_wears 1 = .ok (.iload_n 1, 1) := by decide +kernel
theorem dX11_wears_2 : decode cX11_wears 2 = .ok (.invokevirtual 82, 3) := by decide +kernel
theorem dX11_wears_5 : decode cX11_wears 5 = .ok (.ifCond .eq 28, 3) := by decide +kernel
theorem dX11_wears_8 : decode cX11_wears 8 = .ok (.aload_n 0, 1) := by decide +kernel
theorem dX11_wears_9 : decode cX11_wears 9 = .ok (.iload_n 1, 1) := by decide +kernel
theorem dX11_wears_10 : decode cX11_wears 10 = .ok (.iconst 0, 1) := by decide +kernel
theorem dX11_wears_11 : decode cX11_wears 11 = .ok (.invokevirtual 85, 3) := by decide +kernel
theorem dX11_wears_14 : decode cX11_wears 14 = .ok (.iconst 3, 1) := by decide +kernel
theorem dX11_wears_15 : decode cX11_wears 15 = .ok (.if_icmp .ne 18, 3) := by decide +kernel
theorem dX11_wears_18 : decode cX11_wears 18 = .ok (.iconst 2, 1) := by decide +kernel
theorem dX11_wears_19 : decode cX11_wears 19 = .ok (.aload_n 0, 1) := by decide +kernel
theorem dX11_wears_20 : decode cX11_wears 20 = .ok (.getfield 7, 3) := by decide +kernel
theorem dX11_wears_23 : decode cX11_wears 23 = .ok (.sipush 242, 3) := by decide +kernel
theorem dX11_wears_26 : decode cX11_wears 26 = .ok (.iload_n 1, 1) := by decide +kernel
theorem dX11_wears_27 : decode cX11_wears 27 = .ok (.iadd, 1) := by decide +kernel
theorem dX11_wears_28 : decode cX11_wears 28 = .ok (.iaload, 1) := by decide +kernel
theorem dX11_wears_29 : decode cX11_wears 29 = .ok (.imul, 1) := by decide +kernel
theorem dX11_wears_30 : decode cX11_wears 30 = .ok (.goto 13, 3) := by decide +kernel
theorem dX11_wears_33 : decode cX11_wears 33 = .ok (.aload_n 0, 1) := by decide +kernel
theorem dX11_wears_34 : decode cX11_wears 34 = .ok (.getfield 7, 3) := by decide +kernel
theorem dX11_wears_37 : decode cX11_wears 37 = .ok (.sipush 242, 3) := by decide +kernel
theorem dX11_wears_40 : decode cX11_wears 40 = .ok (.iload_n 1, 1) := by decide +kernel
theorem dX11_wears_41 : decode cX11_wears 41 = .ok (.iadd, 1) := by decide +kernel
theorem dX11_wears_42 : decode cX11_wears 42 = .ok (.iaload, 1) := by decide +kernel
theorem dX11_wears_43 : decode cX11_wears 43 = .ok (.ireturn, 1) := by decide +kernel
theorem dX11_walk_0 : decode cX11_walk 0 = .ok (.iload_n 1, 1) := by decide +kernel
theorem dX11_walk_1 : decode cX11_walk 1 = .ok (.iconst 0, 1) := by decide +kernel
theorem dX11_walk_2 : decode cX11_walk 2 = .ok (.aload_n 0, 1) := by decide +kernel
theorem dX11_walk_3 : decode cX11_walk 3 = .ok (.getfield 7, 3) := by decide +kernel
theorem dX11_walk_6 : decode cX11_walk 6 = .ok (.iconst 1, 1) := by decide +kernel
theorem dX11_walk_7 : decode cX11_walk 7 = .ok (.iaload, 1) := by decide +kernel
theorem dX11_walk_8 : decode cX11_walk 8 = .ok (.iconst 2, 1) := by decide +kernel
theorem dX11_walk_9 : decode cX11_walk 9 = .ok (.isub, 1) := by decide +kernel
theorem dX11_walk_10 : decode cX11_walk 10 = .ok (.invokestatic 68, 3) := by decide +kernel
theorem dX11_walk_13 : decode cX11_walk 13 = .ok (.ifCond .ne 10, 3) := by decide +kernel
theorem dX11_walk_16 : decode cX11_walk 16 = .ok (.aload_n 0, 1) := by decide +kernel
theorem dX11_walk_17 : decode cX11_walk 17 = .ok (.ldc 76, 2) := by decide +kernel
theorem dX11_walk_19 : decode cX11_walk 19 = .ok (.invokevirtual 64, 3) := by decide +kernel
theorem dX11_walk_22 : decode cX11_walk 22 = .ok (.ireturn, 1) := by decide +kernel
theorem dX11_walk_23 : decode cX11_walk 23 = .ok (.aload_n 0, 1) := by decide +kernel
theorem dX11_walk_24 : decode cX11_walk 24 = .ok (.getfield 7, 3) := by decide +kernel
theorem dX11_walk_27 : decode cX11_walk 27 = .ok (.sipush 227, 3) := by decide +kernel
theorem dX11_walk_30 : decode cX11_walk 30 = .ok (.iload_n 1, 1) := by decide +kernel
theorem dX11_walk_31 : decode cX11_walk 31 = .ok (.iadd, 1) := by decide +kernel
theorem dX11_walk_32 : decode cX11_walk 32 = .ok (.iaload, 1) := by decide +kernel
theorem dX11_walk_33 : decode cX11_walk 33 = .ok (.istore_n 3, 1) := by decide +kernel
theorem dX11_walk_34 : decode cX11_walk 34 = .ok (.aload_n 0, 1) := by decide +kernel
theorem dX11_walk_35 : decode cX11_walk 35 = .ok (.getfield 7, 3) := by decide +kernel
theorem dX11_walk_38 : decode cX11_walk 38 = .ok (.sipush 227, 3) := by decide +kernel
theorem dX11_walk_41 : decode cX11_walk 41 = .ok (.iload_n 1, 1) := by decide +kernel
theorem dX11_walk_42 : decode cX11_walk 42 = .ok (.iadd, 1) := by decide +kernel
theorem dX11_walk_43 : decode cX11_walk 43 = .ok (.iconst 1, 1) := by decide +kernel
theorem dX11_walk_44 : decode cX11_walk 44 = .ok (.iadd, 1) := by decide +kernel
theorem dX11_walk_45 : decode cX11_walk 45 = .ok (.iaload, 1) := by decide +kernel
theorem dX11_walk_46 : decode cX11_walk 46 = .ok (.istore 4, 2) := by decide +kernel
theorem dX11_walk_48 : decode cX11_walk 48 = .ok (.aload_n 0, 1) := by decide +kernel
theorem dX11_walk_49 : decode cX11_walk 49 = .ok (.iload_n 3, 1) := by decide +kernel
theorem dX11_walk_50 : decode cX11_walk 50 = .ok (.invokevirtual 138, 3) := by decide +kernel
theorem dX11_walk_53 : decode cX11_walk 53 = .ok (.ifCond .ne 12, 3) := by decide +kernel
theorem dX11_walk_56 : decode cX11_walk 56 = .ok (.aload_n 0, 1) := by decide +kernel
theorem dX11_walk_57 : decode cX11_walk 57 = .ok (.iload 4, 2) := by decide +kernel
theorem dX11_walk_59 : decode cX11_walk 59 = .ok (.invokevirtual 138, 3) := by decide +kernel
theorem dX11_walk_62 : decode cX11_walk 62 = .ok (.ifCond .eq 10, 3) := by decide +kernel
theorem dX11_walk_65 : decode cX11_walk 65 = .ok (.aload_n 0, 1) := by decide +kernel
theorem dX11_walk_66 : decode cX11_walk 66 = .ok (.ldc 141, 2) := by decide +kernel
theorem dX11_walk_68 : decode cX11_walk 68 = .ok (.invokevirtual 64, 3) := by decide +kernel
theorem dX11_walk_71 : decode cX11_walk 71 = .ok (.ireturn, 1) := by decide +kernel
theorem dX11_walk_72 : decode cX11_walk 72 = .ok (.aload_n 0, 1) := by decide +kernel
theorem dX11_walk_73 : decode cX11_walk 73 = .ok (.invokevirtual 142, 3) := by decide +kernel
theorem dX11_walk_76 : decode cX11_walk 76 = .ok (.aload_n 0, 1) := by decide +kernel
theorem dX11_walk_77 : decode cX11_walk 77 = .ok (.iconst 0, 1) := by decide +kernel
theorem dX11_walk_78 : decode cX11_walk 78 = .ok (.iconst 1, 1) := by decide +kernel
theorem dX11_walk_79 : decode cX11_walk 79 = .ok (.aload_n 0, 1) := by decide +kernel
theorem dX11_walk_80 : decode cX11_walk 80 = .ok (.getfield 7, 3) := by decide +kernel
theorem dX11_walk_83 : decode cX11_walk 83 = .ok (.iconst 1, 1) := by decide +kernel
theorem dX11_walk_84 : decode cX11_walk 84 = .ok (.iaload, 1) := by decide +kernel
theorem dX11_walk_85 : decode cX11_walk 85 = .ok (.iload_n 1, 1) := by decide +kernel
theorem dX11_walk_86 : decode cX11_walk 86 = .ok (.iload_n 2, 1) := by decide +kernel
theorem dX11_walk_87 : decode cX11_walk 87 = .ok (.invokevirtual 145, 3) := by decide +kernel
theorem dX11_walk_90 : decode cX11_walk 90 = .ok (.ifCond .ne 10, 3) := by decide +kernel
theorem dX11_walk_93 : decode cX11_walk 93 = .ok (.aload_n 0, 1) := by decide +kernel
theorem dX11_walk_94 : decode cX11_walk 94 = .ok (.ldc 78, 2) := by decide +kernel
theorem dX11_walk_96 : decode cX11_walk 96 = .ok (.invokevirtual 64, 3) := by decide +kernel
theorem dX11_walk_99 : decode cX11_walk 99 = .ok (.ireturn, 1) := by decide +kernel
theorem dX11_walk_100 : decode cX11_walk 100 = .ok (.aload_n 0, 1) := by decide +kernel
theorem dX11_walk_101 : decode cX11_walk 101 = .ok (.getfield 7, 3) := by decide +kernel
theorem dX11_walk_104 : decode cX11_walk 104 = .ok (.iconst 1, 1) := by decide +kernel
theorem dX11_walk_105 : decode cX11_walk 105 = .ok (.iaload, 1) := by decide +kernel
theorem dX11_walk_106 : decode cX11_walk 106 = .ok (.istore 5, 2) := by decide +kernel
theorem dX11_walk_108 : decode cX11_walk 108 = .ok (.iload 5, 2) := by decide +kernel
theorem dX11_walk_110 : decode cX11_walk 110 = .ok (.iconst 5, 1) := by decide +kernel
theorem dX11_walk_111 : decode cX11_walk 111 = .ok (.if_icmp .ge 19, 3) := by decide +kernel
theorem dX11_walk_114 : decode cX11_walk 114 = .ok (.aload_n 0, 1) := by decide +kernel
theorem dX11_walk_115 : decode cX11_walk 115 = .ok (.getfield 37, 3) := by decide +kernel
theorem dX11_walk_118 : decode cX11_walk 118 = .ok (.iconst 5, 1) := by decide +kernel
theorem dX11_walk_119 : decode cX11_walk 119 = .ok (.iload 5, 2) := by decide +kernel
theorem dX11_walk_121 : decode cX11_walk 121 = .ok (.iadd, 1) := by decide +kernel
theorem dX11_walk_122 : decode cX11_walk 122 = .ok (.iconst 1, 1) := by decide +kernel
theorem dX11_walk_123 : decode cX11_walk 123 = .ok (.iastore, 1) := by decide +kernel
theorem dX11_walk_124 : decode cX11_walk 124 = .ok (.iinc 5 1, 3) := by decide +kernel
theorem dX11_walk_127 : decode cX11_walk 127 = .ok (.goto (-19), 3) := by decide +kernel
theorem dX11_walk_130 : decode cX11_walk 130 = .ok (.aload_n 0, 1) := by decide +kernel
theorem dX11_walk_131 : decode cX11_walk 131 = .ok (.invokevirtual 79, 3) := by decide +kernel
theorem dX11_walk_134 : decode cX11_walk 134 = .ok (.aload_n 0, 1) := by decide +kernel
theorem dX11_walk_135 : decode cX11_walk 135 = .ok (.iconst 1, 1) := by decide +kernel
theorem dX11_walk_136 : decode cX11_walk 136 = .ok (.invokevirtual 135, 3) := by decide +kernel
theorem dX11_walk_139 : decode cX11_walk 139 = .ok (.aload_n 0, 1) := by decide +kernel
theorem dX11_walk_140 : decode cX11_walk 140 = .ok (.getfield 7, 3) := by decide +kernel
theorem dX11_walk_143 : decode cX11_walk 143 = .ok (.sipush 227, 3) := by decide +kernel
theorem dX11_walk_146 : decode cX11_walk 146 = .ok (.iload_n 1, 1) := by decide +kernel
theorem dX11_walk_147 : decode cX11_walk 147 = .ok (.iadd, 1) := by decide +kernel
theorem dX11_walk_148 : decode cX11_walk 148 = .ok (.iload 4, 2) := by decide +kernel
theorem dX11_walk_150 : decode cX11_walk 150 = .ok (.iastore, 1) := by decide +kernel
theorem dX11_walk_151 : decode cX11_walk 151 = .ok (.aload_n 0, 1) := by decide +kernel
theorem dX11_walk_152 : decode cX11_walk 152 = .ok (.getfield 7, 3) := by decide +kernel
theorem dX11_walk_155 : decode cX11_walk 155 = .ok (.sipush 227, 3) := by decide +kernel
theorem dX11_walk_158 : decode cX11_walk 158 = .ok (.iload_n 1, 1) := by decide +kernel
theorem dX11_walk_159 : decode cX11_walk 159 = .ok (.iadd, 1) := by decide +kernel
theorem dX11_walk_160 : decode cX11_walk 160 = .ok (.iconst 1, 1) := by decide +kernel
theorem dX11_walk_161 : decode cX11_walk 161 = .ok (.iadd, 1) := by decide +kernel
theorem dX11_walk_162 : decode cX11_walk 162 = .ok (.iload_n 3, 1) := by decide +kernel
theorem dX11_walk_163 : decode cX11_walk 163 = .ok (.iastore, 1) := by decide +kernel
theorem dX11_walk_164 : decode cX11_walk 164 = .ok (.aload_n 0, 1) := by decide +kernel
theorem dX11_walk_165 : decode cX11_walk 165 = .ok (.getfield 7, 3) := by decide +kernel
theorem dX11_walk_168 : decode cX11_walk 168 = .ok (.iconst 2, 1) := by decide +kernel
theorem dX11_walk_169 : decode cX11_walk 169 = .ok (.dup2, 1) := by decide +kernel
theorem dX11_walk_170 : decode cX11_walk 170 = .ok (.iaload, 1) := by decide +kernel
theorem dX11_walk_171 : decode cX11_walk 171 = .ok (.iconst 1, 1) := by decide +kernel
theorem dX11_walk_172 : decode cX11_walk 172 = .ok (.iadd, 1) := by decide +kernel
theorem dX11_walk_173 : decode cX11_walk 173 = .ok (.iastore, 1) := by decide +kernel
theorem dX11_walk_174 : decode cX11_walk 174 = .ok (.aload_n 0, 1) := by decide +kernel
theorem dX11_walk_175 : decode cX11_walk 175 = .ok (.getfield 7, 3) := by decide +kernel
theorem dX11_walk_178 : decode cX11_walk 178 = .ok (.sipush 247, 3) := by decide +kernel
theorem dX11_walk_181 : decode cX11_walk 181 = .ok (.iconst 5, 1) := by decide +kernel
theorem dX11_walk_182 : decode cX11_walk 182 = .ok (.iload_n 3, 1) := by decide +kernel
theorem dX11_walk_183 : decode cX11_walk 183 = .ok (.imul, 1) := by decide +kernel
theorem dX11_walk_184 : decode cX11_walk 184 = .ok (.iadd, 1) := by decide +kernel
theorem dX11_walk_185 : decode cX11_walk 185 = .ok (.iload 4, 2) := by decide +kernel
theorem dX11_walk_187 : decode cX11_walk 187 = .ok (.iadd, 1) := by decide +kernel
theorem dX11_walk_188 : decode cX11_walk 188 = .ok (.dup2, 1) := by decide +kernel
theorem dX11_walk_189 : decode cX11_walk 189 = .ok (.iaload, 1) := by decide +kernel
theorem dX11_walk_190 : decode cX11_walk 190 = .ok (.iload_n 2, 1) := by decide +kernel
theorem dX11_walk_191 : decode cX11_walk 191 = .ok (.ifCond .eq 7, 3) := by decide +kernel
theorem dX11_walk_194 : decode cX11_walk 194 = .ok (.iconst 1, 1) := by decide +kernel
theorem dX11_walk_195 : decode cX11_walk 195 = .ok (.goto 4, 3) := by decide +kernel
theorem dX11_walk_198 : decode cX11_walk 198 = .ok (.iconst (-1), 1) := by decide +kernel
theorem dX11_walk_199 : decode cX11_walk 199 = .ok (.iadd, 1) := by decide +kernel
theorem dX11_walk_200 : decode cX11_walk 200 = .ok (.iastore, 1) := by decide +kernel
theorem dX11_walk_201 : decode cX11_walk 201 = .ok (.aload_n 0, 1) := by decide +kernel
theorem dX11_walk_202 : decode cX11_walk 202 = .ok (.getfield 7, 3) := by decide +kernel
theorem dX11_walk_205 : decode cX11_walk 205 = .ok (.sipush 247, 3) := by decide +kernel
theorem dX11_walk_208 : decode cX11_walk 208 = .ok (.iconst 5, 1) := by decide +kernel
theorem dX11_walk_209 : decode cX11_walk 209 = .ok (.iload 4, 2) := by decide +kernel
theorem dX11_walk_211 : decode cX11_walk 211 = .ok (.imul, 1) := by decide +kernel
theorem dX11_walk_212 : decode cX11_walk 212 = .ok (.iadd, 1) := by decide +kernel
theorem dX11_walk_213 : decode cX11_walk 213 = .ok (.iload_n 3, 1) := by decide +kernel
theorem dX11_walk_214 : decode cX11_walk 214 = .ok (.iadd, 1) := by decide +kernel
theorem dX11_walk_215 : decode cX11_walk 215 = .ok (.dup2, 1) := by decide +kernel
theorem dX11_walk_216 : decode cX11_walk 216 = .ok (.iaload, 1) := by decide +kernel
theorem dX11_walk_217 : decode cX11_walk 217 = .ok (.iload_n 2, 1) := by decide +kernel
theorem dX11_walk_218 : decode cX11_walk 218 = .ok (.ifCond .eq 7, 3) := by decide +kernel
theorem dX11_walk_221 : decode cX11_walk 221 = .ok (.iconst 1, 1) := by decide +kernel
theorem dX11_walk_222 : decode cX11_walk 222 = .ok (.goto 4, 3) := by decide +kernel
theorem dX11_walk_225 : decode cX11_walk 225 = .ok (.iconst (-1), 1) := by decide +kernel
theorem dX11_walk_226 : decode cX11_walk 226 = .ok (.iadd, 1) := by decide +kernel
theorem dX11_walk_227 : decode cX11_walk 227 = .ok (.iastore, 1) := by decide +kernel
theorem dX11_walk_228 : decode cX11_walk 228 = .ok (.aload_n 0, 1) := by decide +kernel
theorem dX11_walk_229 : decode cX11_walk 229 = .ok (.iload 4, 2) := by decide +kernel
theorem dX11_walk_231 : decode cX11_walk 231 = .ok (.invokevirtual 149, 3) := by decide +kernel
theorem dX11_walk_234 : decode cX11_walk 234 = .ok (.istore 5, 2) := by decide +kernel
theorem dX11_walk_236 : decode cX11_walk 236 = .ok (.aload_n 0, 1) := by decide +kernel
theorem dX11_walk_237 : decode cX11_walk 237 = .ok (.getfield 7, 3) := by decide +kernel
theorem dX11_walk_240 : decode cX11_walk 240 = .ok (.sipush 237, 3) := by decide +kernel
theorem dX11_walk_243 : decode cX11_walk 243 = .ok (.iload 4, 2) := by decide +kernel
theorem dX11_walk_245 : decode cX11_walk 245 = .ok (.iadd, 1) := by decide +kernel
theorem dX11_walk_246 : decode cX11_walk 246 = .ok (.dup2, 1) := by decide +kernel
theorem dX11_walk_247 : decode cX11_walk 247 = .ok (.iaload, 1) := by decide +kernel
theorem dX11_walk_248 : decode cX11_walk 248 = .ok (.aload_n 0, 1) := by decide +kernel
theorem dX11_walk_249 : decode cX11_walk 249 = .ok (.iload_n 3, 1) := by decide +kernel
theorem dX11_walk_250 : decode cX11_walk 250 = .ok (.invokevirtual 149, 3) := by decide +kernel
theorem dX11_walk_253 : decode cX11_walk 253 = .ok (.iadd, 1) := by decide +kernel
theorem dX11_walk_254 : decode cX11_walk 254 = .ok (.iastore, 1) := by decide +kernel
theorem dX11_walk_255 : decode cX11_walk 255 = .ok (.aload_n 0, 1) := by decide +kernel
theorem dX11_walk_256 : decode cX11_walk 256 = .ok (.getfield 7, 3) := by decide +kernel
theorem dX11_walk_259 : decode cX11_walk 259 = .ok (.sipush 237, 3) := by decide +kernel
theorem dX11_walk_262 : decode cX11_walk 262 = .ok (.iload_n 3, 1) := by decide +kernel
theorem dX11_walk_263 : decode cX11_walk 263 = .ok (.iadd, 1) := by decide +kernel
theorem dX11_walk_264 : decode cX11_walk 264 = .ok (.dup2, 1) := by decide +kernel
theorem dX11_walk_265 : decode cX11_walk 265 = .ok (.iaload, 1) := by decide +kernel
theorem dX11_walk_266 : decode cX11_walk 266 = .ok (.iload 5, 2) := by decide +kernel
theorem dX11_walk_268 : decode cX11_walk 268 = .ok (.iadd, 1) := by decide +kernel
theorem dX11_walk_269 : decode cX11_walk 269 = .ok (.iastore, 1) := by decide +kernel
theorem dX11_walk_270 : decode cX11_walk 270 = .ok (.aload_n 0, 1) := by decide +kernel
theorem dX11_walk_271 : decode cX11_walk 271 = .ok (.invokevirtual 152, 3) := by decide +kernel
theorem dX11_walk_274 : decode cX11_walk 274 = .ok (.ireturn, 1) := by decide +kernel
theorem dX11_at_0 : decode cX11_at 0 = .ok (.aload_n 0, 1) := by decide +kernel
theorem dX11_at_1 : decode cX11_at 1 = .ok (.iload_n 1, 1) := by decide +kernel
theorem dX11_at_2 : decode cX11_at 2 = .ok (.invokevirtual 156, 3) := by decide +kernel
theorem dX11_at_5 : decode cX11_at 5 = .ok (.ifCond .eq 16, 3) := by decide +kernel
theorem dX11_at_8 : decode cX11_at 8 = .ok (.aload_n 0, 1) := by decide +kernel
theorem dX11_at_9 : decode cX11_at 9 = .ok (.getfield 7, 3) := by decide +kernel
theorem dX11_at_12 : decode cX11_at 12 = .ok (.sipush 227, 3) := by decide +kernel
theorem dX11_at_15 : decode cX11_at 15 = .ok (.iload_n 1, 1) := by decide +kernel
theorem dX11_at_16 : decode cX11_at 16 = .ok (.iadd, 1) := by decide +kernel
theorem dX11_at_17 : decode cX11_at 17 = .ok (.iaload, 1) := by decide +kernel
theorem dX11_at_18 : decode cX11_at 18 = .ok (.goto 9, 3) := by decide +kernel
theorem dX11_at_21 : decode cX11_at 21 = .ok (.aload_n 0, 1) := by decide +kernel
theorem dX11_at_22 : decode cX11_at 22 = .ok (.ldc 76, 2) := by decide +kernel
theorem dX11_at_24 : decode cX11_at 24 = .ok (.invokevirtual 64, 3) := by decide +kernel
theorem dX11_at_27 : decode cX11_at 27 = .ok (.ireturn, 1) := by decide +kernel
theorem dX11_letter_0 : decode cX11_letter 0 = .ok (.aload_n 0, 1) := by decide +kernel
theorem dX11_letter_1 : decode cX11_letter 1 = .ok (.iload_n 1, 1) := by decide +kernel
theorem dX11_letter_2 : decode cX11_letter 2 = .ok (.invokevirtual 156, 3) := by decide +kernel
theorem dX11_letter_5 : decode cX11_letter 5 = .ok (.ifCond .eq 23, 3) := by decide +kernel
theorem dX11_letter_8 : decode cX11_letter 8 = .ok (.iload_n 2, 1) := by decide +kernel
theorem dX11_letter_9 : decode cX11_letter 9 = .ok (.iconst (-1), 1) := by decide +kernel
theorem dX11_letter_10 : decode cX11_letter 10 = .ok (.aload_n 0, 1) := by decide +kernel
theorem dX11_letter_11 : decode cX11_letter 11 = .ok (.getfield 7, 3) := by decide +kernel
theorem dX11_letter_14 : decode cX11_letter 14 = .ok (.sipush 232, 3) := by decide +kernel
theorem dX11_letter_17 : decode cX11_letter 17 = .ok (.iload_n 1, 1) := by decide +kernel
theorem dX11_letter_18 : decode cX11_letter 18 = .ok (.iadd, 1) := by decide +kernel
theorem dX11_letter_19 : decode cX11_letter 19 = .ok (.iaload, 1) := by decide +kernel
theorem dX11_letter_20 : decode cX11_letter 20 = .ok (.iconst 1, 1) := by decide +kernel
theorem dX11_letter_21 : decode cX11_letter 21 = .ok (.isub, 1) := by decide +kernel
theorem dX11_letter_22 : decode cX11_letter 22 = .ok (.invokestatic 68, 3) := by decide +kernel
theorem dX11_letter_25 : decode cX11_letter 25 = .ok (.ifCond .ne 10, 3) := by decide +kernel
theorem dX11_letter_28 : decode cX11_letter 28 = .ok (.aload_n 0, 1) := by decide +kernel
theorem dX11_letter_29 : decode cX11_letter 29 = .ok (.ldc 76, 2) := by decide +kernel
theorem dX11_letter_31 : decode cX11_letter 31 = .ok (.invokevirtual 64, 3) := by decide +kernel
theorem dX11_letter_34 : decode cX11_letter 34 = .ok (.ireturn, 1) := by decide +kernel
theorem dX11_letter_35 : decode cX11_letter 35 = .ok (.iload_n 2, 1) := by decide +kernel
theorem dX11_letter_36 : decode cX11_letter 36 = .ok (.ifCond .ge 16, 3) := by decide +kernel
theorem dX11_letter_39 : decode cX11_letter 39 = .ok (.aload_n 0, 1) := by decide +kernel
theorem dX11_letter_40 : decode cX11_letter 40 = .ok (.getfield 7, 3) := by decide +kernel
theorem dX11_letter_43 : decode cX11_letter 43 = .ok (.sipush 232, 3) := by decide +kernel
theorem dX11_letter_46 : decode cX11_letter 46 = .ok (.iload_n 1, 1) := by decide +kernel
theorem dX11_letter_47 : decode cX11_letter 47 = .ok (.iadd, 1) := by decide +kernel
theorem dX11_letter_48 : decode cX11_letter 48 = .ok (.iaload, 1) := by decide +kernel
theorem dX11_letter_49 : decode cX11_letter 49 = .ok (.goto 18, 3) := by decide +kernel
theorem dX11_letter_52 : decode cX11_letter 52 = .ok (.aload_n 0, 1) := by decide +kernel
theorem dX11_letter_53 : decode cX11_letter 53 = .ok (.getfield 7, 3) := by decide +kernel
theorem dX11_letter_56 : decode cX11_letter 56 = .ok (.sipush 272, 3) := by decide +kernel
theorem dX11_letter_59 : decode cX11_letter 59 = .ok (.bipush 60, 2) := by decide +kernel
theorem dX11_letter_61 : decode cX11_letter 61 = .ok (.iload_n 1, 1) := by decide +kernel
theorem dX11_letter_62 : decode cX11_letter 62 = .ok (.imul, 1) := by decide +kernel
theorem dX11_letter_63 : decode cX11_letter 63 = .ok (.iadd, 1) := by decide +kernel
theorem dX11_letter_64 : decode cX11_letter 64 = .ok (.iload_n 2, 1) := by decide +kernel
theorem dX11_letter_65 : decode cX11_letter 65 = .ok (.iadd, 1) := by decide +kernel
theorem dX11_letter_66 : decode cX11_letter 66 = .ok (.iaload, 1) := by decide +kernel
theorem dX11_letter_67 : decode cX11_letter 67 = .ok (.ireturn, 1) := by decide +kernel
theorem dX11_tangleOf_0 : decode cX11_tangleOf 0 = .ok (.iconst 0, 1) := by decide +kernel
theorem dX11_tangleOf_1 : decode cX11_tangleOf 1 = .ok (.istore_n 1, 1) := by decide +kernel
theorem dX11_tangleOf_2 : decode cX11_tangleOf 2 = .ok (.iconst 0, 1) := by decide +kernel
theorem dX11_tangleOf_3 : decode cX11_tangleOf 3 = .ok (.istore_n 2, 1) := by decide +kernel
theorem dX11_tangleOf_4 : decode cX11_tangleOf 4 = .ok (.iload_n 2, 1) := by decide +kernel
theorem dX11_tangleOf_5 : decode cX11_tangleOf 5 = .ok (.aload_n 0, 1) := by decide +kernel
theorem dX11_tangleOf_6 : decode cX11_tangleOf 6 = .ok (.getfield 7, 3) := by decide +kernel
theorem dX11_tangleOf_9 : decode cX11_tangleOf 9 = .ok (.iconst 1, 1) := by decide +kernel
theorem dX11_tangleOf_10 : decode cX11_tangleOf 10 = .ok (.iaload, 1) := by decide +kernel
theorem dX11_tangleOf_11 : decode cX11_tangleOf 11 = .ok (.if_icmp .ge 24, 3) := by decide +kernel
theorem dX11_tangleOf_14 : decode cX11_tangleOf 14 = .ok (.iload_n 1, 1) := by decide +kernel
theorem dX11_tangleOf_15 : decode cX11_tangleOf 15 = .ok (.aload_n 0, 1) := by decide +kernel
theorem dX11_tangleOf_16 : decode cX11_tangleOf 16 = .ok (.getfield 7, 3) := by decide +kernel
theorem dX11_tangleOf_19 : decode cX11_tangleOf 19 = .ok (.sipush 232, 3) := by decide +kernel
theorem dX11_tangleOf_22 : decode cX11_tangleOf 22 = .ok (.iload_n 2, 1) := by decide +kernel
theorem dX11_tangleOf_23 : decode cX11_tangleOf 23 = .ok (.iadd, 1) := by decide +kernel
theorem dX11_tangleOf_24 : decode cX11_tangleOf 24 = .ok (.iaload, 1) := by decide +kernel
theorem dX11_tangleOf_25 : decode cX11_tangleOf 25 = .ok (.iconst 1, 1) := by decide +kernel
theorem dX11_tangleOf_26 : decode cX11_tangleOf 26 = .ok (.isub, 1) := by decide +kernel
theorem dX11_tangleOf_27 : decode cX11_tangleOf 27 = .ok (.iadd, 1) := by decide +kernel
theorem dX11_tangleOf_28 : decode cX11_tangleOf 28 = .ok (.istore_n 1, 1) := by decide +kernel
theorem dX11_tangleOf_29 : decode cX11_tangleOf 29 = .ok (.iinc 2 1, 3) := by decide +kernel
theorem dX11_tangleOf_32 : decode cX11_tangleOf 32 = .ok (.goto (-28), 3) := by decide +kernel
theorem dX11_tangleOf_35 : decode cX11_tangleOf 35 = .ok (.iload_n 1, 1) := by decide +kernel
theorem dX11_tangleOf_36 : decode cX11_tangleOf 36 = .ok (.ireturn, 1) := by decide +kernel
theorem dX11_tangle_0 : decode cX11_tangle 0 = .ok (.aload_n 0, 1) := by decide +kernel
theorem dX11_tangle_1 : decode cX11_tangle 1 = .ok (.invokevirtual 152, 3) := by decide +kernel
theorem dX11_tangle_4 : decode cX11_tangle 4 = .ok (.ireturn, 1) := by decide +kernel
theorem dX11_twist_0 : decode cX11_twist 0 = .ok (.aload_n 0, 1) := by decide +kernel
theorem dX11_twist_1 : decode cX11_twist 1 = .ok (.iload_n 1, 1) := by decide +kernel
theorem dX11_twist_2 : decode cX11_twist 2 = .ok (.invokevirtual 156, 3) := by decide +kernel
theorem dX11_twist_5 : decode cX11_twist 5 = .ok (.ifCond .eq 11, 3) := by decide +kernel
theorem dX11_twist_8 : decode cX11_twist 8 = .ok (.aload_n 0, 1) := by decide +kernel
theorem dX11_twist_9 : decode cX11_twist 9 = .ok (.iload_n 2, 1) := by decide +kernel
theorem dX11_twist_10 : decode cX11_twist 10 = .ok (.invokevirtual 156, 3) := by decide +kernel
theorem dX11_twist_13 : decode cX11_twist 13 = .ok (.ifCond .ne 10, 3) := by decide +kernel
theorem dX11_twist_16 : decode cX11_twist 16 = .ok (.aload_n 0, 1) := by decide +kernel
theorem dX11_twist_17 : decode cX11_twist 17 = .ok (.ldc 76, 2) := by decide +kernel
theorem dX11_twist_19 : decode cX11_twist 19 = .ok (.invokevirtual 64, 3) := by decide +kernel
theorem dX11_twist_22 : decode cX11_twist 22 = .ok (.ireturn, 1) := by decide +kernel
theorem dX11_twist_23 : decode cX11_twist 23 = .ok (.iload_n 1, 1) := by decide +kernel
theorem dX11_twist_24 : decode cX11_twist 24 = .ok (.iload_n 2, 1) := by decide +kernel
theorem dX11_twist_25 : decode cX11_twist 25 = .ok (.if_icmp .ne 12, 3) := by decide +kernel
theorem dX11_twist_28 : decode cX11_twist 28 = .ok (.aload_n 0, 1) := by decide +kernel
theorem dX11_twist_29 : decode cX11_twist 29 = .ok (.ldc 77, 2) := by decide +kernel
theorem dX11_twist_31 : decode cX11_twist 31 = .ok (.invokevirtual 64, 3) := by decide +kernel
theorem dX11_twist_34 : decode cX11_twist 34 = .ok (.goto 17, 3) := by decide +kernel
theorem dX11_twist_37 : decode cX11_twist 37 = .ok (.aload_n 0, 1) := by decide +kernel
theorem dX11_twist_38 : decode cX11_twist 38 = .ok (.getfield 7, 3) := by decide +kernel
theorem dX11_twist_41 : decode cX11_twist 41 = .ok (.sipush 247, 3) := by decide +kernel
theorem dX11_twist_44 : decode cX11_twist 44 = .ok (.iconst 5, 1) := by decide +kernel
theorem dX11_twist_45 : decode cX11_twist 45 = .ok (.iload_n 1, 1) := by decide +kernel
theorem dX11_twist_46 : decode cX11_twist 46 = .ok (.imul, 1) := by decide +kernel
theorem dX11_twist_47 : decode cX11_twist 47 = .ok (.iadd, 1) := by decide +kernel
theorem dX11_twist_48 : decode cX11_twist 48 = .ok (.iload_n 2, 1) := by decide +kernel
theorem dX11_twist_49 : decode cX11_twist 49 = .ok (.iadd, 1) := by decide +kernel
theorem dX11_twist_50 : decode cX11_twist 50 = .ok (.iaload, 1) := by decide +kernel
theorem dX11_twist_51 : decode cX11_twist 51 = .ok (.ireturn, 1) := by decide +kernel
theorem dX11_findFewest_0 : decode cX11_findFewest 0 = .ok (.aload_n 0, 1) := by decide +kernel
theorem dX11_findFewest_1 : decode cX11_findFewest 1 = .ok (.getfield 7, 3) := by decide +kernel
theorem dX11_findFewest_4 : decode cX11_findFewest 4 = .ok (.iconst 1, 1) := by decide +kernel
theorem dX11_findFewest_5 : decode cX11_findFewest 5 = .ok (.iaload, 1) := by decide +kernel
theorem dX11_findFewest_6 : decode cX11_findFewest 6 = .ok (.istore_n 1, 1) := by decide +kernel
theorem dX11_findFewest_7 : decode cX11_findFewest 7 = .ok (.iconst 2, 1) := by decide +kernel
theorem dX11_findFewest_8 : decode cX11_findFewest 8 = .ok (.iload_n 1, 1) := by decide +kernel
theorem dX11_findFewest_9 : decode cX11_findFewest 9 = .ok (.iconst 1, 1) := by decide +kernel
theorem dX11_findFewest_10 : decode cX11_findFewest 10 = .ok (.isub, 1) := by decide +kernel
theorem dX11_findFewest_11 : decode cX11_findFewest 11 = .ok (.imul, 1) := by decide +kernel
theorem dX11_findFewest_12 : decode cX11_findFewest 12 = .ok (.istore_n 2, 1) := by decide +kernel
theorem dX11_findFewest_13 : decode cX11_findFewest 13 = .ok (.aload_n 0, 1) := by decide +kernel
theorem dX11_findFewest_14 : decode cX11_findFewest 14 = .ok (.invokevirtual 142, 3) := by decide +kernel
theorem dX11_findFewest_17 : decode cX11_findFewest 17 = .ok (.aload_n 0, 1) := by decide +kernel
theorem dX11_findFewest_18 : decode cX11_findFewest 18 = .ok (.iconst 0, 1) := by decide +kernel
theorem dX11_findFewest_19 : decode cX11_findFewest 19 = .ok (.iload_n 1, 1) := by decide +kernel
theorem dX11_findFewest_20 : decode cX11_findFewest 20 = .ok (.invokevirtual 159, 3) := by decide +kernel
theorem dX11_findFewest_23 : decode cX11_findFewest 23 = .ok (.ifCond .eq 5, 3) := by decide +kernel
theorem dX11_findFewest_26 : decode cX11_findFewest 26 = .ok (.iconst 0, 1) := by decide +kernel
theorem dX11_findFewest_27 : decode cX11_findFewest 27 = .ok (.ireturn, 1) := by decide +kernel
theorem dX11_findFewest_28 : decode cX11_findFewest 28 = .ok (.iconst 1, 1) := by decide +kernel
theorem dX11_findFewest_29 : decode cX11_findFewest 29 = .ok (.istore_n 3, 1) := by decide +kernel
theorem dX11_findFewest_30 : decode cX11_findFewest 30 = .ok (.iload_n 3, 1) := by decide +kernel
theorem dX11_findFewest_31 : decode cX11_findFewest 31 = .ok (.iconst 3, 1) := by decide +kernel
theorem dX11_findFewest_32 : decode cX11_findFewest 32 = .ok (.if_icmp .gt 218, 3) := by decide +kernel
theorem dX11_findFewest_35 : decode cX11_findFewest 35 = .ok (.iconst 0, 1) := by decide +kernel
theorem dX11_findFewest_36 : decode cX11_findFewest 36 = .ok (.istore 4, 2) := by decide +kernel
theorem dX11_findFewest_38 : decode cX11_findFewest 38 = .ok (.iload 4, 2) := by decide +kernel
theorem dX11_findFewest_40 : decode cX11_findFewest 40 = .ok (.iload_n 2, 1) := by decide +kernel
theorem dX11_findFewest_41 : decode cX11_findFewest 41 = .ok (.if_icmp .ge 203, 3) := by decide +kernel
theorem dX11_findFewest_44 : decode cX11_findFewest 44 = .ok (.aload_n 0, 1) := by decide +kernel
theorem dX11_findFewest_45 : decode cX11_findFewest 45 = .ok (.iconst 0, 1) := by decide +kernel
theorem dX11_findFewest_46 : decode cX11_findFewest 46 = .ok (.iconst 1, 1) := by decide +kernel
theorem dX11_findFewest_47 : decode cX11_findFewest 47 = .ok (.iload_n 1, 1) := by decide +kernel
theorem dX11_findFewest_48 : decode cX11_findFewest 48 = .ok (.iload 4, 2) := by decide +kernel
theorem dX11_findFewest_50 : decode cX11_findFewest 50 = .ok (.iconst 2, 1) := by decide +kernel
theorem dX11_findFewest_51 : decode cX11_findFewest 51 = .ok (.idiv, 1) := by decide +kernel
theorem dX11_findFewest_52 : decode cX11_findFewest 52 = .ok (.iload 4, 2) := by decide +kernel
theorem dX11_findFewest_54 : decode cX11_findFewest 54 = .ok (.iconst 2, 1) := by decide +kernel
theorem dX11_findFewest_55 : decode cX11_findFewest 55 = .ok (.irem, 1) := by decide +kernel
theorem dX11_findFewest_56 : decode cX11_findFewest 56 = .ok (.ifCond .ne 7, 3) := by decide +kernel
theorem dX11_findFewest_59 : decode cX11_findFewest 59 = .ok (.iconst 1, 1) := by decide +kernel
theorem dX11_findFewest_60 : decode cX11_findFewest 60 = .ok (.goto 4, 3) := by decide +kernel
theorem dX11_findFewest_63 : decode cX11_findFewest 63 = .ok (.iconst 0, 1) := by decide +kernel
theorem dX11_findFewest_64 : decode cX11_findFewest 64 = .ok (.invokevirtual 145, 3) := by decide +kernel
theorem dX11_findFewest_67 : decode cX11_findFewest 67 = .ok (.ifCond .ne 6, 3) := by decide +kernel
theorem dX11_findFewest_70 : decode cX11_findFewest 70 = .ok (.goto 168, 3) := by decide +kernel
theorem dX11_findFewest_73 : decode cX11_findFewest 73 = .ok (.aload_n 0, 1) := by decide +kernel
theorem dX11_findFewest_74 : decode cX11_findFewest 74 = .ok (.getfield 43, 3) := by decide +kernel
theorem dX11_findFewest_77 : decode cX11_findFewest 77 = .ok (.iconst 0, 1) := by decide +kernel
theorem dX11_findFewest_78 : decode cX11_findFewest 78 = .ok (.iload 4, 2) := by decide +kernel
theorem dX11_findFewest_80 : decode cX11_findFewest 80 = .ok (.iastore, 1) := by decide +kernel
theorem dX11_findFewest_81 : decode cX11_findFewest 81 = .ok (.iload_n 3, 1) := by decide +kernel
theorem dX11_findFewest_82 : decode cX11_findFewest 82 = .ok (.iconst 1, 1) := by decide +kernel
theorem dX11_findFewest_83 : decode cX11_findFewest 83 = .ok (.if_icmp .ne 14, 3) := by decide +kernel
theorem dX11_findFewest_86 : decode cX11_findFewest 86 = .ok (.aload_n 0, 1) := by decide +kernel
theorem dX11_findFewest_87 : decode cX11_findFewest 87 = .ok (.iconst 1, 1) := by decide +kernel
theorem dX11_findFewest_88 : decode cX11_findFewest 88 = .ok (.iload_n 1, 1) := by decide +kernel
theorem dX11_findFewest_89 : decode cX11_findFewest 89 = .ok (.invokevirtual 159, 3) := by decide +kernel
theorem dX11_findFewest_92 : decode cX11_findFewest 92 = .ok (.ifCond .eq 5, 3) := by decide +kernel
theorem dX11_findFewest_95 : decode cX11_findFewest 95 = .ok (.iconst 1, 1) := by decide +kernel
theorem dX11_findFewest_96 : decode cX11_findFewest 96 = .ok (.ireturn, 1) := by decide +kernel
theorem dX11_findFewest_97 : decode cX11_findFewest 97 = .ok (.iconst 0, 1) := by decide +kernel
theorem dX11_findFewest_98 : decode cX11_findFewest 98 = .ok (.istore 5, 2) := by decide +kernel
theorem dX11_findFewest_100 : decode cX11_findFewest 100 = .ok (.iload_n 3, 1) := by decide +kernel
theorem dX11_findFewest_101 : decode cX11_findFewest 101 = .ok (.iconst 1, 1) := by decide +kernel
theorem dX11_findFewest_102 : decode cX11_findFewest 102 = .ok (.if_icmp .le 136, 3) := by decide +kernel
theorem dX11_findFewest_105 : decode cX11_findFewest 105 = .ok (.iload 5, 2) := by decide +kernel
theorem dX11_findFewest_107 : decode cX11_findFewest 107 = .ok (.iload_n 2, 1) := by decide +kernel
theorem dX11_findFewest_108 : decode cX11_findFewest 108 = .ok (.if_icmp .ge 130, 3) := by decide +kernel
theorem dX11_findFewest_111 : decode cX11_findFewest 111 = .ok (.aload_n 0, 1) := by decide +kernel
theorem dX11_findFewest_112 : decode cX11_findFewest 112 = .ok (.iconst 1, 1) := by decide +kernel
theorem dX11_findFewest_113 : decode cX11_findFewest 113 = .ok (.iconst 2, 1) := by decide +kernel
theorem dX11_findFewest_114 : decode cX11_findFewest 114 = .ok (.iload_n 1, 1) := by decide +kernel
theorem dX11_findFewest_115 : decode cX11_findFewest 115 = .ok (.iload 5, 2) := by decide +kernel
theorem dX11_findFewest_117 : decode cX11_findFewest 117 = .ok (.iconst 2, 1) := by decide +kernel
theorem dX11_findFewest_118 : decode cX11_findFewest 118 = .ok (.idiv, 1) := by decide +kernel
theorem dX11_findFewest_119 : decode cX11_findFewest 119 = .ok (.iload 5, 2) := by decide +kernel
theorem dX11_findFewest_121 : decode cX11_findFewest 121 = .ok (.iconst 2, 1) := by decide +kernel
theorem dX11_findFewest_122 : decode cX11_findFewest 122 = .ok (.irem, 1) := by decide +kernel
theorem dX11_findFewest_123 : decode cX11_findFewest 123 = .ok (.ifCond .ne 7, 3) := by decide +kernel
theorem dX11_findFewest_126 : decode cX11_findFewest 126 = .ok (.iconst 1, 1) := by decide +kernel
theorem dX11_findFewest_127 : decode cX11_findFewest 127 = .ok (.goto 4, 3) := by decide +kernel
theorem dX11_findFewest_130 : decode cX11_findFewest 130 = .ok (.iconst 0, 1) := by decide +kernel
theorem dX11_findFewest_131 : decode cX11_findFewest 131 = .ok (.invokevirtual 145, 3) := by decide +kernel
theorem dX11_findFewest_134 : decode cX11_findFewest 134 = .ok (.ifCond .ne 6, 3) := by decide +kernel
theorem dX11_findFewest_137 : decode cX11_findFewest 137 = .ok (.goto 95, 3) := by decide +kernel
theorem dX11_findFewest_140 : decode cX11_findFewest 140 = .ok (.aload_n 0, 1) := by decide +kernel
theorem dX11_findFewest_141 : decode cX11_findFewest 141 = .ok (.getfield 43, 3) := by decide +kernel
theorem dX11_findFewest_144 : decode cX11_findFewest 144 = .ok (.iconst 1, 1) := by decide +kernel
theorem dX11_findFewest_145 : decode cX11_findFewest 145 = .ok (.iload 5, 2) := by decide +kernel
theorem dX11_findFewest_147 : decode cX11_findFewest 147 = .ok (.iastore, 1) := by decide +kernel
theorem dX11_findFewest_148 : decode cX11_findFewest 148 = .ok (.iload_n 3, 1) := by decide +kernel
theorem dX11_findFewest_149 : decode cX11_findFewest 149 = .ok (.iconst 2, 1) := by decide +kernel
theorem dX11_findFewest_150 : decode cX11_findFewest 150 = .ok (.if_icmp .ne 14, 3) := by decide +kernel
theorem dX11_findFewest_153 : decode cX11_findFewest 153 = .ok (.aload_n 0, 1) := by decide +kernel
theorem dX11_findFewest_154 : decode cX11_findFewest 154 = .ok (.iconst 2, 1) := by decide +kernel
theorem dX11_findFewest_155 : decode cX11_findFewest 155 = .ok (.iload_n 1, 1) := by decide +kernel
theorem dX11_findFewest_156 : decode cX11_findFewest 156 = .ok (.invokevirtual 159, 3) := by decide +kernel
theorem dX11_findFewest_159 : decode cX11_findFewest 159 = .ok (.ifCond .eq 5, 3) := by decide +kernel
theorem dX11_findFewest_162 : decode cX11_findFewest 162 = .ok (.iconst 2, 1) := by decide +kernel
theorem dX11_findFewest_163 : decode cX11_findFewest 163 = .ok (.ireturn, 1) := by decide +kernel
theorem dX11_findFewest_164 : decode cX11_findFewest 164 = .ok (.iconst 0, 1) := by decide +kernel
theorem dX11_findFewest_165 : decode cX11_findFewest 165 = .ok (.istore 6, 2) := by decide +kernel
theorem dX11_findFewest_167 : decode cX11_findFewest 167 = .ok (.iload_n 3, 1) := by decide +kernel
theorem dX11_findFewest_168 : decode cX11_findFewest 168 = .ok (.iconst 2, 1) := by decide +kernel
theorem dX11_findFewest_169 : decode cX11_findFewest 169 = .ok (.if_icmp .le 63, 3) := by decide +kernel
theorem dX11_findFewest_172 : decode cX11_findFewest 172 = .ok (.iload 6, 2) := by decide +kernel
theorem dX11_findFewest_174 : decode cX11_findFewest 174 = .ok (.iload_n 2, 1) := by decide +kernel
theorem dX11_findFewest_175 : decode cX11_findFewest 175 = .ok (.if_icmp .ge 57, 3) := by decide +kernel
theorem dX11_findFewest_178 : decode cX11_findFewest 178 = .ok (.aload_n 0, 1) := by decide +kernel
theorem dX11_findFewest_179 : decode cX11_findFewest 179 = .ok (.iconst 2, 1) := by decide +kernel
theorem dX11_findFewest_180 : decode cX11_findFewest 180 = .ok (.iconst 3, 1) := by decide +kernel
theorem dX11_findFewest_181 : decode cX11_findFewest 181 = .ok (.iload_n 1, 1) := by decide +kernel
theorem dX11_findFewest_182 : decode cX11_findFewest 182 = .ok (.iload 6, 2) := by decide +kernel
theorem dX11_findFewest_184 : decode cX11_findFewest 184 = .ok (.iconst 2, 1) := by decide +kernel
theorem dX11_findFewest_185 : decode cX11_findFewest 185 = .ok (.idiv, 1) := by decide +kernel
theorem dX11_findFewest_186 : decode cX11_findFewest 186 = .ok (.iload 6, 2) := by decide +kernel
theorem dX11_findFewest_188 : decode cX11_findFewest 188 = .ok (.iconst 2, 1) := by decide +kernel
theorem dX11_findFewest_189 : decode cX11_findFewest 189 = .ok (.irem, 1) := by decide +kernel
theorem dX11_findFewest_190 : decode cX11_findFewest 190 = .ok (.ifCond .ne 7, 3) := by decide +kernel
theorem dX11_findFewest_193 : decode cX11_findFewest 193 = .ok (.iconst 1, 1) := by decide +kernel
theorem dX11_findFewest_194 : decode cX11_findFewest 194 = .ok (.goto 4, 3) := by decide +kernel
theorem dX11_findFewest_197 : decode cX11_findFewest 197 = .ok (.iconst 0, 1) := by decide +kernel
theorem dX11_findFewest_198 : decode cX11_findFewest 198 = .ok (.invokevirtual 145, 3) := by decide +kernel
theorem dX11_findFewest_201 : decode cX11_findFewest 201 = .ok (.ifCond .ne 6, 3) := by decide +kernel
theorem dX11_findFewest_204 : decode cX11_findFewest 204 = .ok (.goto 22, 3) := by decide +kernel
theorem dX11_findFewest_207 : decode cX11_findFewest 207 = .ok (.aload_n 0, 1) := by decide +kernel
theorem dX11_findFewest_208 : decode cX11_findFewest 208 = .ok (.getfield 43, 3) := by decide +kernel
theorem dX11_findFewest_211 : decode cX11_findFewest 211 = .ok (.iconst 2, 1) := by decide +kernel
theorem dX11_findFewest_212 : decode cX11_findFewest 212 = .ok (.iload 6, 2) := by decide +kernel
theorem dX11_findFewest_214 : decode cX11_findFewest 214 = .ok (.iastore, 1) := by decide +kernel
theorem dX11_findFewest_215 : decode cX11_findFewest 215 = .ok (.aload_n 0, 1) := by decide +kernel
theorem dX11_findFewest_216 : decode cX11_findFewest 216 = .ok (.iconst 3, 1) := by decide +kernel
theorem dX11_findFewest_217 : decode cX11_findFewest 217 = .ok (.iload_n 1, 1) := by decide +kernel
theorem dX11_findFewest_218 : decode cX11_findFewest 218 = .ok (.invokevirtual 159, 3) := by decide +kernel
theorem dX11_findFewest_221 : decode cX11_findFewest 221 = .ok (.ifCond .eq 5, 3) := by decide +kernel
theorem dX11_findFewest_224 : decode cX11_findFewest 224 = .ok (.iconst 3, 1) := by decide +kernel
theorem dX11_findFewest_225 : decode cX11_findFewest 225 = .ok (.ireturn, 1) := by decide +kernel
theorem dX11_findFewest_226 : decode cX11_findFewest 226 = .ok (.iinc 6 1, 3) := by decide +kernel
theorem dX11_findFewest_229 : decode cX11_findFewest 229 = .ok (.goto (-62), 3) := by decide +kernel
theorem dX11_findFewest_232 : decode cX11_findFewest 232 = .ok (.iinc 5 1, 3) := by decide +kernel
theorem dX11_findFewest_235 : decode cX11_findFewest 235 = .ok (.goto (-135), 3) := by decide +kernel
theorem dX11_findFewest_238 : decode cX11_findFewest 238 = .ok (.iinc 4 1, 3) := by decide +kernel
theorem dX11_findFewest_241 : decode cX11_findFewest 241 = .ok (.goto (-203), 3) := by decide +kernel
theorem dX11_findFewest_244 : decode cX11_findFewest 244 = .ok (.iinc 3 1, 3) := by decide +kernel
theorem dX11_findFewest_247 : decode cX11_findFewest 247 = .ok (.goto (-217), 3) := by decide +kernel
theorem dX11_findFewest_250 : decode cX11_findFewest 250 = .ok (.iconst (-1), 1) := by decide +kernel
theorem dX11_findFewest_251 : decode cX11_findFewest 251 = .ok (.ireturn, 1) := by decide +kernel
theorem dX11_fewest_0 : decode cX11_fewest 0 = .ok (.iload_n 1, 1) := by decide +kernel
theorem dX11_fewest_1 : decode cX11_fewest 1 = .ok (.iconst (-1), 1) := by decide +kernel
theorem dX11_fewest_2 : decode cX11_fewest 2 = .ok (.if_icmp .ge 10, 3) := by decide +kernel
theorem dX11_fewest_5 : decode cX11_fewest 5 = .ok (.aload_n 0, 1) := by decide +kernel
theorem dX11_fewest_6 : decode cX11_fewest 6 = .ok (.ldc 76, 2) := by decide +kernel
theorem dX11_fewest_8 : decode cX11_fewest 8 = .ok (.invokevirtual 64, 3) := by decide +kernel
theorem dX11_fewest_11 : decode cX11_fewest 11 = .ok (.ireturn, 1) := by decide +kernel
theorem dX11_fewest_12 : decode cX11_fewest 12 = .ok (.aload_n 0, 1) := by decide +kernel
theorem dX11_fewest_13 : decode cX11_fewest 13 = .ok (.invokevirtual 162, 3) := by decide +kernel
theorem dX11_fewest_16 : decode cX11_fewest 16 = .ok (.istore_n 2, 1) := by decide +kernel
theorem dX11_fewest_17 : decode cX11_fewest 17 = .ok (.iload_n 2, 1) := by decide +kernel
theorem dX11_fewest_18 : decode cX11_fewest 18 = .ok (.ifCond .lt 8, 3) := by decide +kernel
theorem dX11_fewest_21 : decode cX11_fewest 21 = .ok (.iload_n 1, 1) := by decide +kernel
theorem dX11_fewest_22 : decode cX11_fewest 22 = .ok (.iload_n 2, 1) := by decide +kernel
theorem dX11_fewest_23 : decode cX11_fewest 23 = .ok (.if_icmp .lt 10, 3) := by decide +kernel
theorem dX11_fewest_26 : decode cX11_fewest 26 = .ok (.aload_n 0, 1) := by decide +kernel
theorem dX11_fewest_27 : decode cX11_fewest 27 = .ok (.ldc 63, 2) := by decide +kernel
theorem dX11_fewest_29 : decode cX11_fewest 29 = .ok (.invokevirtual 64, 3) := by decide +kernel
theorem dX11_fewest_32 : decode cX11_fewest 32 = .ok (.ireturn, 1) := by decide +kernel
theorem dX11_fewest_33 : decode cX11_fewest 33 = .ok (.iload_n 1, 1) := by decide +kernel
theorem dX11_fewest_34 : decode cX11_fewest 34 = .ok (.ifCond .ge 7, 3) := by decide +kernel
theorem dX11_fewest_37 : decode cX11_fewest 37 = .ok (.iload_n 2, 1) := by decide +kernel
theorem dX11_fewest_38 : decode cX11_fewest 38 = .ok (.goto 9, 3) := by decide +kernel
theorem dX11_fewest_41 : decode cX11_fewest 41 = .ok (.aload_n 0, 1) := by decide +kernel
theorem dX11_fewest_42 : decode cX11_fewest 42 = .ok (.getfield 43, 3) := by decide +kernel
theorem dX11_fewest_45 : decode cX11_fewest 45 = .ok (.iload_n 1, 1) := by decide +kernel
theorem dX11_fewest_46 : decode cX11_fewest 46 = .ok (.iaload, 1) := by decide +kernel
theorem dX11_fewest_47 : decode cX11_fewest 47 = .ok (.ireturn, 1) := by decide +kernel
theorem dX11_isSheet_0 : decode cX11_isSheet 0 = .ok (.iload_n 0, 1) := by decide +kernel
theorem dX11_isSheet_1 : decode cX11_isSheet 1 = .ok (.iconst 0, 1) := by decide +kernel
theorem dX11_isSheet_2 : decode cX11_isSheet 2 = .ok (.iconst 3, 1) := by decide +kernel
theorem dX11_isSheet_3 : decode cX11_isSheet 3 = .ok (.invokestatic 68, 3) := by decide +kernel
theorem dX11_isSheet_6 : decode cX11_isSheet 6 = .ok (.ireturn, 1) := by decide +kernel
theorem dX11_tellsWalks_0 : decode cX11_tellsWalks 0 = .ok (.iconst 0, 1) := by decide +kernel
theorem dX11_tellsWalks_1 : decode cX11_tellsWalks 1 = .ok (.istore_n 3, 1) := by decide +kernel
theorem dX11_tellsWalks_2 : decode cX11_tellsWalks 2 = .ok (.iload_n 3, 1) := by decide +kernel
theorem dX11_tellsWalks_3 : decode cX11_tellsWalks 3 = .ok (.aload_n 0, 1) := by decide +kernel
theorem dX11_tellsWalks_4 : decode cX11_tellsWalks 4 = .ok (.getfield 19, 3) := by decide +kernel
theorem dX11_tellsWalks_7 : decode cX11_tellsWalks 7 = .ok (.iload_n 2, 1) := by decide +kernel
theorem dX11_tellsWalks_8 : decode cX11_tellsWalks 8 = .ok (.iaload, 1) := by decide +kernel
theorem dX11_tellsWalks_9 : decode cX11_tellsWalks 9 = .ok (.if_icmp .ge 36, 3) := by decide +kernel
theorem dX11_tellsWalks_12 : decode cX11_tellsWalks 12 = .ok (.aload_n 0, 1) := by decide +kernel
theorem dX11_tellsWalks_13 : decode cX11_tellsWalks 13 = .ok (.getfield 22, 3) := by decide +kernel
theorem dX11_tellsWalks_16 : decode cX11_tellsWalks 16 = .ok (.bipush 40, 2) := by decide +kernel
theorem dX11_tellsWalks_18 : decode cX11_tellsWalks 18 = .ok (.iload_n 2, 1) := by decide +kernel
theorem dX11_tellsWalks_19 : decode cX11_tellsWalks 19 = .ok (.imul, 1) := by decide +kernel
theorem dX11_tellsWalks_20 : decode cX11_tellsWalks 20 = .ok (.iload_n 3, 1) := by decide +kernel
theorem dX11_tellsWalks_21 : decode cX11_tellsWalks 21 = .ok (.iadd, 1) := by decide +kernel
theorem dX11_tellsWalks_22 : decode cX11_tellsWalks 22 = .ok (.iaload, 1) := by decide +kernel
theorem dX11_tellsWalks_23 : decode cX11_tellsWalks 23 = .ok (.iconst 0, 1) := by decide +kernel
theorem dX11_tellsWalks_24 : decode cX11_tellsWalks 24 = .ok (.iconst 2, 1) := by decide +kernel
theorem dX11_tellsWalks_25 : decode cX11_tellsWalks 25 = .ok (.iload_n 1, 1) := by decide +kernel
theorem dX11_tellsWalks_26 : decode cX11_tellsWalks 26 = .ok (.iconst 1, 1) := by decide +kernel
theorem dX11_tellsWalks_27 : decode cX11_tellsWalks 27 = .ok (.isub, 1) := by decide +kernel
theorem dX11_tellsWalks_28 : decode cX11_tellsWalks 28 = .ok (.imul, 1) := by decide +kernel
theorem dX11_tellsWalks_29 : decode cX11_tellsWalks 29 = .ok (.iconst 1, 1) := by decide +kernel
theorem dX11_tellsWalks_30 : decode cX11_tellsWalks 30 = .ok (.isub, 1) := by decide +kernel
theorem dX11_tellsWalks_31 : decode cX11_tellsWalks 31 = .ok (.invokestatic 68, 3) := by decide +kernel
theorem dX11_tellsWalks_34 : decode cX11_tellsWalks 34 = .ok (.ifCond .ne 5, 3) := by decide +kernel
theorem dX11_tellsWalks_37 : decode cX11_tellsWalks 37 = .ok (.iconst 0, 1) := by decide +kernel
theorem dX11_tellsWalks_38 : decode cX11_tellsWalks 38 = .ok (.ireturn, 1) := by decide +kernel
theorem dX11_tellsWalks_39 : decode cX11_tellsWalks 39 = .ok (.iinc 3 1, 3) := by decide +kernel
theorem dX11_tellsWalks_42 : decode cX11_tellsWalks 42 = .ok (.goto (-40), 3) := by decide +kernel
theorem dX11_tellsWalks_45 : decode cX11_tellsWalks 45 = .ok (.iconst 1, 1) := by decide +kernel
theorem dX11_tellsWalks_46 : decode cX11_tellsWalks 46 = .ok (.ireturn, 1) := by decide +kernel
theorem dX11_does_0 : decode cX11_does 0 = .ok (.aload_n 0, 1) := by decide +kernel
theorem dX11_does_1 : decode cX11_does 1 = .ok (.iload_n 3, 1) := by decide +kernel
theorem dX11_does_2 : decode cX11_does 2 = .ok (.invokevirtual 132, 3) := by decide +kernel
theorem dX11_does_5 : decode cX11_does 5 = .ok (.iconst 0, 1) := by decide +kernel
theorem dX11_does_6 : decode cX11_does 6 = .ok (.istore 4, 2) := by decide +kernel
theorem dX11_does_8 : decode cX11_does 8 = .ok (.iload 4, 2) := by decide +kernel
theorem dX11_does_10 : decode cX11_does 10 = .ok (.aload_n 0, 1) := by decide +kernel
theorem dX11_does_11 : decode cX11_does 11 = .ok (.getfield 19, 3) := by decide +kernel
theorem dX11_does_14 : decode cX11_does 14 = .ok (.iload_n 2, 1) := by decide +kernel
theorem dX11_does_15 : decode cX11_does 15 = .ok (.iaload, 1) := by decide +kernel
theorem dX11_does_16 : decode cX11_does 16 = .ok (.if_icmp .ge 127, 3) := by decide +kernel
theorem dX11_does_19 : decode cX11_does 19 = .ok (.aload_n 0, 1) := by decide +kernel
theorem dX11_does_20 : decode cX11_does 20 = .ok (.getfield 22, 3) := by decide +kernel
theorem dX11_does_23 : decode cX11_does 23 = .ok (.bipush 40, 2) := by decide +kernel
theorem dX11_does_25 : decode cX11_does 25 = .ok (.iload_n 2, 1) := by decide +kernel
theorem dX11_does_26 : decode cX11_does 26 = .ok (.imul, 1) := by decide +kernel
theorem dX11_does_27 : decode cX11_does 27 = .ok (.iload 4, 2) := by decide +kernel
theorem dX11_does_29 : decode cX11_does 29 = .ok (.iadd, 1) := by decide +kernel
theorem dX11_does_30 : decode cX11_does 30 = .ok (.iaload, 1) := by decide +kernel
theorem dX11_does_31 : decode cX11_does 31 = .ok (.istore 5, 2) := by decide +kernel
theorem dX11_does_33 : decode cX11_does 33 = .ok (.aload_n 0, 1) := by decide +kernel
theorem dX11_does_34 : decode cX11_does 34 = .ok (.iload_n 3, 1) := by decide +kernel
theorem dX11_does_35 : decode cX11_does 35 = .ok (.iconst 1, 1) := by decide +kernel
theorem dX11_does_36 : decode cX11_does 36 = .ok (.iload_n 1, 1) := by decide +kernel
theorem dX11_does_37 : decode cX11_does 37 = .ok (.iload 5, 2) := by decide +kernel
theorem dX11_does_39 : decode cX11_does 39 = .ok (.iconst 2, 1) := by decide +kernel
theorem dX11_does_40 : decode cX11_does 40 = .ok (.idiv, 1) := by decide +kernel
theorem dX11_does_41 : decode cX11_does 41 = .ok (.iload 5, 2) := by decide +kernel
theorem dX11_does_43 : decode cX11_does 43 = .ok (.iconst 2, 1) := by decide +kernel
theorem dX11_does_44 : decode cX11_does 44 = .ok (.irem, 1) := by decide +kernel
theorem dX11_does_45 : decode cX11_does 45 = .ok (.ifCond .ne 7, 3) := by decide +kernel
theorem dX11_does_48 : decode cX11_does 48 = .ok (.iconst 1, 1) := by decide +kernel
theorem dX11_does_49 : decode cX11_does 49 = .ok (.goto 4, 3) := by decide +kernel
theorem dX11_does_52 : decode cX11_does 52 = .ok (.iconst 0, 1) := by decide +kernel
theorem dX11_does_53 : decode cX11_does 53 = .ok (.invokevirtual 145, 3) := by decide +kernel
theorem dX11_does_56 : decode cX11_does 56 = .ok (.ifCond .ne 5, 3) := by decide +kernel
theorem dX11_does_59 : decode cX11_does 59 = .ok (.iconst 0, 1) := by decide +kernel
theorem dX11_does_60 : decode cX11_does 60 = .ok (.ireturn, 1) := by decide +kernel
theorem dX11_does_61 : decode cX11_does 61 = .ok (.iconst 0, 1) := by decide +kernel
theorem dX11_does_62 : decode cX11_does 62 = .ok (.istore 6, 2) := by decide +kernel
theorem dX11_does_64 : decode cX11_does 64 = .ok (.iload 6, 2) := by decide +kernel
theorem dX11_does_66 : decode cX11_does 66 = .ok (.iload_n 1, 1) := by decide +kernel
theorem dX11_does_67 : decode cX11_does 67 = .ok (.if_icmp .ge 29, 3) := by decide +kernel
theorem dX11_does_70 : decode cX11_does 70 = .ok (.aload_n 0, 1) := by decide +kernel
theorem dX11_does_71 : decode cX11_does 71 = .ok (.getfield 37, 3) := by decide +kernel
theorem dX11_does_74 : decode cX11_does 74 = .ok (.iconst 5, 1) := by decide +kernel
theorem dX11_does_75 : decode cX11_does 75 = .ok (.iload_n 3, 1) := by decide +kernel
theorem dX11_does_76 : decode cX11_does 76 = .ok (.imul, 1) := by decide +kernel
theorem dX11_does_77 : decode cX11_does 77 = .ok (.iload 6, 2) := by decide +kernel
theorem dX11_does_79 : decode cX11_does 79 = .ok (.iadd, 1) := by decide +kernel
theorem dX11_does_80 : decode cX11_does 80 = .ok (.aload_n 0, 1) := by decide +kernel
theorem dX11_does_81 : decode cX11_does 81 = .ok (.getfield 37, 3) := by decide +kernel
theorem dX11_does_84 : decode cX11_does 84 = .ok (.iconst 5, 1) := by decide +kernel
theorem dX11_does_85 : decode cX11_does 85 = .ok (.iload 6, 2) := by decide +kernel
theorem dX11_does_87 : decode cX11_does 87 = .ok (.iadd, 1) := by decide +kernel
theorem dX11_does_88 : decode cX11_does 88 = .ok (.iaload, 1) := by decide +kernel
theorem dX11_does_89 : decode cX11_does 89 = .ok (.iastore, 1) := by decide +kernel
theorem dX11_does_90 : decode cX11_does 90 = .ok (.iinc 6 1, 3) := by decide +kernel
theorem dX11_does_93 : decode cX11_does 93 = .ok (.goto (-29), 3) := by decide +kernel
theorem dX11_does_96 : decode cX11_does 96 = .ok (.iconst 0, 1) := by decide +kernel
theorem dX11_does_97 : decode cX11_does 97 = .ok (.istore 6, 2) := by decide +kernel
theorem dX11_does_99 : decode cX11_does 99 = .ok (.iload 6, 2) := by decide +kernel
theorem dX11_does_101 : decode cX11_does 101 = .ok (.sipush 300, 3) := by decide +kernel
theorem dX11_does_104 : decode cX11_does 104 = .ok (.if_icmp .ge 33, 3) := by decide +kernel
theorem dX11_does_107 : decode cX11_does 107 = .ok (.aload_n 0, 1) := by decide +kernel
theorem dX11_does_108 : decode cX11_does 108 = .ok (.getfield 34, 3) := by decide +kernel
theorem dX11_does_111 : decode cX11_does 111 = .ok (.sipush 300, 3) := by decide +kernel
theorem dX11_does_114 : decode cX11_does 114 = .ok (.iload_n 3, 1) := by decide +kernel
theorem dX11_does_115 : decode cX11_does 115 = .ok (.imul, 1) := by decide +kernel
theorem dX11_does_116 : decode cX11_does 116 = .ok (.iload 6, 2) := by decide +kernel
theorem dX11_does_118 : decode cX11_does 118 = .ok (.iadd, 1) := by decide +kernel
theorem dX11_does_119 : decode cX11_does 119 = .ok (.aload_n 0, 1) := by decide +kernel
theorem dX11_does_120 : decode cX11_does 120 = .ok (.getfield 34, 3) := by decide +kernel
theorem dX11_does_123 : decode cX11_does 123 = .ok (.sipush 300, 3) := by decide +kernel
theorem dX11_does_126 : decode cX11_does 126 = .ok (.iload 6, 2) := by decide +kernel
theorem dX11_does_128 : decode cX11_does 128 = .ok (.iadd, 1) := by decide +kernel
theorem dX11_does_129 : decode cX11_does 129 = .ok (.iaload, 1) := by decide +kernel
theorem dX11_does_130 : decode cX11_does 130 = .ok (.iastore, 1) := by decide +kernel
theorem dX11_does_131 : decode cX11_does 131 = .ok (.iinc 6 1, 3) := by decide +kernel
theorem dX11_does_134 : decode cX11_does 134 = .ok (.goto (-35), 3) := by decide +kernel
theorem dX11_does_137 : decode cX11_does 137 = .ok (.iinc 4 1, 3) := by decide +kernel
theorem dX11_does_140 : decode cX11_does 140 = .ok (.goto (-132), 3) := by decide +kernel
theorem dX11_does_143 : decode cX11_does 143 = .ok (.iconst 1, 1) := by decide +kernel
theorem dX11_does_144 : decode cX11_does 144 = .ok (.ireturn, 1) := by decide +kernel
theorem dX11_same_0 : decode cX11_same 0 = .ok (.iload_n 1, 1) := by decide +kernel
theorem dX11_same_1 : decode cX11_same 1 = .ok (.iconst 2, 1) := by decide +kernel
theorem dX11_same_2 : decode cX11_same 2 = .ok (.iconst 5, 1) := by decide +kernel
theorem dX11_same_3 : decode cX11_same 3 = .ok (.invokestatic 68, 3) := by decide +kernel
theorem dX11_same_6 : decode cX11_same 6 = .ok (.ifCond .eq 17, 3) := by decide +kernel
theorem dX11_same_9 : decode cX11_same 9 = .ok (.iload_n 2, 1) := by decide +kernel
theorem dX11_same_10 : decode cX11_same 10 = .ok (.invokestatic 165, 3) := by decide +kernel
theorem dX11_same_13 : decode cX11_same 13 = .ok (.ifCond .eq 10, 3) := by decide +kernel
theorem dX11_same_16 : decode cX11_same 16 = .ok (.iload_n 3, 1) := by decide +kernel
theorem dX11_same_17 : decode cX11_same 17 = .ok (.invokestatic 165, 3) := by decide +kernel
theorem dX11_same_20 : decode cX11_same 20 = .ok (.ifCond .ne 10, 3) := by decide +kernel
theorem dX11_same_23 : decode cX11_same 23 = .ok (.aload_n 0, 1) := by decide +kernel
theorem dX11_same_24 : decode cX11_same 24 = .ok (.ldc 76, 2) := by decide +kernel
theorem dX11_same_26 : decode cX11_same 26 = .ok (.invokevirtual 64, 3) := by decide +kernel
theorem dX11_same_29 : decode cX11_same 29 = .ok (.ireturn, 1) := by decide +kernel
theorem dX11_same_30 : decode cX11_same 30 = .ok (.aload_n 0, 1) := by decide +kernel
theorem dX11_same_31 : decode cX11_same 31 = .ok (.getfield 16, 3) := by decide +kernel
theorem dX11_same_34 : decode cX11_same 34 = .ok (.iload_n 2, 1) := by decide +kernel
theorem dX11_same_35 : decode cX11_same 35 = .ok (.iaload, 1) := by decide +kernel
theorem dX11_same_36 : decode cX11_same 36 = .ok (.ifCond .eq 12, 3) := by decide +kernel
theorem dX11_same_39 : decode cX11_same 39 = .ok (.aload_n 0, 1) := by decide +kernel
theorem dX11_same_40 : decode cX11_same 40 = .ok (.getfield 16, 3) := by decide +kernel
theorem dX11_same_43 : decode cX11_same 43 = .ok (.iload_n 3, 1) := by decide +kernel
theorem dX11_same_44 : decode cX11_same 44 = .ok (.iaload, 1) := by decide +kernel
theorem dX11_same_45 : decode cX11_same 45 = .ok (.ifCond .ne 10, 3) := by decide +kernel
theorem dX11_same_48 : decode cX11_same 48 = .ok (.aload_n 0, 1) := by decide +kernel
theorem dX11_same_49 : decode cX11_same 49 = .ok (.ldc 168, 2) := by decide +kernel
theorem dX11_same_51 : decode cX11_same 51 = .ok (.invokevirtual 64, 3) := by decide +kernel
theorem dX11_same_54 : decode cX11_same 54 = .ok (.ireturn, 1) := by decide +kernel
theorem dX11_same_55 : decode cX11_same 55 = .ok (.aload_n 0, 1) := by decide +kernel
theorem dX11_same_56 : decode cX11_same 56 = .ok (.iload_n 1, 1) := by decide +kernel
theorem dX11_same_57 : decode cX11_same 57 = .ok (.iload_n 2, 1) := by decide +kernel
theorem dX11_same_58 : decode cX11_same 58 = .ok (.invokevirtual 169, 3) := by decide +kernel
theorem dX11_same_61 : decode cX11_same 61 = .ok (.ifCond .eq 12, 3) := by decide +kernel
theorem dX11_same_64 : decode cX11_same 64 = .ok (.aload_n 0, 1) := by decide +kernel
theorem dX11_same_65 : decode cX11_same 65 = .ok (.iload_n 1, 1) := by decide +kernel
theorem dX11_same_66 : decode cX11_same 66 = .ok (.iload_n 3, 1) := by decide +kernel
theorem dX11_same_67 : decode cX11_same 67 = .ok (.invokevirtual 169, 3) := by decide +kernel
theorem dX11_same_70 : decode cX11_same 70 = .ok (.ifCond .ne 10, 3) := by decide +kernel
theorem dX11_same_73 : decode cX11_same 73 = .ok (.aload_n 0, 1) := by decide +kernel
theorem dX11_same_74 : decode cX11_same 74 = .ok (.ldc 76, 2) := by decide +kernel
theorem dX11_same_76 : decode cX11_same 76 = .ok (.invokevirtual 64, 3) := by decide +kernel
theorem dX11_same_79 : decode cX11_same 79 = .ok (.ireturn, 1) := by decide +kernel
theorem dX11_same_80 : decode cX11_same 80 = .ok (.aload_n 0, 1) := by decide +kernel
theorem dX11_same_81 : decode cX11_same 81 = .ok (.iload_n 1, 1) := by decide +kernel
theorem dX11_same_82 : decode cX11_same 82 = .ok (.iload_n 2, 1) := by decide +kernel
theorem dX11_same_83 : decode cX11_same 83 = .ok (.iconst 2, 1) := by decide +kernel
theorem dX11_same_84 : decode cX11_same 84 = .ok (.invokevirtual 172, 3) := by decide +kernel
theorem dX11_same_87 : decode cX11_same 87 = .ok (.ifCond .eq 13, 3) := by decide +kernel
theorem dX11_same_90 : decode cX11_same 90 = .ok (.aload_n 0, 1) := by decide +kernel
theorem dX11_same_91 : decode cX11_same 91 = .ok (.iload_n 1, 1) := by decide +kernel
theorem dX11_same_92 : decode cX11_same 92 = .ok (.iload_n 3, 1) := by decide +kernel
theorem dX11_same_93 : decode cX11_same 93 = .ok (.iconst 3, 1) := by decide +kernel
theorem dX11_same_94 : decode cX11_same 94 = .ok (.invokevirtual 172, 3) := by decide +kernel
theorem dX11_same_97 : decode cX11_same 97 = .ok (.ifCond .ne 10, 3) := by decide +kernel
theorem dX11_same_100 : decode cX11_same 100 = .ok (.aload_n 0, 1) := by decide +kernel
theorem dX11_same_101 : decode cX11_same 101 = .ok (.ldc 78, 2) := by decide +kernel
theorem dX11_same_103 : decode cX11_same 103 = .ok (.invokevirtual 64, 3) := by decide +kernel
theorem dX11_same_106 : decode cX11_same 106 = .ok (.ireturn, 1) := by decide +kernel
theorem dX11_same_107 : decode cX11_same 107 = .ok (.iconst 0, 1) := by decide +kernel
theorem dX11_same_108 : decode cX11_same 108 = .ok (.istore 4, 2) := by decide +kernel
theorem dX11_same_110 : decode cX11_same 110 = .ok (.iload 4, 2) := by decide +kernel
theorem dX11_same_112 : decode cX11_same 112 = .ok (.iload_n 1, 1) := by decide +kernel
theorem dX11_same_113 : decode cX11_same 113 = .ok (.if_icmp .ge 97, 3) := by decide +kernel
theorem dX11_same_116 : decode cX11_same 116 = .ok (.aload_n 0, 1) := by decide +kernel
theorem dX11_same_117 : decode cX11_same 117 = .ok (.getfield 37, 3) := by decide +kernel
theorem dX11_same_120 : decode cX11_same 120 = .ok (.bipush 10, 2) := by decide +kernel
theorem dX11_same_122 : decode cX11_same 122 = .ok (.iload 4, 2) := by decide +kernel
theorem dX11_same_124 : decode cX11_same 124 = .ok (.iadd, 1) := by decide +kernel
theorem dX11_same_125 : decode cX11_same 125 = .ok (.iaload, 1) := by decide +kernel
theorem dX11_same_126 : decode cX11_same 126 = .ok (.aload_n 0, 1) := by decide +kernel
theorem dX11_same_127 : decode cX11_same 127 = .ok (.getfield 37, 3) := by decide +kernel
theorem dX11_same_130 : decode cX11_same 130 = .ok (.bipush 15, 2) := by decide +kernel
theorem dX11_same_132 : decode cX11_same 132 = .ok (.iload 4, 2) := by decide +kernel
theorem dX11_same_134 : decode cX11_same 134 = .ok (.iadd, 1) := by decide +kernel
theorem dX11_same_135 : decode cX11_same 135 = .ok (.iaload, 1) := by decide +kernel
theorem dX11_same_136 : decode cX11_same 136 = .ok (.if_icmp .eq 5, 3) := by decide +kernel
theorem dX11_same_139 : decode cX11_same 139 = .ok (.iconst 0, 1) := by decide +kernel
theorem dX11_same_140 : decode cX11_same 140 = .ok (.ireturn, 1) := by decide +kernel
theorem dX11_same_141 : decode cX11_same 141 = .ok (.iconst 0, 1) := by decide +kernel
theorem dX11_same_142 : decode cX11_same 142 = .ok (.istore 5, 2) := by decide +kernel
theorem dX11_same_144 : decode cX11_same 144 = .ok (.iload 5, 2) := by decide +kernel
theorem dX11_same_146 : decode cX11_same 146 = .ok (.aload_n 0, 1) := by decide +kernel
theorem dX11_same_147 : decode cX11_same 147 = .ok (.getfield 37, 3) := by decide +kernel
theorem dX11_same_150 : decode cX11_same 150 = .ok (.bipush 10, 2) := by decide +kernel
theorem dX11_same_152 : decode cX11_same 152 = .ok (.iload 4, 2) := by decide +kernel
theorem dX11_same_154 : decode cX11_same 154 = .ok (.iadd, 1) := by decide +kernel
theorem dX11_same_155 : decode cX11_same 155 = .ok (.iaload, 1) := by decide +kernel
theorem dX11_same_156 : decode cX11_same 156 = .ok (.if_icmp .ge 48, 3) := by decide +kernel
theorem dX11_same_159 : decode cX11_same 159 = .ok (.aload_n 0, 1) := by decide +kernel
theorem dX11_same_160 : decode cX11_same 160 = .ok (.getfield 34, 3) := by decide +kernel
theorem dX11_same_163 : decode cX11_same 163 = .ok (.sipush 600, 3) := by decide +kernel
theorem dX11_same_166 : decode cX11_same 166 = .ok (.bipush 60, 2) := by decide +kernel
theorem dX11_same_168 : decode cX11_same 168 = .ok (.iload 4, 2) := by decide +kernel
theorem dX11_same_170 : decode cX11_same 170 = .ok (.imul, 1) := by decide +kernel
theorem dX11_same_171 : decode cX11_same 171 = .ok (.iadd, 1) := by decide +kernel
theorem dX11_same_172 : decode cX11_same 172 = .ok (.iload 5, 2) := by decide +kernel
theorem dX11_same_174 : decode cX11_same 174 = .ok (.iadd, 1) := by decide +kernel
theorem dX11_same_175 : decode cX11_same 175 = .ok (.iaload, 1) := by decide +kernel
theorem dX11_same_176 : decode cX11_same 176 = .ok (.aload_n 0, 1) := by decide +kernel
theorem dX11_same_177 : decode cX11_same 177 = .ok (.getfield 34, 3) := by decide +kernel
theorem dX11_same_180 : decode cX11_same 180 = .ok (.sipush 900, 3) := by decide +kernel
theorem dX11_same_183 : decode cX11_same 183 = .ok (.bipush 60, 2) := by decide +kernel
theorem dX11_same_185 : decode cX11_same 185 = .ok (.iload 4, 2) := by decide +kernel
theorem dX11_same_187 : decode cX11_same 187 = .ok (.imul, 1) := by decide +kernel
theorem dX11_same_188 : decode cX11_same 188 = .ok (.iadd, 1) := by decide +kernel
theorem dX11_same_189 : decode cX11_same 189 = .ok (.iload 5, 2) := by decide +kernel
theorem dX11_same_191 : decode cX11_same 191 = .ok (.iadd, 1) := by decide +kernel
theorem dX11_same_192 : decode cX11_same 192 = .ok (.iaload, 1) := by decide +kernel
theorem dX11_same_193 : decode cX11_same 193 = .ok (.if_icmp .eq 5, 3) := by decide +kernel
theorem dX11_same_196 : decode cX11_same 196 = .ok (.iconst 0, 1) := by decide +kernel
theorem dX11_same_197 : decode cX11_same 197 = .ok (.ireturn, 1) := by decide +kernel
theorem dX11_same_198 : decode cX11_same 198 = .ok (.iinc 5 1, 3) := by decide +kernel
theorem dX11_same_201 : decode cX11_same 201 = .ok (.goto (-57), 3) := by decide +kernel
theorem dX11_same_204 : decode cX11_same 204 = .ok (.iinc 4 1, 3) := by decide +kernel
theorem dX11_same_207 : decode cX11_same 207 = .ok (.goto (-97), 3) := by decide +kernel
theorem dX11_same_210 : decode cX11_same 210 = .ok (.iconst 1, 1) := by decide +kernel
theorem dX11_same_211 : decode cX11_same 211 = .ok (.ireturn, 1) := by decide +kernel
theorem dX11_sharp_0 : decode cX11_sharp 0 = .ok (.aload_n 0, 1) := by decide +kernel
theorem dX11_sharp_1 : decode cX11_sharp 1 = .ok (.iload_n 1, 1) := by decide +kernel
theorem dX11_sharp_2 : decode cX11_sharp 2 = .ok (.invokevirtual 156, 3) := by decide +kernel
theorem dX11_sharp_5 : decode cX11_sharp 5 = .ok (.ifCond .eq 13, 3) := by decide +kernel
theorem dX11_sharp_8 : decode cX11_sharp 8 = .ok (.iload_n 2, 1) := by decide +kernel
theorem dX11_sharp_9 : decode cX11_sharp 9 = .ok (.iconst 0, 1) := by decide +kernel
theorem dX11_sharp_10 : decode cX11_sharp 10 = .ok (.bipush 9, 2) := by decide +kernel
theorem dX11_sharp_12 : decode cX11_sharp 12 = .ok (.invokestatic 68, 3) := by decide +kernel
theorem dX11_sharp_15 : decode cX11_sharp 15 = .ok (.ifCond .ne 10, 3) := by decide +kernel
theorem dX11_sharp_18 : decode cX11_sharp 18 = .ok (.aload_n 0, 1) := by decide +kernel
theorem dX11_sharp_19 : decode cX11_sharp 19 = .ok (.ldc 76, 2) := by decide +kernel
theorem dX11_sharp_21 : decode cX11_sharp 21 = .ok (.invokevirtual 64, 3) := by decide +kernel
theorem dX11_sharp_24 : decode cX11_sharp 24 = .ok (.ireturn, 1) := by decide +kernel
theorem dX11_sharp_25 : decode cX11_sharp 25 = .ok (.aload_n 0, 1) := by decide +kernel
theorem dX11_sharp_26 : decode cX11_sharp 26 = .ok (.invokevirtual 79, 3) := by decide +kernel
theorem dX11_sharp_29 : decode cX11_sharp 29 = .ok (.aload_n 0, 1) := by decide +kernel
theorem dX11_sharp_30 : decode cX11_sharp 30 = .ok (.getfield 7, 3) := by decide +kernel
theorem dX11_sharp_33 : decode cX11_sharp 33 = .ok (.sipush 242, 3) := by decide +kernel
theorem dX11_sharp_36 : decode cX11_sharp 36 = .ok (.iload_n 1, 1) := by decide +kernel
theorem dX11_sharp_37 : decode cX11_sharp 37 = .ok (.iadd, 1) := by decide +kernel
theorem dX11_sharp_38 : decode cX11_sharp 38 = .ok (.iaload, 1) := by decide +kernel
theorem dX11_sharp_39 : decode cX11_sharp 39 = .ok (.istore_n 3, 1) := by decide +kernel
theorem dX11_sharp_40 : decode cX11_sharp 40 = .ok (.aload_n 0, 1) := by decide +kernel
theorem dX11_sharp_41 : decode cX11_sharp 41 = .ok (.getfield 7, 3) := by decide +kernel
theorem dX11_sharp_44 : decode cX11_sharp 44 = .ok (.sipush 242, 3) := by decide +kernel
theorem dX11_sharp_47 : decode cX11_sharp 47 = .ok (.iload_n 1, 1) := by decide +kernel
theorem dX11_sharp_48 : decode cX11_sharp 48 = .ok (.iadd, 1) := by decide +kernel
theorem dX11_sharp_49 : decode cX11_sharp 49 = .ok (.iload_n 2, 1) := by decide +kernel
theorem dX11_sharp_50 : decode cX11_sharp 50 = .ok (.iastore, 1) := by decide +kernel
theorem dX11_sharp_51 : decode cX11_sharp 51 = .ok (.iload_n 3, 1) := by decide +kernel
theorem dX11_sharp_52 : decode cX11_sharp 52 = .ok (.ireturn, 1) := by decide +kernel
theorem dX11_wear_0 : decode cX11_wear 0 = .ok (.aload_n 0, 1) := by decide +kernel
theorem dX11_wear_1 : decode cX11_wear 1 = .ok (.iload_n 1, 1) := by decide +kernel
theorem dX11_wear_2 : decode cX11_wear 2 = .ok (.invokevirtual 156, 3) := by decide +kernel
theorem dX11_wear_5 : decode cX11_wear 5 = .ok (.ifCond .eq 16, 3) := by decide +kernel
theorem dX11_wear_8 : decode cX11_wear 8 = .ok (.aload_n 0, 1) := by decide +kernel
theorem dX11_wear_9 : decode cX11_wear 9 = .ok (.getfield 7, 3) := by decide +kernel
theorem dX11_wear_12 : decode cX11_wear 12 = .ok (.sipush 237, 3) := by decide +kernel
theorem dX11_wear_15 : decode cX11_wear 15 = .ok (.iload_n 1, 1) := by decide +kernel
theorem dX11_wear_16 : decode cX11_wear 16 = .ok (.iadd, 1) := by decide +kernel
theorem dX11_wear_17 : decode cX11_wear 17 = .ok (.iaload, 1) := by decide +kernel
theorem dX11_wear_18 : decode cX11_wear 18 = .ok (.goto 9, 3) := by decide +kernel
theorem dX11_wear_21 : decode cX11_wear 21 = .ok (.aload_n 0, 1) := by decide +kernel
theorem dX11_wear_22 : decode cX11_wear 22 = .ok (.ldc 76, 2) := by decide +kernel
theorem dX11_wear_24 : decode cX11_wear 24 = .ok (.invokevirtual 64, 3) := by decide +kernel
theorem dX11_wear_27 : decode cX11_wear 27 = .ok (.ireturn, 1) := by decide +kernel
theorem dX11_lost_0 : decode cX11_lost 0 = .ok (.iconst 0, 1) := by decide +kernel
theorem dX11_lost_1 : decode cX11_lost 1 = .ok (.istore_n 1, 1) := by decide +kernel
theorem dX11_lost_2 : decode cX11_lost 2 = .ok (.iconst 0, 1) := by decide +kernel
theorem dX11_lost_3 : decode cX11_lost 3 = .ok (.istore_n 2, 1) := by decide +kernel
theorem dX11_lost_4 : decode cX11_lost 4 = .ok (.iload_n 2, 1) := by decide +kernel
theorem dX11_lost_5 : decode cX11_lost 5 = .ok (.aload_n 0, 1) := by decide +kernel
theorem dX11_lost_6 : decode cX11_lost 6 = .ok (.getfield 7, 3) := by decide +kernel
theorem dX11_lost_9 : decode cX11_lost 9 = .ok (.iconst 1, 1) := by decide +kernel
theorem dX11_lost_10 : decode cX11_lost 10 = .ok (.iaload, 1) := by decide +kernel
theorem dX11_lost_11 : decode cX11_lost 11 = .ok (.if_icmp .ge 27, 3) := by decide +kernel
theorem dX11_lost_14 : decode cX11_lost 14 = .ok (.iload_n 1, 1) := by decide +kernel
theorem dX11_lost_15 : decode cX11_lost 15 = .ok (.aload_n 0, 1) := by decide +kernel
theorem dX11_lost_16 : decode cX11_lost 16 = .ok (.iload_n 2, 1) := by decide +kernel
theorem dX11_lost_17 : decode cX11_lost 17 = .ok (.invokevirtual 138, 3) := by decide +kernel
theorem dX11_lost_20 : decode cX11_lost 20 = .ok (.ifCond .eq 9, 3) := by decide +kernel
theorem dX11_lost_23 : decode cX11_lost 23 = .ok (.iconst 1, 1) := by decide +kernel
theorem dX11_lost_24 : decode cX11_lost 24 = .ok (.iload_n 2, 1) := by decide +kernel
theorem dX11_lost_25 : decode cX11_lost 25 = .ok (.ishl, 1) := by decide +kernel
theorem dX11_lost_26 : decode cX11_lost 26 = .ok (.goto 4, 3) := by decide +kernel
theorem dX11_lost_29 : decode cX11_lost 29 = .ok (.iconst 0, 1) := by decide +kernel
theorem dX11_lost_30 : decode cX11_lost 30 = .ok (.ior, 1) := by decide +kernel
theorem dX11_lost_31 : decode cX11_lost 31 = .ok (.istore_n 1, 1) := by decide +kernel
theorem dX11_lost_32 : decode cX11_lost 32 = .ok (.iinc 2 1, 3) := by decide +kernel
theorem dX11_lost_35 : decode cX11_lost 35 = .ok (.goto (-31), 3) := by decide +kernel
theorem dX11_lost_38 : decode cX11_lost 38 = .ok (.iload_n 1, 1) := by decide +kernel
theorem dX11_lost_39 : decode cX11_lost 39 = .ok (.ireturn, 1) := by decide +kernel
theorem dX11_sheet_0 : decode cX11_sheet 0 = .ok (.iload_n 1, 1) := by decide +kernel
theorem dX11_sheet_1 : decode cX11_sheet 1 = .ok (.invokestatic 165, 3) := by decide +kernel
theorem dX11_sheet_4 : decode cX11_sheet 4 = .ok (.ifCond .eq 25, 3) := by decide +kernel
theorem dX11_sheet_7 : decode cX11_sheet 7 = .ok (.iload_n 2, 1) := by decide +kernel
theorem dX11_sheet_8 : decode cX11_sheet 8 = .ok (.ifCond .eq 28, 3) := by decide +kernel
theorem dX11_sheet_11 : decode cX11_sheet 11 = .ok (.iload_n 2, 1) := by decide +kernel
theorem dX11_sheet_12 : decode cX11_sheet 12 = .ok (.bipush 8, 2) := by decide +kernel
theorem dX11_sheet_14 : decode cX11_sheet 14 = .ok (.if_icmp .eq 22, 3) := by decide +kernel
theorem dX11_sheet_17 : decode cX11_sheet 17 = .ok (.iload_n 2, 1) := by decide +kernel
theorem dX11_sheet_18 : decode cX11_sheet 18 = .ok (.bipush 16, 2) := by decide +kernel
theorem dX11_sheet_20 : decode cX11_sheet 20 = .ok (.if_icmp .eq 16, 3) := by decide +kernel
theorem dX11_sheet_23 : decode cX11_sheet 23 = .ok (.iload_n 2, 1) := by decide +kernel
theorem dX11_sheet_24 : decode cX11_sheet 24 = .ok (.bipush 32, 2) := by decide +kernel
theorem dX11_sheet_26 : decode cX11_sheet 26 = .ok (.if_icmp .eq 10, 3) := by decide +kernel
theorem dX11_sheet_29 : decode cX11_sheet 29 = .ok (.aload_n 0, 1) := by decide +kernel
theorem dX11_sheet_30 : decode cX11_sheet 30 = .ok (.ldc 76, 2) := by decide +kernel
theorem dX11_sheet_32 : decode cX11_sheet 32 = .ok (.invokevirtual 64, 3) := by decide +kernel
theorem dX11_sheet_35 : decode cX11_sheet 35 = .ok (.ireturn, 1) := by decide +kernel
theorem dX11_sheet_36 : decode cX11_sheet 36 = .ok (.iload_n 3, 1) := by decide +kernel
theorem dX11_sheet_37 : decode cX11_sheet 37 = .ok (.ifCond .ge 10, 3) := by decide +kernel
theorem dX11_sheet_40 : decode cX11_sheet 40 = .ok (.aload_n 0, 1) := by decide +kernel
theorem dX11_sheet_41 : decode cX11_sheet 41 = .ok (.ldc 77, 2) := by decide +kernel
theorem dX11_sheet_43 : decode cX11_sheet 43 = .ok (.invokevirtual 64, 3) := by decide +kernel
theorem dX11_sheet_46 : decode cX11_sheet 46 = .ok (.ireturn, 1) := by decide +kernel
theorem dX11_sheet_47 : decode cX11_sheet 47 = .ok (.iload_n 3, 1) := by decide +kernel
theorem dX11_sheet_48 : decode cX11_sheet 48 = .ok (.bipush 40, 2) := by decide +kernel
theorem dX11_sheet_50 : decode cX11_sheet 50 = .ok (.if_icmp .le 10, 3) := by decide +kernel
theorem dX11_sheet_53 : decode cX11_sheet 53 = .ok (.aload_n 0, 1) := by decide +kernel
theorem dX11_sheet_54 : decode cX11_sheet 54 = .ok (.ldc 76, 2) := by decide +kernel
theorem dX11_sheet_56 : decode cX11_sheet 56 = .ok (.invokevirtual 64, 3) := by decide +kernel
theorem dX11_sheet_59 : decode cX11_sheet 59 = .ok (.ireturn, 1) := by decide +kernel
theorem dX11_sheet_60 : decode cX11_sheet 60 = .ok (.aload_n 0, 1) := by decide +kernel
theorem dX11_sheet_61 : decode cX11_sheet 61 = .ok (.getfield 16, 3) := by decide +kernel
theorem dX11_sheet_64 : decode cX11_sheet 64 = .ok (.iload_n 1, 1) := by decide +kernel
theorem dX11_sheet_65 : decode cX11_sheet 65 = .ok (.iload_n 2, 1) := by decide +kernel
theorem dX11_sheet_66 : decode cX11_sheet 66 = .ok (.iastore, 1) := by decide +kernel
theorem dX11_sheet_67 : decode cX11_sheet 67 = .ok (.aload_n 0, 1) := by decide +kernel
theorem dX11_sheet_68 : decode cX11_sheet 68 = .ok (.getfield 19, 3) := by decide +kernel
theorem dX11_sheet_71 : decode cX11_sheet 71 = .ok (.iload_n 1, 1) := by decide +kernel
theorem dX11_sheet_72 : decode cX11_sheet 72 = .ok (.iload_n 2, 1) := by decide +kernel
theorem dX11_sheet_73 : decode cX11_sheet 73 = .ok (.ifCond .ne 7, 3) := by decide +kernel
theorem dX11_sheet_76 : decode cX11_sheet 76 = .ok (.iconst 0, 1) := by decide +kernel
theorem dX11_sheet_77 : decode cX11_sheet 77 = .ok (.goto 4, 3) := by decide +kernel
theorem dX11_sheet_80 : decode cX11_sheet 80 = .ok (.iload_n 3, 1) := by decide +kernel
theorem dX11_sheet_81 : decode cX11_sheet 81 = .ok (.iastore, 1) := by decide +kernel
theorem dX11_sheet_82 : decode cX11_sheet 82 = .ok (.iconst 0, 1) := by decide +kernel
theorem dX11_sheet_83 : decode cX11_sheet 83 = .ok (.istore 4, 2) := by decide +kernel
theorem dX11_sheet_85 : decode cX11_sheet 85 = .ok (.iload 4, 2) := by decide +kernel
theorem dX11_sheet_87 : decode cX11_sheet 87 = .ok (.bipush 40, 2) := by decide +kernel
theorem dX11_sheet_89 : decode cX11_sheet 89 = .ok (.if_icmp .ge 22, 3) := by decide +kernel
theorem dX11_sheet_92 : decode cX11_sheet 92 = .ok (.aload_n 0, 1) := by decide +kernel
theorem dX11_sheet_93 : decode cX11_sheet 93 = .ok (.getfield 22, 3) := by decide +kernel
theorem dX11_sheet_96 : decode cX11_sheet 96 = .ok (.bipush 40, 2) := by decide +kernel
theorem dX11_sheet_98 : decode cX11_sheet 98 = .ok (.iload_n 1, 1) := by decide +kernel
theorem dX11_sheet_99 : decode cX11_sheet 99 = .ok (.imul, 1) := by decide +kernel
theorem dX11_sheet_100 : decode cX11_sheet 100 = .ok (.iload 4, 2) := by decide +kernel
theorem dX11_sheet_102 : decode cX11_sheet 102 = .ok (.iadd, 1) := by decide +kernel
theorem dX11_sheet_103 : decode cX11_sheet 103 = .ok (.iconst 0, 1) := by decide +kernel
theorem dX11_sheet_104 : decode cX11_sheet 104 = .ok (.iastore, 1) := by decide +kernel
theorem dX11_sheet_105 : decode cX11_sheet 105 = .ok (.iinc 4 1, 3) := by decide +kernel
theorem dX11_sheet_108 : decode cX11_sheet 108 = .ok (.goto (-23), 3) := by decide +kernel
theorem dX11_sheet_111 : decode cX11_sheet 111 = .ok (.aload_n 0, 1) := by decide +kernel
theorem dX11_sheet_112 : decode cX11_sheet 112 = .ok (.getfield 19, 3) := by decide +kernel
theorem dX11_sheet_115 : decode cX11_sheet 115 = .ok (.iload_n 1, 1) := by decide +kernel
theorem dX11_sheet_116 : decode cX11_sheet 116 = .ok (.iaload, 1) := by decide +kernel
theorem dX11_sheet_117 : decode cX11_sheet 117 = .ok (.ireturn, 1) := by decide +kernel
theorem dX11_put_0 : decode cX11_put 0 = .ok (.iload_n 1, 1) := by decide +kernel
theorem dX11_put_1 : decode cX11_put 1 = .ok (.invokestatic 165, 3) := by decide +kernel
theorem dX11_put_4 : decode cX11_put 4 = .ok (.ifCond .ne 10, 3) := by decide +kernel
theorem dX11_put_7 : decode cX11_put 7 = .ok (.aload_n 0, 1) := by decide +kernel
theorem dX11_put_8 : decode cX11_put 8 = .ok (.ldc 76, 2) := by decide +kernel
theorem dX11_put_10 : decode cX11_put 10 = .ok (.invokevirtual 64, 3) := by decide +kernel
theorem dX11_put_13 : decode cX11_put 13 = .ok (.ireturn, 1) := by decide +kernel
theorem dX11_put_14 : decode cX11_put 14 = .ok (.aload_n 0, 1) := by decide +kernel
theorem dX11_put_15 : decode cX11_put 15 = .ok (.getfield 16, 3) := by decide +kernel
theorem dX11_put_18 : decode cX11_put 18 = .ok (.iload_n 1, 1) := by decide +kernel
theorem dX11_put_19 : decode cX11_put 19 = .ok (.iaload, 1) := by decide +kernel
theorem dX11_put_20 : decode cX11_put 20 = .ok (.ifCond .ne 10, 3) := by decide +kernel
theorem dX11_put_23 : decode cX11_put 23 = .ok (.aload_n 0, 1) := by decide +kernel
theorem dX11_put_24 : decode cX11_put 24 = .ok (.ldc 168, 2) := by decide +kernel
theorem dX11_put_26 : decode cX11_put 26 = .ok (.invokevirtual 64, 3) := by decide +kernel
theorem dX11_put_29 : decode cX11_put 29 = .ok (.ireturn, 1) := by decide +kernel
theorem dX11_put_30 : decode cX11_put 30 = .ok (.iload_n 2, 1) := by decide +kernel
theorem dX11_put_31 : decode cX11_put 31 = .ok (.iconst 0, 1) := by decide +kernel
theorem dX11_put_32 : decode cX11_put 32 = .ok (.aload_n 0, 1) := by decide +kernel
theorem dX11_put_33 : decode cX11_put 33 = .ok (.getfield 19, 3) := by decide +kernel
theorem dX11_put_36 : decode cX11_put 36 = .ok (.iload_n 1, 1) := by decide +kernel
theorem dX11_put_37 : decode cX11_put 37 = .ok (.iaload, 1) := by decide +kernel
theorem dX11_put_38 : decode cX11_put 38 = .ok (.iconst 1, 1) := by decide +kernel
theorem dX11_put_39 : decode cX11_put 39 = .ok (.isub, 1) := by decide +kernel
theorem dX11_put_40 : decode cX11_put 40 = .ok (.invokestatic 68, 3) := by decide +kernel
theorem dX11_put_43 : decode cX11_put 43 = .ok (.ifCond .ne 10, 3) := by decide +kernel
theorem dX11_put_46 : decode cX11_put 46 = .ok (.aload_n 0, 1) := by decide +kernel
theorem dX11_put_47 : decode cX11_put 47 = .ok (.ldc 76, 2) := by decide +kernel
theorem dX11_put_49 : decode cX11_put 49 = .ok (.invokevirtual 64, 3) := by decide +kernel
theorem dX11_put_52 : decode cX11_put 52 = .ok (.ireturn, 1) := by decide +kernel
theorem dX11_put_53 : decode cX11_put 53 = .ok (.aload_n 0, 1) := by decide +kernel
theorem dX11_put_54 : decode cX11_put 54 = .ok (.getfield 22, 3) := by decide +kernel
theorem dX11_put_57 : decode cX11_put 57 = .ok (.bipush 40, 2) := by decide +kernel
theorem dX11_put_59 : decode cX11_put 59 = .ok (.iload_n 1, 1) := by decide +kernel
theorem dX11_put_60 : decode cX11_put 60 = .ok (.imul, 1) := by decide +kernel
theorem dX11_put_61 : decode cX11_put 61 = .ok (.iload_n 2, 1) := by decide +kernel
theorem dX11_put_62 : decode cX11_put 62 = .ok (.iadd, 1) := by decide +kernel
theorem dX11_put_63 : decode cX11_put 63 = .ok (.aload_n 0, 1) := by decide +kernel
theorem dX11_put_64 : decode cX11_put 64 = .ok (.getfield 16, 3) := by decide +kernel
theorem dX11_put_67 : decode cX11_put 67 = .ok (.iload_n 1, 1) := by decide +kernel
theorem dX11_put_68 : decode cX11_put 68 = .ok (.iaload, 1) := by decide +kernel
theorem dX11_put_69 : decode cX11_put 69 = .ok (.bipush 8, 2) := by decide +kernel
theorem dX11_put_71 : decode cX11_put 71 = .ok (.if_icmp .ne 8, 3) := by decide +kernel
theorem dX11_put_74 : decode cX11_put 74 = .ok (.iload_n 3, 1) := by decide +kernel
theorem dX11_put_75 : decode cX11_put 75 = .ok (.i2b, 1) := by decide +kernel
theorem dX11_put_76 : decode cX11_put 76 = .ok (.goto 20, 3) := by decide +kernel
theorem dX11_put_79 : decode cX11_put 79 = .ok (.aload_n 0, 1) := by decide +kernel
theorem dX11_put_80 : decode cX11_put 80 = .ok (.getfield 16, 3) := by decide +kernel
theorem dX11_put_83 : decode cX11_put 83 = .ok (.iload_n 1, 1) := by decide +kernel
theorem dX11_put_84 : decode cX11_put 84 = .ok (.iaload, 1) := by decide +kernel
theorem dX11_put_85 : decode cX11_put 85 = .ok (.bipush 16, 2) := by decide +kernel
theorem dX11_put_87 : decode cX11_put 87 = .ok (.if_icmp .ne 8, 3) := by decide +kernel
theorem dX11_put_90 : decode cX11_put 90 = .ok (.iload_n 3, 1) := by decide +kernel
theorem dX11_put_91 : decode cX11_put 91 = .ok (.i2s, 1) := by decide +kernel
theorem dX11_put_92 : decode cX11_put 92 = .ok (.goto 4, 3) := by decide +kernel
theorem dX11_put_95 : decode cX11_put 95 = .ok (.iload_n 3, 1) := by decide +kernel
theorem dX11_put_96 : decode cX11_put 96 = .ok (.iastore, 1) := by decide +kernel
theorem dX11_put_97 : decode cX11_put 97 = .ok (.iconst 0, 1) := by decide +kernel
theorem dX11_put_98 : decode cX11_put 98 = .ok (.ireturn, 1) := by decide +kernel
theorem dX11_copy_0 : decode cX11_copy 0 = .ok (.iload_n 1, 1) := by decide +kernel
theorem dX11_copy_1 : decode cX11_copy 1 = .ok (.invokestatic 165, 3) := by decide +kernel
theorem dX11_copy_4 : decode cX11_copy 4 = .ok (.ifCond .eq 10, 3) := by decide +kernel
theorem dX11_copy_7 : decode cX11_copy 7 = .ok (.iload_n 3, 1) := by decide +kernel
theorem dX11_copy_8 : decode cX11_copy 8 = .ok (.invokestatic 165, 3) := by decide +kernel
theorem dX11_copy_11 : decode cX11_copy 11 = .ok (.ifCond .ne 10, 3) := by decide +kernel
theorem dX11_copy_14 : decode cX11_copy 14 = .ok (.aload_n 0, 1) := by decide +kernel
theorem dX11_copy_15 : decode cX11_copy 15 = .ok (.ldc 76, 2) := by decide +kernel
theorem dX11_copy_17 : decode cX11_copy 17 = .ok (.invokevirtual 64, 3) := by decide +kernel
theorem dX11_copy_20 : decode cX11_copy 20 = .ok (.ireturn, 1) := by decide +kernel
theorem dX11_copy_21 : decode cX11_copy 21 = .ok (.aload_n 0, 1) := by decide +kernel
theorem dX11_copy_22 : decode cX11_copy 22 = .ok (.getfield 16, 3) := by decide +kernel
theorem dX11_copy_25 : decode cX11_copy 25 = .ok (.iload_n 1, 1) := by decide +kernel
theorem dX11_copy_26 : decode cX11_copy 26 = .ok (.iaload, 1) := by decide +kernel
theorem dX11_copy_27 : decode cX11_copy 27 = .ok (.ifCond .eq 12, 3) := by decide +kernel
theorem dX11_copy_30 : decode cX11_copy 30 = .ok (.aload_n 0, 1) := by decide +kernel
theorem dX11_copy_31 : decode cX11_copy 31 = .ok (.getfield 16, 3) := by decide +kernel
theorem dX11_copy_34 : decode cX11_copy 34 = .ok (.iload_n 3, 1) := by decide +kernel
theorem dX11_copy_35 : decode cX11_copy 35 = .ok (.iaload, 1) := by decide +kernel
theorem dX11_copy_36 : decode cX11_copy 36 = .ok (.ifCond .ne 10, 3) := by decide +kernel
theorem dX11_copy_39 : decode cX11_copy 39 = .ok (.aload_n 0, 1) := by decide +kernel
theorem dX11_copy_40 : decode cX11_copy 40 = .ok (.ldc 168, 2) := by decide +kernel
theorem dX11_copy_42 : decode cX11_copy 42 = .ok (.invokevirtual 64, 3) := by decide +kernel
theorem dX11_copy_45 : decode cX11_copy 45 = .ok (.ireturn, 1) := by decide +kernel
theorem dX11_copy_46 : decode cX11_copy 46 = .ok (.aload_n 0, 1) := by decide +kernel
theorem dX11_copy_47 : decode cX11_copy 47 = .ok (.getfield 16, 3) := by decide +kernel
theorem dX11_copy_50 : decode cX11_copy 50 = .ok (.iload_n 1, 1) := by decide +kernel
theorem dX11_copy_51 : decode cX11_copy 51 = .ok (.iaload, 1) := by decide +kernel
theorem dX11_copy_52 : decode cX11_copy 52 = .ok (.aload_n 0, 1) := by decide +kernel
theorem dX11_copy_53 : decode cX11_copy 53 = .ok (.getfield 16, 3) := by decide +kernel
theorem dX11_copy_56 : decode cX11_copy 56 = .ok (.iload_n 3, 1) := by decide +kernel
theorem dX11_copy_57 : decode cX11_copy 57 = .ok (.iaload, 1) := by decide +kernel
theorem dX11_copy_58 : decode cX11_copy 58 = .ok (.if_icmp .eq 10, 3) := by decide +kernel
theorem dX11_copy_61 : decode cX11_copy 61 = .ok (.aload_n 0, 1) := by decide +kernel
theorem dX11_copy_62 : decode cX11_copy 62 = .ok (.ldc 89, 2) := by decide +kernel
theorem dX11_copy_64 : decode cX11_copy 64 = .ok (.invokevirtual 64, 3) := by decide +kernel
theorem dX11_copy_67 : decode cX11_copy 67 = .ok (.ireturn, 1) := by decide +kernel
theorem dX11_copy_68 : decode cX11_copy 68 = .ok (.iload_n 2, 1) := by decide +kernel
theorem dX11_copy_69 : decode cX11_copy 69 = .ok (.ifCond .lt 48, 3) := by decide +kernel
theorem dX11_copy_72 : decode cX11_copy 72 = .ok (.iload 4, 2) := by decide +kernel
theorem dX11_copy_74 : decode cX11_copy 74 = .ok (.ifCond .lt 43, 3) := by decide +kernel
theorem dX11_copy_77 : decode cX11_copy 77 = .ok (.iload 5, 2) := by decide +kernel
theorem dX11_copy_79 : decode cX11_copy 79 = .ok (.ifCond .lt 38, 3) := by decide +kernel
theorem dX11_copy_82 : decode cX11_copy 82 = .ok (.iload_n 2, 1) := by decide +kernel
theorem dX11_copy_83 : decode cX11_copy 83 = .ok (.i2l, 1) := by decide +kernel
theorem dX11_copy_84 : decode cX11_copy 84 = .ok (.iload 5, 2) := by decide +kernel
theorem dX11_copy_86 : decode cX11_copy 86 = .ok (.i2l, 1) := by decide +kernel
theorem dX11_copy_87 : decode cX11_copy 87 = .ok (.ladd, 1) := by decide +kernel
theorem dX11_copy_88 : decode cX11_copy 88 = .ok (.aload_n 0, 1) := by decide +kernel
theorem dX11_copy_89 : decode cX11_copy 89 = .ok (.getfield 19, 3) := by decide +kernel
theorem dX11_copy_92 : decode cX11_copy 92 = .ok (.iload_n 1, 1) := by decide +kernel
theorem dX11_copy_93 : decode cX11_copy 93 = .ok (.iaload, 1) := by decide +kernel
theorem dX11_copy_94 : decode cX11_copy 94 = .ok (.i2l, 1) := by decide +kernel
theorem dX11_copy_95 : decode cX11_copy 95 = .ok (.lcmp, 1) := by decide +kernel
theorem dX11_copy_96 : decode cX11_copy 96 = .ok (.ifCond .gt 21, 3) := by decide +kernel
theorem dX11_copy_99 : decode cX11_copy 99 = .ok (.iload 4, 2) := by decide +kernel
theorem dX11_copy_101 : decode cX11_copy 101 = .ok (.i2l, 1) := by decide +kernel
theorem dX11_copy_102 : decode cX11_copy 102 = .ok (.iload 5, 2) := by decide +kernel
theorem dX11_copy_104 : decode cX11_copy 104 = .ok (.i2l, 1) := by decide +kernel
theorem dX11_copy_105 : decode cX11_copy 105 = .ok (.ladd, 1) := by decide +kernel
theorem dX11_copy_106 : decode cX11_copy 106 = .ok (.aload_n 0, 1) := by decide +kernel
theorem dX11_copy_107 : decode cX11_copy 107 = .ok (.getfield 19, 3) := by decide +kernel
theorem dX11_copy_110 : decode cX11_copy 110 = .ok (.iload_n 3, 1) := by decide +kernel
theorem dX11_copy_111 : decode cX11_copy 111 = .ok (.iaload, 1) := by decide +kernel
theorem dX11_copy_112 : decode cX11_copy 112 = .ok (.i2l, 1) := by decide +kernel
theorem dX11_copy_113 : decode cX11_copy 113 = .ok (.lcmp, 1) := by decide +kernel
theorem dX11_copy_114 : decode cX11_copy 114 = .ok (.ifCond .le 10, 3) := by decide +kernel
theorem dX11_copy_117 : decode cX11_copy 117 = .ok (.aload_n 0, 1) := by decide +kernel
theorem dX11_copy_118 : decode cX11_copy 118 = .ok (.ldc 76, 2) := by decide +kernel
theorem dX11_copy_120 : decode cX11_copy 120 = .ok (.invokevirtual 64, 3) := by decide +kernel
theorem dX11_copy_123 : decode cX11_copy 123 = .ok (.ireturn, 1) := by decide +kernel
theorem dX11_copy_124 : decode cX11_copy 124 = .ok (.iconst 0, 1) := by decide +kernel
theorem dX11_copy_125 : decode cX11_copy 125 = .ok (.istore 6, 2) := by decide +kernel
theorem dX11_copy_127 : decode cX11_copy 127 = .ok (.iload 6, 2) := by decide +kernel
theorem dX11_copy_129 : decode cX11_copy 129 = .ok (.iload 5, 2) := by decide +kernel
theorem dX11_copy_131 : decode cX11_copy 131 = .ok (.if_icmp .ge 30, 3) := by decide +kernel
theorem dX11_copy_134 : decode cX11_copy 134 = .ok (.aload_n 0, 1) := by decide +kernel
theorem dX11_copy_135 : decode cX11_copy 135 = .ok (.getfield 46, 3) := by decide +kernel
theorem dX11_copy_138 : decode cX11_copy 138 = .ok (.iload 6, 2) := by decide +kernel
theorem dX11_copy_140 : decode cX11_copy 140 = .ok (.aload_n 0, 1) := by decide +kernel
theorem dX11_copy_141 : decode cX11_copy 141 = .ok (.getfield 22, 3) := by decide +kernel
theorem dX11_copy_144 : decode cX11_copy 144 = .ok (.bipush 40, 2) := by decide +kernel
theorem dX11_copy_146 : decode cX11_copy 146 = .ok (.iload_n 1, 1) := by decide +kernel
theorem dX11_copy_147 : decode cX11_copy 147 = .ok (.imul, 1) := by decide +kernel
theorem dX11_copy_148 : decode cX11_copy 148 = .ok (.iload_n 2, 1) := by decide +kernel
theorem dX11_copy_149 : decode cX11_copy 149 = .ok (.iadd, 1) := by decide +kernel
theorem dX11_copy_150 : decode cX11_copy 150 = .ok (.iload 6, 2) := by decide +kernel
theorem dX11_copy_152 : decode cX11_copy 152 = .ok (.iadd, 1) := by decide +kernel
theorem dX11_copy_153 : decode cX11_copy 153 = .ok (.iaload, 1) := by decide +kernel
theorem dX11_copy_154 : decode cX11_copy 154 = .ok (.iastore, 1) := by decide +kernel
theorem dX11_copy_155 : decode cX11_copy 155 = .ok (.iinc 6 1, 3) := by decide +kernel
theorem dX11_copy_158 : decode cX11_copy 158 = .ok (.goto (-31), 3) := by decide +kernel
theorem dX11_copy_161 : decode cX11_copy 161 = .ok (.iconst 0, 1) := by decide +kernel
theorem dX11_copy_162 : decode cX11_copy 162 = .ok (.istore 6, 2) := by decide +kernel
theorem dX11_copy_164 : decode cX11_copy 164 = .ok (.iload 6, 2) := by decide +kernel
theorem dX11_copy_166 : decode cX11_copy 166 = .ok (.iload 5, 2) := by decide +kernel
theorem dX11_copy_168 : decode cX11_copy 168 = .ok (.if_icmp .ge 31, 3) := by decide +kernel
theorem dX11_copy_171 : decode cX11_copy 171 = .ok (.aload_n 0, 1) := by decide +kernel
theorem dX11_copy_172 : decode cX11_copy 172 = .ok (.getfield 22, 3) := by decide +kernel
theorem dX11_copy_175 : decode cX11_copy 175 = .ok (.bipush 40, 2) := by decide +kernel
theorem dX11_copy_177 : decode cX11_copy 177 = .ok (.iload_n 3, 1) := by decide +kernel
theorem dX11_copy_178 : decode cX11_copy 178 = .ok (.imul, 1) := by decide +kernel
theorem dX11_copy_179 : decode cX11_copy 179 = .ok (.iload 4, 2) := by decide +kernel
theorem dX11_copy_181 : decode cX11_copy 181 = .ok (.iadd, 1) := by decide +kernel
theorem dX11_copy_182 : decode cX11_copy 182 = .ok (.iload 6, 2) := by decide +kernel
theorem dX11_copy_184 : decode cX11_copy 184 = .ok (.iadd, 1) := by decide +kernel
theorem dX11_copy_185 : decode cX11_copy 185 = .ok (.aload_n 0, 1) := by decide +kernel
theorem dX11_copy_186 : decode cX11_copy 186 = .ok (.getfield 46, 3) := by decide +kernel
theorem dX11_copy_189 : decode cX11_copy 189 = .ok (.iload 6, 2) := by decide +kernel
theorem dX11_copy_191 : decode cX11_copy 191 = .ok (.iaload, 1) := by decide +kernel
theorem dX11_copy_192 : decode cX11_copy 192 = .ok (.iastore, 1) := by decide +kernel
theorem dX11_copy_193 : decode cX11_copy 193 = .ok (.iinc 6 1, 3) := by decide +kernel
theorem dX11_copy_196 : decode cX11_copy 196 = .ok (.goto (-32), 3) := by decide +kernel
theorem dX11_copy_199 : decode cX11_copy 199 = .ok (.iload 5, 2) := by decide +kernel
theorem dX11_copy_201 : decode cX11_copy 201 = .ok (.ireturn, 1) := by decide +kernel
theorem dX11_gusts_0 : decode cX11_gusts 0 = .ok (.iload_n 1, 1) := by decide +kernel
theorem dX11_gusts_1 : decode cX11_gusts 1 = .ok (.invokestatic 72, 3) := by decide +kernel
theorem dX11_gusts_4 : decode cX11_gusts 4 = .ok (.ifCond .eq 17, 3) := by decide +kernel
theorem dX11_gusts_7 : decode cX11_gusts 7 = .ok (.iload_n 2, 1) := by decide +kernel
theorem dX11_gusts_8 : decode cX11_gusts 8 = .ok (.invokestatic 93, 3) := by decide +kernel
theorem dX11_gusts_11 : decode cX11_gusts 11 = .ok (.ifCond .eq 10, 3) := by decide +kernel
theorem dX11_gusts_14 : decode cX11_gusts 14 = .ok (.iload_n 3, 1) := by decide +kernel
theorem dX11_gusts_15 : decode cX11_gusts 15 = .ok (.invokestatic 165, 3) := by decide +kernel
theorem dX11_gusts_18 : decode cX11_gusts 18 = .ok (.ifCond .ne 10, 3) := by decide +kernel
theorem dX11_gusts_21 : decode cX11_gusts 21 = .ok (.aload_n 0, 1) := by decide +kernel
theorem dX11_gusts_22 : decode cX11_gusts 22 = .ok (.ldc 76, 2) := by decide +kernel
theorem dX11_gusts_24 : decode cX11_gusts 24 = .ok (.invokevirtual 64, 3) := by decide +kernel
theorem dX11_gusts_27 : decode cX11_gusts 27 = .ok (.ireturn, 1) := by decide +kernel
theorem dX11_gusts_28 : decode cX11_gusts 28 = .ok (.aload_n 0, 1) := by decide +kernel
theorem dX11_gusts_29 : decode cX11_gusts 29 = .ok (.getfield 16, 3) := by decide +kernel
theorem dX11_gusts_32 : decode cX11_gusts 32 = .ok (.iload_n 3, 1) := by decide +kernel
theorem dX11_gusts_33 : decode cX11_gusts 33 = .ok (.iaload, 1) := by decide +kernel
theorem dX11_gusts_34 : decode cX11_gusts 34 = .ok (.ifCond .ne 10, 3) := by decide +kernel
theorem dX11_gusts_37 : decode cX11_gusts 37 = .ok (.aload_n 0, 1) := by decide +kernel
theorem dX11_gusts_38 : decode cX11_gusts 38 = .ok (.ldc 168, 2) := by decide +kernel
theorem dX11_gusts_40 : decode cX11_gusts 40 = .ok (.invokevirtual 64, 3) := by decide +kernel
theorem dX11_gusts_43 : decode cX11_gusts 43 = .ok (.ireturn, 1) := by decide +kernel
theorem dX11_gusts_44 : decode cX11_gusts 44 = .ok (.iload_n 2, 1) := by decide +kernel
theorem dX11_gusts_45 : decode cX11_gusts 45 = .ok (.aload_n 0, 1) := by decide +kernel
theorem dX11_gusts_46 : decode cX11_gusts 46 = .ok (.getfield 19, 3) := by decide +kernel
theorem dX11_gusts_49 : decode cX11_gusts 49 = .ok (.iload_n 3, 1) := by decide +kernel
theorem dX11_gusts_50 : decode cX11_gusts 50 = .ok (.iaload, 1) := by decide +kernel
theorem dX11_gusts_51 : decode cX11_gusts 51 = .ok (.iadd, 1) := by decide +kernel
theorem dX11_gusts_52 : decode cX11_gusts 52 = .ok (.bipush 20, 2) := by decide +kernel
theorem dX11_gusts_54 : decode cX11_gusts 54 = .ok (.if_icmp .le 10, 3) := by decide +kernel
theorem dX11_gusts_57 : decode cX11_gusts 57 = .ok (.aload_n 0, 1) := by decide +kernel
theorem dX11_gusts_58 : decode cX11_gusts 58 = .ok (.ldc 77, 2) := by decide +kernel
theorem dX11_gusts_60 : decode cX11_gusts 60 = .ok (.invokevirtual 64, 3) := by decide +kernel
theorem dX11_gusts_63 : decode cX11_gusts 63 = .ok (.ireturn, 1) := by decide +kernel
theorem dX11_gusts_64 : decode cX11_gusts 64 = .ok (.iconst 0, 1) := by decide +kernel
theorem dX11_gusts_65 : decode cX11_gusts 65 = .ok (.istore 4, 2) := by decide +kernel
theorem dX11_gusts_67 : decode cX11_gusts 67 = .ok (.iload 4, 2) := by decide +kernel
theorem dX11_gusts_69 : decode cX11_gusts 69 = .ok (.aload_n 0, 1) := by decide +kernel
theorem dX11_gusts_70 : decode cX11_gusts 70 = .ok (.getfield 19, 3) := by decide +kernel
theorem dX11_gusts_73 : decode cX11_gusts 73 = .ok (.iload_n 3, 1) := by decide +kernel
theorem dX11_gusts_74 : decode cX11_gusts 74 = .ok (.iaload, 1) := by decide +kernel
theorem dX11_gusts_75 : decode cX11_gusts 75 = .ok (.if_icmp .ge 37, 3) := by decide +kernel
theorem dX11_gusts_78 : decode cX11_gusts 78 = .ok (.aload_n 0, 1) := by decide +kernel
theorem dX11_gusts_79 : decode cX11_gusts 79 = .ok (.getfield 22, 3) := by decide +kernel
theorem dX11_gusts_82 : decode cX11_gusts 82 = .ok (.bipush 40, 2) := by decide +kernel
theorem dX11_gusts_84 : decode cX11_gusts 84 = .ok (.iload_n 3, 1) := by decide +kernel
theorem dX11_gusts_85 : decode cX11_gusts 85 = .ok (.imul, 1) := by decide +kernel
theorem dX11_gusts_86 : decode cX11_gusts 86 = .ok (.iload 4, 2) := by decide +kernel
theorem dX11_gusts_88 : decode cX11_gusts 88 = .ok (.iadd, 1) := by decide +kernel
theorem dX11_gusts_89 : decode cX11_gusts 89 = .ok (.iaload, 1) := by decide +kernel
theorem dX11_gusts_90 : decode cX11_gusts 90 = .ok (.iconst 0, 1) := by decide +kernel
theorem dX11_gusts_91 : decode cX11_gusts 91 = .ok (.bipush 12, 2) := by decide +kernel
theorem dX11_gusts_93 : decode cX11_gusts 93 = .ok (.invokestatic 68, 3) := by decide +kernel
theorem dX11_gusts_96 : decode cX11_gusts 96 = .ok (.ifCond .ne 10, 3) := by decide +kernel
theorem dX11_gusts_99 : decode cX11_gusts 99 = .ok (.aload_n 0, 1) := by decide +kernel
theorem dX11_gusts_100 : decode cX11_gusts 100 = .ok (.ldc 76, 2) := by decide +kernel
theorem dX11_gusts_102 : decode cX11_gusts 102 = .ok (.invokevirtual 64, 3) := by decide +kernel
theorem dX11_gusts_105 : decode cX11_gusts 105 = .ok (.ireturn, 1) := by decide +kernel
theorem dX11_gusts_106 : decode cX11_gusts 106 = .ok (.iinc 4 1, 3) := by decide +kernel
theorem dX11_gusts_109 : decode cX11_gusts 109 = .ok (.goto (-42), 3) := by decide +kernel
theorem dX11_gusts_112 : decode cX11_gusts 112 = .ok (.aload_n 0, 1) := by decide +kernel
theorem dX11_gusts_113 : decode cX11_gusts 113 = .ok (.invokevirtual 79, 3) := by decide +kernel
theorem dX11_gusts_116 : decode cX11_gusts 116 = .ok (.iconst 0, 1) := by decide +kernel
theorem dX11_gusts_117 : decode cX11_gusts 117 = .ok (.istore 4, 2) := by decide +kernel
theorem dX11_gusts_119 : decode cX11_gusts 119 = .ok (.iload 4, 2) := by decide +kernel
theorem dX11_gusts_121 : decode cX11_gusts 121 = .ok (.aload_n 0, 1) := by decide +kernel
theorem dX11_gusts_122 : decode cX11_gusts 122 = .ok (.getfield 19, 3) := by decide +kernel
theorem dX11_gusts_125 : decode cX11_gusts 125 = .ok (.iload_n 3, 1) := by decide +kernel
theorem dX11_gusts_126 : decode cX11_gusts 126 = .ok (.iaload, 1) := by decide +kernel
theorem dX11_gusts_127 : decode cX11_gusts 127 = .ok (.if_icmp .ge 36, 3) := by decide +kernel
theorem dX11_gusts_130 : decode cX11_gusts 130 = .ok (.aload_n 0, 1) := by decide +kernel
theorem dX11_gusts_131 : decode cX11_gusts 131 = .ok (.getfield 7, 3) := by decide +kernel
theorem dX11_gusts_134 : decode cX11_gusts 134 = .ok (.iload_n 1, 1) := by decide +kernel
theorem dX11_gusts_135 : decode cX11_gusts 135 = .ok (.iload_n 2, 1) := by decide +kernel
theorem dX11_gusts_136 : decode cX11_gusts 136 = .ok (.iload 4, 2) := by decide +kernel
theorem dX11_gusts_138 : decode cX11_gusts 138 = .ok (.iadd, 1) := by decide +kernel
theorem dX11_gusts_139 : decode cX11_gusts 139 = .ok (.invokestatic 90, 3) := by decide +kernel
theorem dX11_gusts_142 : decode cX11_gusts 142 = .ok (.iconst 1, 1) := by decide +kernel
theorem dX11_gusts_143 : decode cX11_gusts 143 = .ok (.iadd, 1) := by decide +kernel
theorem dX11_gusts_144 : decode cX11_gusts 144 = .ok (.aload_n 0, 1) := by decide +kernel
theorem dX11_gusts_145 : decode cX11_gusts 145 = .ok (.getfield 22, 3) := by decide +kernel
theorem dX11_gusts_148 : decode cX11_gusts 148 = .ok (.bipush 40, 2) := by decide +kernel
theorem dX11_gusts_150 : decode cX11_gusts 150 = .ok (.iload_n 3, 1) := by decide +kernel
theorem dX11_gusts_151 : decode cX11_gusts 151 = .ok (.imul, 1) := by decide +kernel
theorem dX11_gusts_152 : decode cX11_gusts 152 = .ok (.iload 4, 2) := by decide +kernel
theorem dX11_gusts_154 : decode cX11_gusts 154 = .ok (.iadd, 1) := by decide +kernel
theorem dX11_gusts_155 : decode cX11_gusts 155 = .ok (.iaload, 1) := by decide +kernel
theorem dX11_gusts_156 : decode cX11_gusts 156 = .ok (.iastore, 1) := by decide +kernel
theorem dX11_gusts_157 : decode cX11_gusts 157 = .ok (.iinc 4 1, 3) := by decide +kernel
theorem dX11_gusts_160 : decode cX11_gusts 160 = .ok (.goto (-41), 3) := by decide +kernel
theorem dX11_gusts_163 : decode cX11_gusts 163 = .ok (.aload_n 0, 1) := by decide +kernel
theorem dX11_gusts_164 : decode cX11_gusts 164 = .ok (.getfield 19, 3) := by decide +kernel
theorem dX11_gusts_167 : decode cX11_gusts 167 = .ok (.iload_n 3, 1) := by decide +kernel
theorem dX11_gusts_168 : decode cX11_gusts 168 = .ok (.iaload, 1) := by decide +kernel
theorem dX11_gusts_169 : decode cX11_gusts 169 = .ok (.ireturn, 1) := by decide +kernel
theorem dX11_all_0 : decode cX11_all 0 = .ok (.iload_n 1, 1) := by decide +kernel
theorem dX11_all_1 : decode cX11_all 1 = .ok (.tableswitch 85 0 4 #[35, 42, 49, 56, 80], 35) := by decide +kernel
theorem dX11_all_36 : decode cX11_all 36 = .ok (.aload_n 0, 1) := by decide +kernel
theorem dX11_all_37 : decode cX11_all 37 = .ok (.getfield 7, 3) := by decide +kernel
theorem dX11_all_40 : decode cX11_all 40 = .ok (.iconst 0, 1) := by decide +kernel
theorem dX11_all_41 : decode cX11_all 41 = .ok (.iaload, 1) := by decide +kernel
theorem dX11_all_42 : decode cX11_all 42 = .ok (.ireturn, 1) := by decide +kernel
theorem dX11_all_43 : decode cX11_all 43 = .ok (.aload_n 0, 1) := by decide +kernel
theorem dX11_all_44 : decode cX11_all 44 = .ok (.getfield 7, 3) := by decide +kernel
theorem dX11_all_47 : decode cX11_all 47 = .ok (.iconst 1, 1) := by decide +kernel
theorem dX11_all_48 : decode cX11_all 48 = .ok (.iaload, 1) := by decide +kernel
theorem dX11_all_49 : decode cX11_all 49 = .ok (.ireturn, 1) := by decide +kernel
theorem dX11_all_50 : decode cX11_all 50 = .ok (.aload_n 0, 1) := by decide +kernel
theorem dX11_all_51 : decode cX11_all 51 = .ok (.getfield 7, 3) := by decide +kernel
theorem dX11_all_54 : decode cX11_all 54 = .ok (.iconst 2, 1) := by decide +kernel
theorem dX11_all_55 : decode cX11_all 55 = .ok (.iaload, 1) := by decide +kernel
theorem dX11_all_56 : decode cX11_all 56 = .ok (.ireturn, 1) := by decide +kernel
theorem dX11_all_57 : decode cX11_all 57 = .ok (.aload_n 0, 1) := by decide +kernel
theorem dX11_all_58 : decode cX11_all 58 = .ok (.invokevirtual 142, 3) := by decide +kernel
theorem dX11_all_61 : decode cX11_all 61 = .ok (.aload_n 0, 1) := by decide +kernel
theorem dX11_all_62 : decode cX11_all 62 = .ok (.iconst 0, 1) := by decide +kernel
theorem dX11_all_63 : decode cX11_all 63 = .ok (.aload_n 0, 1) := by decide +kernel
theorem dX11_all_64 : decode cX11_all 64 = .ok (.getfield 7, 3) := by decide +kernel
theorem dX11_all_67 : decode cX11_all 67 = .ok (.iconst 1, 1) := by decide +kernel
theorem dX11_all_68 : decode cX11_all 68 = .ok (.iaload, 1) := by decide +kernel
theorem dX11_all_69 : decode cX11_all 69 = .ok (.invokevirtual 159, 3) := by decide +kernel
theorem dX11_all_72 : decode cX11_all 72 = .ok (.ifCond .eq 7, 3) := by decide +kernel
theorem dX11_all_75 : decode cX11_all 75 = .ok (.iconst 1, 1) := by decide +kernel
theorem dX11_all_76 : decode cX11_all 76 = .ok (.goto 4, 3) := by decide +kernel
theorem dX11_all_79 : decode cX11_all 79 = .ok (.iconst 0, 1) := by decide +kernel
theorem dX11_all_80 : decode cX11_all 80 = .ok (.ireturn, 1) := by decide +kernel
theorem dX11_all_81 : decode cX11_all 81 = .ok (.aload_n 0, 1) := by decide +kernel
theorem dX11_all_82 : decode cX11_all 82 = .ok (.getfield 53, 3) := by decide +kernel
theorem dX11_all_85 : decode cX11_all 85 = .ok (.ireturn, 1) := by decide +kernel
theorem dX11_all_86 : decode cX11_all 86 = .ok (.aload_n 0, 1) := by decide +kernel
theorem dX11_all_87 : decode cX11_all 87 = .ok (.ldc 76, 2) := by decide +kernel
theorem dX11_all_89 : decode cX11_all 89 = .ok (.invokevirtual 64, 3) := by decide +kernel
theorem dX11_all_92 : decode cX11_all 92 = .ok (.ireturn, 1) := by decide +kernel
