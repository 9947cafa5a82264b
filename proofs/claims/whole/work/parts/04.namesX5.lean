theorem dX5_init_0 : decode cX5_init 0 = .ok (.aload_n 0, 1) := by decide +kernel
theorem dX5_init_1 : decode cX5_init 1 = .ok (.invokespecial 1, 3) := by decide +kernel
theorem dX5_init_4 : decode cX5_init 4 = .ok (.aload_n 0, 1) := by decide +kernel
theorem dX5_init_5 : decode cX5_init 5 = .ok (.bipush 48, 2) := by decide +kernel
theorem dX5_init_7 : decode cX5_init 7 = .ok (.newarray .int, 2) := by decide +kernel
theorem dX5_init_9 : decode cX5_init 9 = .ok (.putfield 7, 3) := by decide +kernel
theorem dX5_init_12 : decode cX5_init 12 = .ok (.aload_n 0, 1) := by decide +kernel
theorem dX5_init_13 : decode cX5_init 13 = .ok (.bipush 48, 2) := by decide +kernel
theorem dX5_init_15 : decode cX5_init 15 = .ok (.newarray .boolean, 2) := by decide +kernel
theorem dX5_init_17 : decode cX5_init 17 = .ok (.putfield 13, 3) := by decide +kernel
theorem dX5_init_20 : decode cX5_init 20 = .ok (.aload_n 0, 1) := by decide +kernel
theorem dX5_init_21 : decode cX5_init 21 = .ok (.bipush 48, 2) := by decide +kernel
theorem dX5_init_23 : decode cX5_init 23 = .ok (.newarray .int, 2) := by decide +kernel
theorem dX5_init_25 : decode cX5_init 25 = .ok (.putfield 17, 3) := by decide +kernel
theorem dX5_init_28 : decode cX5_init 28 = .ok (.aload_n 0, 1) := by decide +kernel
theorem dX5_init_29 : decode cX5_init 29 = .ok (.bipush 48, 2) := by decide +kernel
theorem dX5_init_31 : decode cX5_init 31 = .ok (.newarray .int, 2) := by decide +kernel
theorem dX5_init_33 : decode cX5_init 33 = .ok (.putfield 20, 3) := by decide +kernel
theorem dX5_init_36 : decode cX5_init 36 = .ok (.aload_n 0, 1) := by decide +kernel
theorem dX5_init_37 : decode cX5_init 37 = .ok (.sipush 192, 3) := by decide +kernel
theorem dX5_init_40 : decode cX5_init 40 = .ok (.newarray .long, 2) := by decide +kernel
theorem dX5_init_42 : decode cX5_init 42 = .ok (.putfield 23, 3) := by decide +kernel
theorem dX5_init_45 : decode cX5_init 45 = .ok (.aload_n 0, 1) := by decide +kernel
theorem dX5_init_46 : decode cX5_init 46 = .ok (.sipush 960, 3) := by decide +kernel
theorem dX5_init_49 : decode cX5_init 49 = .ok (.newarray .int, 2) := by decide +kernel
theorem dX5_init_51 : decode cX5_init 51 = .ok (.putfield 27, 3) := by decide +kernel
theorem dX5_init_54 : decode cX5_init 54 = .ok (.aload_n 0, 1) := by decide +kernel
theorem dX5_init_55 : decode cX5_init 55 = .ok (.bipush 48, 2) := by decide +kernel
theorem dX5_init_57 : decode cX5_init 57 = .ok (.newarray .int, 2) := by decide +kernel
theorem dX5_init_59 : decode cX5_init 59 = .ok (.putfield 30, 3) := by decide +kernel
theorem dX5_init_62 : decode cX5_init 62 = .ok (.aload_n 0, 1) := by decide +kernel
theorem dX5_init_63 : decode cX5_init 63 = .ok (.bipush 6, 2) := by decide +kernel
theorem dX5_init_65 : decode cX5_init 65 = .ok (.newarray .int, 2) := by decide +kernel
theorem dX5_init_67 : decode cX5_init 67 = .ok (.putfield 33, 3) := by decide +kernel
theorem dX5_init_70 : decode cX5_init 70 = .ok (.aload_n 0, 1) := by decide +kernel
theorem dX5_init_71 : decode cX5_init 71 = .ok (.bipush 6, 2) := by decide +kernel
theorem dX5_init_73 : decode cX5_init 73 = .ok (.newarray .int, 2) := by decide +kernel
theorem dX5_init_75 : decode cX5_init 75 = .ok (.putfield 36, 3) := by decide +kernel
theorem dX5_init_78 : decode cX5_init 78 = .ok (.aload_n 0, 1) := by decide +kernel
theorem dX5_init_79 : decode cX5_init 79 = .ok (.bipush 6, 2) := by decide +kernel
theorem dX5_init_81 : decode cX5_init 81 = .ok (.newarray .int, 2) := by decide +kernel
theorem dX5_init_83 : decode cX5_init 83 = .ok (.putfield 39, 3) := by decide +kernel
theorem dX5_init_86 : decode cX5_init 86 = .ok (.aload_n 0, 1) := by decide +kernel
theorem dX5_init_87 : decode cX5_init 87 = .ok (.bipush 6, 2) := by decide +kernel
theorem dX5_init_89 : decode cX5_init 89 = .ok (.newarray .boolean, 2) := by decide +kernel
theorem dX5_init_91 : decode cX5_init 91 = .ok (.putfield 42, 3) := by decide +kernel
theorem dX5_init_94 : decode cX5_init 94 = .ok (.aload_n 0, 1) := by decide +kernel
theorem dX5_init_95 : decode cX5_init 95 = .ok (.bipush 6, 2) := by decide +kernel
theorem dX5_init_97 : decode cX5_init 97 = .ok (.newarray .long, 2) := by decide +kernel
theorem dX5_init_99 : decode cX5_init 99 = .ok (.putfield 45, 3) := by decide +kernel
theorem dX5_init_102 : decode cX5_init 102 = .ok (.aload_n 0, 1) := by decide +kernel
theorem dX5_init_103 : decode cX5_init 103 = .ok (.bipush 6, 2) := by decide +kernel
theorem dX5_init_105 : decode cX5_init 105 = .ok (.newarray .int, 2) := by decide +kernel
theorem dX5_init_107 : decode cX5_init 107 = .ok (.putfield 48, 3) := by decide +kernel
theorem dX5_init_110 : decode cX5_init 110 = .ok (.aload_n 0, 1) := by decide +kernel
theorem dX5_init_111 : decode cX5_init 111 = .ok (.bipush 6, 2) := by decide +kernel
theorem dX5_init_113 : decode cX5_init 113 = .ok (.newarray .boolean, 2) := by decide +kernel
theorem dX5_init_115 : decode cX5_init 115 = .ok (.putfield 51, 3) := by decide +kernel
theorem dX5_init_118 : decode cX5_init 118 = .ok (.aload_n 0, 1) := by decide +kernel
theorem dX5_init_119 : decode cX5_init 119 = .ok (.bipush 6, 2) := by decide +kernel
theorem dX5_init_121 : decode cX5_init 121 = .ok (.newarray .boolean, 2) := by decide +kernel
theorem dX5_init_123 : decode cX5_init 123 = .ok (.putfield 54, 3) := by decide +kernel
theorem dX5_init_126 : decode cX5_init 126 = .ok (.aload_n 0, 1) := by decide +kernel
theorem dX5_init_127 : decode cX5_init 127 = .ok (.bipush 6, 2) := by decide +kernel
theorem dX5_init_129 : decode cX5_init 129 = .ok (.newarray .int, 2) := by decide +kernel
theorem dX5_init_131 : decode cX5_init 131 = .ok (.putfield 57, 3) := by decide +kernel
theorem dX5_init_134 : decode cX5_init 134 = .ok (.aload_n 0, 1) := by decide +kernel
theorem dX5_init_135 : decode cX5_init 135 = .ok (.bipush 6, 2) := by decide +kernel
theorem dX5_init_137 : decode cX5_init 137 = .ok (.newarray .long, 2) := by decide +kernel
theorem dX5_init_139 : decode cX5_init 139 = .ok (.putfield 60, 3) := by decide +kernel
theorem dX5_init_142 : decode cX5_init 142 = .ok (.aload_n 0, 1) := by decide +kernel
theorem dX5_init_143 : decode cX5_init 143 = .ok (.sipush 1400, 3) := by decide +kernel
theorem dX5_init_146 : decode cX5_init 146 = .ok (.newarray .int, 2) := by decide +kernel
theorem dX5_init_148 : decode cX5_init 148 = .ok (.putfield 63, 3) := by decide +kernel
theorem dX5_init_151 : decode cX5_init 151 = .ok (.aload_n 0, 1) := by decide +kernel
theorem dX5_init_152 : decode cX5_init 152 = .ok (.sipush 800, 3) := by decide +kernel
theorem dX5_init_155 : decode cX5_init 155 = .ok (.newarray .long, 2) := by decide +kernel
theorem dX5_init_157 : decode cX5_init 157 = .ok (.putfield 66, 3) := by decide +kernel
theorem dX5_init_160 : decode cX5_init 160 = .ok (.aload_n 0, 1) := by decide +kernel
theorem dX5_init_161 : decode cX5_init 161 = .ok (.bipush 8, 2) := by decide +kernel
theorem dX5_init_163 : decode cX5_init 163 = .ok (.newarray .int, 2) := by decide +kernel
theorem dX5_init_165 : decode cX5_init 165 = .ok (.putfield 69, 3) := by decide +kernel
theorem dX5_init_168 : decode cX5_init 168 = .ok (.aload_n 0, 1) := by decide +kernel
theorem dX5_init_169 : decode cX5_init 169 = .ok (.bipush 7, 2) := by decide +kernel
theorem dX5_init_171 : decode cX5_init 171 = .ok (.newarray .int, 2) := by decide +kernel
theorem dX5_init_173 : decode cX5_init 173 = .ok (.putfield 72, 3) := by decide +kernel
theorem dX5_init_176 : decode cX5_init 176 = .ok (.aload_n 0, 1) := by decide +kernel
theorem dX5_init_177 : decode cX5_init 177 = .ok (.iconst 4, 1) := by decide +kernel
theorem dX5_init_178 : decode cX5_init 178 = .ok (.newarray .long, 2) := by decide +kernel
theorem dX5_init_180 : decode cX5_init 180 = .ok (.putfield 75, 3) := by decide +kernel
theorem dX5_init_183 : decode cX5_init 183 = .ok (.aload_n 0, 1) := by decide +kernel
theorem dX5_init_184 : decode cX5_init 184 = .ok (.bipush 20, 2) := by decide +kernel
theorem dX5_init_186 : decode cX5_init 186 = .ok (.newarray .int, 2) := by decide +kernel
theorem dX5_init_188 : decode cX5_init 188 = .ok (.putfield 78, 3) := by decide +kernel
theorem dX5_init_191 : decode cX5_init 191 = .ok (.aload_n 0, 1) := by decide +kernel
theorem dX5_init_192 : decode cX5_init 192 = .ok (.iconst 4, 1) := by decide +kernel
theorem dX5_init_193 : decode cX5_init 193 = .ok (.invokevirtual 81, 3) := by decide +kernel
theorem dX5_init_196 : decode cX5_init 196 = .ok (.pop, 1) := by decide +kernel
theorem dX5_init_197 : decode cX5_init 197 = .ok (.return_, 1) := by decide +kernel
theorem dX5_begin_0 : decode cX5_begin 0 = .ok (.iload_n 1, 1) := by decide +kernel
theorem dX5_begin_1 : decode cX5_begin 1 = .ok (.iconst 2, 1) := by decide +kernel
theorem dX5_begin_2 : decode cX5_begin 2 = .ok (.if_icmp .lt 9, 3) := by decide +kernel
theorem dX5_begin_5 : decode cX5_begin 5 = .ok (.iload_n 1, 1) := by decide +kernel
theorem dX5_begin_6 : decode cX5_begin 6 = .ok (.bipush 6, 2) := by decide +kernel
theorem dX5_begin_8 : decode cX5_begin 8 = .ok (.if_icmp .le 5, 3) := by decide +kernel
theorem dX5_begin_11 : decode cX5_begin 11 = .ok (.iconst 0, 1) := by decide +kernel
theorem dX5_begin_12 : decode cX5_begin 12 = .ok (.ireturn, 1) := by decide +kernel
theorem dX5_begin_13 : decode cX5_begin 13 = .ok (.aload_n 0, 1) := by decide +kernel
theorem dX5_begin_14 : decode cX5_begin 14 = .ok (.iload_n 1, 1) := by decide +kernel
theorem dX5_begin_15 : decode cX5_begin 15 = .ok (.putfield 85, 3) := by decide +kernel
theorem dX5_begin_18 : decode cX5_begin 18 = .ok (.iconst 0, 1) := by decide +kernel
theorem dX5_begin_19 : decode cX5_begin 19 = .ok (.istore_n 2, 1) := by decide +kernel
theorem dX5_begin_20 : decode cX5_begin 20 = .ok (.iload_n 2, 1) := by decide +kernel
theorem dX5_begin_21 : decode cX5_begin 21 = .ok (.bipush 48, 2) := by decide +kernel
theorem dX5_begin_23 : decode cX5_begin 23 = .ok (.if_icmp .ge 78, 3) := by decide +kernel
theorem dX5_begin_26 : decode cX5_begin 26 = .ok (.iload_n 2, 1) := by decide +kernel
theorem dX5_begin_27 : decode cX5_begin 27 = .ok (.bipush 8, 2) := by decide +kernel
theorem dX5_begin_29 : decode cX5_begin 29 = .ok (.irem, 1) := by decide +kernel
theorem dX5_begin_30 : decode cX5_begin 30 = .ok (.istore_n 3, 1) := by decide +kernel
theorem dX5_begin_31 : decode cX5_begin 31 = .ok (.aload_n 0, 1) := by decide +kernel
theorem dX5_begin_32 : decode cX5_begin 32 = .ok (.getfield 13, 3) := by decide +kernel
theorem dX5_begin_35 : decode cX5_begin 35 = .ok (.iload_n 2, 1) := by decide +kernel
theorem dX5_begin_36 : decode cX5_begin 36 = .ok (.iload_n 2, 1) := by decide +kernel
theorem dX5_begin_37 : decode cX5_begin 37 = .ok (.bipush 8, 2) := by decide +kernel
theorem dX5_begin_39 : decode cX5_begin 39 = .ok (.idiv, 1) := by decide +kernel
theorem dX5_begin_40 : decode cX5_begin 40 = .ok (.iload_n 3, 1) := by decide +kernel
theorem dX5_begin_41 : decode cX5_begin 41 = .ok (.iload_n 1, 1) := by decide +kernel
theorem dX5_begin_42 : decode cX5_begin 42 = .ok (.irem, 1) := by decide +kernel
theorem dX5_begin_43 : decode cX5_begin 43 = .ok (.if_icmp .ne 7, 3) := by decide +kernel
theorem dX5_begin_46 : decode cX5_begin 46 = .ok (.iconst 1, 1) := by decide +kernel
theorem dX5_begin_47 : decode cX5_begin 47 = .ok (.goto 4, 3) := by decide +kernel
theorem dX5_begin_50 : decode cX5_begin 50 = .ok (.iconst 0, 1) := by decide +kernel
theorem dX5_begin_51 : decode cX5_begin 51 = .ok (.bastore, 1) := by decide +kernel
theorem dX5_begin_52 : decode cX5_begin 52 = .ok (.aload_n 0, 1) := by decide +kernel
theorem dX5_begin_53 : decode cX5_begin 53 = .ok (.getfield 7, 3) := by decide +kernel
theorem dX5_begin_56 : decode cX5_begin 56 = .ok (.iload_n 2, 1) := by decide +kernel
theorem dX5_begin_57 : decode cX5_begin 57 = .ok (.aload_n 0, 1) := by decide +kernel
theorem dX5_begin_58 : decode cX5_begin 58 = .ok (.getfield 13, 3) := by decide +kernel
theorem dX5_begin_61 : decode cX5_begin 61 = .ok (.iload_n 2, 1) := by decide +kernel
theorem dX5_begin_62 : decode cX5_begin 62 = .ok (.baload, 1) := by decide +kernel
theorem dX5_begin_63 : decode cX5_begin 63 = .ok (.ifCond .eq 7, 3) := by decide +kernel
theorem dX5_begin_66 : decode cX5_begin 66 = .ok (.iconst 2, 1) := by decide +kernel
theorem dX5_begin_67 : decode cX5_begin 67 = .ok (.goto 4, 3) := by decide +kernel
theorem dX5_begin_70 : decode cX5_begin 70 = .ok (.iconst 0, 1) := by decide +kernel
theorem dX5_begin_71 : decode cX5_begin 71 = .ok (.iastore, 1) := by decide +kernel
theorem dX5_begin_72 : decode cX5_begin 72 = .ok (.aload_n 0, 1) := by decide +kernel
theorem dX5_begin_73 : decode cX5_begin 73 = .ok (.getfield 17, 3) := by decide +kernel
theorem dX5_begin_76 : decode cX5_begin 76 = .ok (.iload_n 2, 1) := by decide +kernel
theorem dX5_begin_77 : decode cX5_begin 77 = .ok (.iload_n 3, 1) := by decide +kernel
theorem dX5_begin_78 : decode cX5_begin 78 = .ok (.iload_n 1, 1) := by decide +kernel
theorem dX5_begin_79 : decode cX5_begin 79 = .ok (.irem, 1) := by decide +kernel
theorem dX5_begin_80 : decode cX5_begin 80 = .ok (.iastore, 1) := by decide +kernel
theorem dX5_begin_81 : decode cX5_begin 81 = .ok (.aload_n 0, 1) := by decide +kernel
theorem dX5_begin_82 : decode cX5_begin 82 = .ok (.getfield 20, 3) := by decide +kernel
theorem dX5_begin_85 : decode cX5_begin 85 = .ok (.iload_n 2, 1) := by decide +kernel
theorem dX5_begin_86 : decode cX5_begin 86 = .ok (.iconst 0, 1) := by decide +kernel
theorem dX5_begin_87 : decode cX5_begin 87 = .ok (.iastore, 1) := by decide +kernel
theorem dX5_begin_88 : decode cX5_begin 88 = .ok (.aload_n 0, 1) := by decide +kernel
theorem dX5_begin_89 : decode cX5_begin 89 = .ok (.getfield 30, 3) := by decide +kernel
theorem dX5_begin_92 : decode cX5_begin 92 = .ok (.iload_n 2, 1) := by decide +kernel
theorem dX5_begin_93 : decode cX5_begin 93 = .ok (.iconst 0, 1) := by decide +kernel
theorem dX5_begin_94 : decode cX5_begin 94 = .ok (.iastore, 1) := by decide +kernel
theorem dX5_begin_95 : decode cX5_begin 95 = .ok (.iinc 2 1, 3) := by decide +kernel
theorem dX5_begin_98 : decode cX5_begin 98 = .ok (.goto (-78), 3) := by decide +kernel
theorem dX5_begin_101 : decode cX5_begin 101 = .ok (.iconst 0, 1) := by decide +kernel
theorem dX5_begin_102 : decode cX5_begin 102 = .ok (.istore_n 2, 1) := by decide +kernel
theorem dX5_begin_103 : decode cX5_begin 103 = .ok (.iload_n 2, 1) := by decide +kernel
theorem dX5_begin_104 : decode cX5_begin 104 = .ok (.sipush 192, 3) := by decide +kernel
theorem dX5_begin_107 : decode cX5_begin 107 = .ok (.if_icmp .ge 16, 3) := by decide +kernel
theorem dX5_begin_110 : decode cX5_begin 110 = .ok (.aload_n 0, 1) := by decide +kernel
theorem dX5_begin_111 : decode cX5_begin 111 = .ok (.getfield 23, 3) := by decide +kernel
theorem dX5_begin_114 : decode cX5_begin 114 = .ok (.iload_n 2, 1) := by decide +kernel
theorem dX5_begin_115 : decode cX5_begin 115 = .ok (.lconst 0, 1) := by decide +kernel
theorem dX5_begin_116 : decode cX5_begin 116 = .ok (.lastore, 1) := by decide +kernel
theorem dX5_begin_117 : decode cX5_begin 117 = .ok (.iinc 2 1, 3) := by decide +kernel
theorem dX5_begin_120 : decode cX5_begin 120 = .ok (.goto (-17), 3) := by decide +kernel
theorem dX5_begin_123 : decode cX5_begin 123 = .ok (.iconst 0, 1) := by decide +kernel
theorem dX5_begin_124 : decode cX5_begin 124 = .ok (.istore_n 2, 1) := by decide +kernel
theorem dX5_begin_125 : decode cX5_begin 125 = .ok (.iload_n 2, 1) := by decide +kernel
theorem dX5_begin_126 : decode cX5_begin 126 = .ok (.bipush 6, 2) := by decide +kernel
theorem dX5_begin_128 : decode cX5_begin 128 = .ok (.if_icmp .ge 51, 3) := by decide +kernel
theorem dX5_begin_131 : decode cX5_begin 131 = .ok (.aload_n 0, 1) := by decide +kernel
theorem dX5_begin_132 : decode cX5_begin 132 = .ok (.getfield 33, 3) := by decide +kernel
theorem dX5_begin_135 : decode cX5_begin 135 = .ok (.iload_n 2, 1) := by decide +kernel
theorem dX5_begin_136 : decode cX5_begin 136 = .ok (.iconst 0, 1) := by decide +kernel
theorem dX5_begin_137 : decode cX5_begin 137 = .ok (.iastore, 1) := by decide +kernel
theorem dX5_begin_138 : decode cX5_begin 138 = .ok (.aload_n 0, 1) := by decide +kernel
theorem dX5_begin_139 : decode cX5_begin 139 = .ok (.getfield 48, 3) := by decide +kernel
theorem dX5_begin_142 : decode cX5_begin 142 = .ok (.iload_n 2, 1) := by decide +kernel
theorem dX5_begin_143 : decode cX5_begin 143 = .ok (.iconst 0, 1) := by decide +kernel
theorem dX5_begin_144 : decode cX5_begin 144 = .ok (.iastore, 1) := by decide +kernel
theorem dX5_begin_145 : decode cX5_begin 145 = .ok (.aload_n 0, 1) := by decide +kernel
theorem dX5_begin_146 : decode cX5_begin 146 = .ok (.getfield 51, 3) := by decide +kernel
theorem dX5_begin_149 : decode cX5_begin 149 = .ok (.iload_n 2, 1) := by decide +kernel
theorem dX5_begin_150 : decode cX5_begin 150 = .ok (.iconst 0, 1) := by decide +kernel
theorem dX5_begin_151 : decode cX5_begin 151 = .ok (.bastore, 1) := by decide +kernel
theorem dX5_begin_152 : decode cX5_begin 152 = .ok (.aload_n 0, 1) := by decide +kernel
theorem dX5_begin_153 : decode cX5_begin 153 = .ok (.getfield 54, 3) := by decide +kernel
theorem dX5_begin_156 : decode cX5_begin 156 = .ok (.iload_n 2, 1) := by decide +kernel
theorem dX5_begin_157 : decode cX5_begin 157 = .ok (.iconst 0, 1) := by decide +kernel
theorem dX5_begin_158 : decode cX5_begin 158 = .ok (.bastore, 1) := by decide +kernel
theorem dX5_begin_159 : decode cX5_begin 159 = .ok (.aload_n 0, 1) := by decide +kernel
theorem dX5_begin_160 : decode cX5_begin 160 = .ok (.getfield 57, 3) := by decide +kernel
theorem dX5_begin_163 : decode cX5_begin 163 = .ok (.iload_n 2, 1) := by decide +kernel
theorem dX5_begin_164 : decode cX5_begin 164 = .ok (.iconst 0, 1) := by decide +kernel
theorem dX5_begin_165 : decode cX5_begin 165 = .ok (.iastore, 1) := by decide +kernel
theorem dX5_begin_166 : decode cX5_begin 166 = .ok (.aload_n 0, 1) := by decide +kernel
theorem dX5_begin_167 : decode cX5_begin 167 = .ok (.getfield 60, 3) := by decide +kernel
theorem dX5_begin_170 : decode cX5_begin 170 = .ok (.iload_n 2, 1) := by decide +kernel
theorem dX5_begin_171 : decode cX5_begin 171 = .ok (.lconst 0, 1) := by decide +kernel
theorem dX5_begin_172 : decode cX5_begin 172 = .ok (.lastore, 1) := by decide +kernel
theorem dX5_begin_173 : decode cX5_begin 173 = .ok (.iinc 2 1, 3) := by decide +kernel
theorem dX5_begin_176 : decode cX5_begin 176 = .ok (.goto (-51), 3) := by decide +kernel
theorem dX5_begin_179 : decode cX5_begin 179 = .ok (.iconst 0, 1) := by decide +kernel
theorem dX5_begin_180 : decode cX5_begin 180 = .ok (.istore_n 2, 1) := by decide +kernel
theorem dX5_begin_181 : decode cX5_begin 181 = .ok (.iload_n 2, 1) := by decide +kernel
theorem dX5_begin_182 : decode cX5_begin 182 = .ok (.bipush 8, 2) := by decide +kernel
theorem dX5_begin_184 : decode cX5_begin 184 = .ok (.if_icmp .ge 16, 3) := by decide +kernel
theorem dX5_begin_187 : decode cX5_begin 187 = .ok (.aload_n 0, 1) := by decide +kernel
theorem dX5_begin_188 : decode cX5_begin 188 = .ok (.getfield 69, 3) := by decide +kernel
theorem dX5_begin_191 : decode cX5_begin 191 = .ok (.iload_n 2, 1) := by decide +kernel
theorem dX5_begin_192 : decode cX5_begin 192 = .ok (.iconst 0, 1) := by decide +kernel
theorem dX5_begin_193 : decode cX5_begin 193 = .ok (.iastore, 1) := by decide +kernel
theorem dX5_begin_194 : decode cX5_begin 194 = .ok (.iinc 2 1, 3) := by decide +kernel
theorem dX5_begin_197 : decode cX5_begin 197 = .ok (.goto (-16), 3) := by decide +kernel
theorem dX5_begin_200 : decode cX5_begin 200 = .ok (.aload_n 0, 1) := by decide +kernel
theorem dX5_begin_201 : decode cX5_begin 201 = .ok (.iconst 0, 1) := by decide +kernel
theorem dX5_begin_202 : decode cX5_begin 202 = .ok (.putfield 89, 3) := by decide +kernel
theorem dX5_begin_205 : decode cX5_begin 205 = .ok (.iconst 1, 1) := by decide +kernel
theorem dX5_begin_206 : decode cX5_begin 206 = .ok (.ireturn, 1) := by decide +kernel
theorem dX5_isNode_0 : decode cX5_isNode 0 = .ok (.iload_n 1, 1) := by decide +kernel
theorem dX5_isNode_1 : decode cX5_isNode 1 = .ok (.ifCond .lt 15, 3) := by decide +kernel
theorem dX5_isNode_4 : decode cX5_isNode 4 = .ok (.iload_n 1, 1) := by decide +kernel
theorem dX5_isNode_5 : decode cX5_isNode 5 = .ok (.aload_n 0, 1) := by decide +kernel
theorem dX5_isNode_6 : decode cX5_isNode 6 = .ok (.getfield 85, 3) := by decide +kernel
theorem dX5_isNode_9 : decode cX5_isNode 9 = .ok (.if_icmp .ge 7, 3) := by decide +kernel
theorem dX5_isNode_12 : decode cX5_isNode 12 = .ok (.iconst 1, 1) := by decide +kernel
theorem dX5_isNode_13 : decode cX5_isNode 13 = .ok (.goto 4, 3) := by decide +kernel
theorem dX5_isNode_16 : decode cX5_isNode 16 = .ok (.iconst 0, 1) := by decide +kernel
theorem dX5_isNode_17 : decode cX5_isNode 17 = .ok (.ireturn, 1) := by decide +kernel
theorem dX5_isPage_0 : decode cX5_isPage 0 = .ok (.iload_n 0, 1) := by decide +kernel
theorem dX5_isPage_1 : decode cX5_isPage 1 = .ok (.ifCond .lt 13, 3) := by decide +kernel
theorem dX5_isPage_4 : decode cX5_isPage 4 = .ok (.iload_n 0, 1) := by decide +kernel
theorem dX5_isPage_5 : decode cX5_isPage 5 = .ok (.bipush 8, 2) := by decide +kernel
theorem dX5_isPage_7 : decode cX5_isPage 7 = .ok (.if_icmp .ge 7, 3) := by decide +kernel
theorem dX5_isPage_10 : decode cX5_isPage 10 = .ok (.iconst 1, 1) := by decide +kernel
theorem dX5_isPage_11 : decode cX5_isPage 11 = .ok (.goto 4, 3) := by decide +kernel
theorem dX5_isPage_14 : decode cX5_isPage 14 = .ok (.iconst 0, 1) := by decide +kernel
theorem dX5_isPage_15 : decode cX5_isPage 15 = .ok (.ireturn, 1) := by decide +kernel
theorem dX5_place_0 : decode cX5_place 0 = .ok (.bipush 8, 2) := by decide +kernel
theorem dX5_place_2 : decode cX5_place 2 = .ok (.iload_n 0, 1) := by decide +kernel
theorem dX5_place_3 : decode cX5_place 3 = .ok (.imul, 1) := by decide +kernel
theorem dX5_place_4 : decode cX5_place 4 = .ok (.iload_n 1, 1) := by decide +kernel
theorem dX5_place_5 : decode cX5_place 5 = .ok (.iadd, 1) := by decide +kernel
theorem dX5_place_6 : decode cX5_place 6 = .ok (.ireturn, 1) := by decide +kernel
set_option maxRecDepth 20000 in
theorem ggX5_send_X5_place : GoodIn wsX5_send wsX5_place := goodIn_r _ [9] (by decide +kernel) (by decide +kernel)
set_option maxRecDepth 20000 in
theorem gX5_send_X5_place : GoodIn wsX5_send (va_wsS RX5 92 yX5_place wsX5_place) := goodIn_app (goodIn_of _ (by decide +kernel)) ggX5_send_X5_place
theorem dX5_send_0 : decode cX5_send 0 = .ok (.bipush 7, 2) := by decide +kernel
theorem dX5_send_2 : decode cX5_send 2 = .ok (.aload_n 0, 1) := by decide +kernel
theorem dX5_send_3 : decode cX5_send 3 = .ok (.getfield 89, 3) := by decide +kernel
theorem dX5_send_6 : decode cX5_send 6 = .ok (.imul, 1) := by decide +kernel
theorem dX5_send_7 : decode cX5_send 7 = .ok (.istore 7, 2) := by decide +kernel
theorem dX5_send_9 : decode cX5_send 9 = .ok (.aload_n 0, 1) := by decide +kernel
theorem dX5_send_10 : decode cX5_send 10 = .ok (.getfield 63, 3) := by decide +kernel
theorem dX5_send_13 : decode cX5_send 13 = .ok (.iload 7, 2) := by decide +kernel
theorem dX5_send_15 : decode cX5_send 15 = .ok (.iload_n 1, 1) := by decide +kernel
theorem dX5_send_16 : decode cX5_send 16 = .ok (.iastore, 1) := by decide +kernel
theorem dX5_send_17 : decode cX5_send 17 = .ok (.aload_n 0, 1) := by decide +kernel
theorem dX5_send_18 : decode cX5_send 18 = .ok (.getfield 63, 3) := by decide +kernel
theorem dX5_send_21 : decode cX5_send 21 = .ok (.iload 7, 2) := by decide +kernel
theorem dX5_send_23 : decode cX5_send 23 = .ok (.iconst 1, 1) := by decide +kernel
theorem dX5_send_24 : decode cX5_send 24 = .ok (.iadd, 1) := by decide +kernel
theorem dX5_send_25 : decode cX5_send 25 = .ok (.iload_n 2, 1) := by decide +kernel
theorem dX5_send_26 : decode cX5_send 26 = .ok (.iastore, 1) := by decide +kernel
theorem dX5_send_27 : decode cX5_send 27 = .ok (.aload_n 0, 1) := by decide +kernel
theorem dX5_send_28 : decode cX5_send 28 = .ok (.getfield 63, 3) := by decide +kernel
theorem dX5_send_31 : decode cX5_send 31 = .ok (.iload 7, 2) := by decide +kernel
theorem dX5_send_33 : decode cX5_send 33 = .ok (.iconst 2, 1) := by decide +kernel
theorem dX5_send_34 : decode cX5_send 34 = .ok (.iadd, 1) := by decide +kernel
theorem dX5_send_35 : decode cX5_send 35 = .ok (.iload_n 3, 1) := by decide +kernel
theorem dX5_send_36 : decode cX5_send 36 = .ok (.iastore, 1) := by decide +kernel
theorem dX5_send_37 : decode cX5_send 37 = .ok (.aload_n 0, 1) := by decide +kernel
theorem dX5_send_38 : decode cX5_send 38 = .ok (.getfield 63, 3) := by decide +kernel
theorem dX5_send_41 : decode cX5_send 41 = .ok (.iload 7, 2) := by decide +kernel
theorem dX5_send_43 : decode cX5_send 43 = .ok (.iconst 3, 1) := by decide +kernel
theorem dX5_send_44 : decode cX5_send 44 = .ok (.iadd, 1) := by decide +kernel
theorem dX5_send_45 : decode cX5_send 45 = .ok (.iload 4, 2) := by decide +kernel
theorem dX5_send_47 : decode cX5_send 47 = .ok (.iastore, 1) := by decide +kernel
theorem dX5_send_48 : decode cX5_send 48 = .ok (.aload_n 0, 1) := by decide +kernel
theorem dX5_send_49 : decode cX5_send 49 = .ok (.getfield 63, 3) := by decide +kernel
theorem dX5_send_52 : decode cX5_send 52 = .ok (.iload 7, 2) := by decide +kernel
theorem dX5_send_54 : decode cX5_send 54 = .ok (.iconst 4, 1) := by decide +kernel
theorem dX5_send_55 : decode cX5_send 55 = .ok (.iadd, 1) := by decide +kernel
theorem dX5_send_56 : decode cX5_send 56 = .ok (.iload 5, 2) := by decide +kernel
theorem dX5_send_58 : decode cX5_send 58 = .ok (.iastore, 1) := by decide +kernel
theorem dX5_send_59 : decode cX5_send 59 = .ok (.aload_n 0, 1) := by decide +kernel
theorem dX5_send_60 : decode cX5_send 60 = .ok (.getfield 63, 3) := by decide +kernel
theorem dX5_send_63 : decode cX5_send 63 = .ok (.iload 7, 2) := by decide +kernel
theorem dX5_send_65 : decode cX5_send 65 = .ok (.iconst 5, 1) := by decide +kernel
theorem dX5_send_66 : decode cX5_send 66 = .ok (.iadd, 1) := by decide +kernel
theorem dX5_send_67 : decode cX5_send 67 = .ok (.iload 6, 2) := by decide +kernel
theorem dX5_send_69 : decode cX5_send 69 = .ok (.iastore, 1) := by decide +kernel
theorem dX5_send_70 : decode cX5_send 70 = .ok (.iconst 0, 1) := by decide +kernel
theorem dX5_send_71 : decode cX5_send 71 = .ok (.istore 8, 2) := by decide +kernel
theorem dX5_send_73 : decode cX5_send 73 = .ok (.iload 8, 2) := by decide +kernel
theorem dX5_send_75 : decode cX5_send 75 = .ok (.iconst 4, 1) := by decide +kernel
theorem dX5_send_76 : decode cX5_send 76 = .ok (.if_icmp .ge 53, 3) := by decide +kernel
theorem dX5_send_79 : decode cX5_send 79 = .ok (.aload_n 0, 1) := by decide +kernel
theorem dX5_send_80 : decode cX5_send 80 = .ok (.getfield 66, 3) := by decide +kernel
theorem dX5_send_83 : decode cX5_send 83 = .ok (.iconst 4, 1) := by decide +kernel
theorem dX5_send_84 : decode cX5_send 84 = .ok (.aload_n 0, 1) := by decide +kernel
theorem dX5_send_85 : decode cX5_send 85 = .ok (.getfield 89, 3) := by decide +kernel
theorem dX5_send_88 : decode cX5_send 88 = .ok (.imul, 1) := by decide +kernel
theorem dX5_send_89 : decode cX5_send 89 = .ok (.iload 8, 2) := by decide +kernel
theorem dX5_send_91 : decode cX5_send 91 = .ok (.iadd, 1) := by decide +kernel
theorem dX5_send_92 : decode cX5_send 92 = .ok (.iload_n 1, 1) := by decide +kernel
theorem dX5_send_93 : decode cX5_send 93 = .ok (.iconst 3, 1) := by decide +kernel
theorem dX5_send_94 : decode cX5_send 94 = .ok (.if_icmp .eq 8, 3) := by decide +kernel
theorem dX5_send_97 : decode cX5_send 97 = .ok (.iload_n 1, 1) := by decide +kernel
theorem dX5_send_98 : decode cX5_send 98 = .ok (.iconst 4, 1) := by decide +kernel
theorem dX5_send_99 : decode cX5_send 99 = .ok (.if_icmp .ne 22, 3) := by decide +kernel
theorem dX5_send_102 : decode cX5_send 102 = .ok (.aload_n 0, 1) := by decide +kernel
theorem dX5_send_103 : decode cX5_send 103 = .ok (.getfield 23, 3) := by decide +kernel
theorem dX5_send_106 : decode cX5_send 106 = .ok (.iconst 4, 1) := by decide +kernel
theorem dX5_send_107 : decode cX5_send 107 = .ok (.iload_n 2, 1) := by decide +kernel
theorem dX5_send_108 : decode cX5_send 108 = .ok (.iload 4, 2) := by decide +kernel
theorem dX5_send_110 : decode cX5_send 110 = .ok (.invokestatic 92, 3) := by decide +kernel
theorem dX5_send_113 : decode cX5_send 113 = .ok (.imul, 1) := by decide +kernel
theorem dX5_send_114 : decode cX5_send 114 = .ok (.iload 8, 2) := by decide +kernel
theorem dX5_send_116 : decode cX5_send 116 = .ok (.iadd, 1) := by decide +kernel
theorem dX5_send_117 : decode cX5_send 117 = .ok (.laload, 1) := by decide +kernel
theorem dX5_send_118 : decode cX5_send 118 = .ok (.goto 4, 3) := by decide +kernel
theorem dX5_send_121 : decode cX5_send 121 = .ok (.lconst 0, 1) := by decide +kernel
theorem dX5_send_122 : decode cX5_send 122 = .ok (.lastore, 1) := by decide +kernel
theorem dX5_send_123 : decode cX5_send 123 = .ok (.iinc 8 1, 3) := by decide +kernel
theorem dX5_send_126 : decode cX5_send 126 = .ok (.goto (-53), 3) := by decide +kernel
theorem dX5_send_129 : decode cX5_send 129 = .ok (.aload_n 0, 1) := by decide +kernel
theorem dX5_send_130 : decode cX5_send 130 = .ok (.dup, 1) := by decide +kernel
theorem dX5_send_131 : decode cX5_send 131 = .ok (.getfield 89, 3) := by decide +kernel
theorem dX5_send_134 : decode cX5_send 134 = .ok (.iconst 1, 1) := by decide +kernel
theorem dX5_send_135 : decode cX5_send 135 = .ok (.iadd, 1) := by decide +kernel
theorem dX5_send_136 : decode cX5_send 136 = .ok (.putfield 89, 3) := by decide +kernel
theorem dX5_send_139 : decode cX5_send 139 = .ok (.aload_n 0, 1) := by decide +kernel
theorem dX5_send_140 : decode cX5_send 140 = .ok (.getfield 69, 3) := by decide +kernel
theorem dX5_send_143 : decode cX5_send 143 = .ok (.iconst 1, 1) := by decide +kernel
theorem dX5_send_144 : decode cX5_send 144 = .ok (.dup2, 1) := by decide +kernel
theorem dX5_send_145 : decode cX5_send 145 = .ok (.iaload, 1) := by decide +kernel
theorem dX5_send_146 : decode cX5_send 146 = .ok (.iconst 1, 1) := by decide +kernel
theorem dX5_send_147 : decode cX5_send 147 = .ok (.iadd, 1) := by decide +kernel
theorem dX5_send_148 : decode cX5_send 148 = .ok (.iastore, 1) := by decide +kernel
theorem dX5_send_149 : decode cX5_send 149 = .ok (.return_, 1) := by decide +kernel
theorem dX5_drop_0 : decode cX5_drop 0 = .ok (.aload_n 0, 1) := by decide +kernel
theorem dX5_drop_1 : decode cX5_drop 1 = .ok (.dup, 1) := by decide +kernel
theorem dX5_drop_2 : decode cX5_drop 2 = .ok (.getfield 89, 3) := by decide +kernel
theorem dX5_drop_5 : decode cX5_drop 5 = .ok (.iconst 1, 1) := by decide +kernel
theorem dX5_drop_6 : decode cX5_drop 6 = .ok (.isub, 1) := by decide +kernel
theorem dX5_drop_7 : decode cX5_drop 7 = .ok (.putfield 89, 3) := by decide +kernel
theorem dX5_drop_10 : decode cX5_drop 10 = .ok (.bipush 7, 2) := by decide +kernel
theorem dX5_drop_12 : decode cX5_drop 12 = .ok (.iload_n 1, 1) := by decide +kernel
theorem dX5_drop_13 : decode cX5_drop 13 = .ok (.imul, 1) := by decide +kernel
theorem dX5_drop_14 : decode cX5_drop 14 = .ok (.istore_n 2, 1) := by decide +kernel
theorem dX5_drop_15 : decode cX5_drop 15 = .ok (.iload_n 2, 1) := by decide +kernel
theorem dX5_drop_16 : decode cX5_drop 16 = .ok (.bipush 7, 2) := by decide +kernel
theorem dX5_drop_18 : decode cX5_drop 18 = .ok (.aload_n 0, 1) := by decide +kernel
theorem dX5_drop_19 : decode cX5_drop 19 = .ok (.getfield 89, 3) := by decide +kernel
theorem dX5_drop_22 : decode cX5_drop 22 = .ok (.imul, 1) := by decide +kernel
theorem dX5_drop_23 : decode cX5_drop 23 = .ok (.if_icmp .ge 24, 3) := by decide +kernel
theorem dX5_drop_26 : decode cX5_drop 26 = .ok (.aload_n 0, 1) := by decide +kernel
theorem dX5_drop_27 : decode cX5_drop 27 = .ok (.getfield 63, 3) := by decide +kernel
theorem dX5_drop_30 : decode cX5_drop 30 = .ok (.iload_n 2, 1) := by decide +kernel
theorem dX5_drop_31 : decode cX5_drop 31 = .ok (.aload_n 0, 1) := by decide +kernel
theorem dX5_drop_32 : decode cX5_drop 32 = .ok (.getfield 63, 3) := by decide +kernel
theorem dX5_drop_35 : decode cX5_drop 35 = .ok (.iload_n 2, 1) := by decide +kernel
theorem dX5_drop_36 : decode cX5_drop 36 = .ok (.bipush 7, 2) := by decide +kernel
theorem dX5_drop_38 : decode cX5_drop 38 = .ok (.iadd, 1) := by decide +kernel
theorem dX5_drop_39 : decode cX5_drop 39 = .ok (.iaload, 1) := by decide +kernel
theorem dX5_drop_40 : decode cX5_drop 40 = .ok (.iastore, 1) := by decide +kernel
theorem dX5_drop_41 : decode cX5_drop 41 = .ok (.iinc 2 1, 3) := by decide +kernel
theorem dX5_drop_44 : decode cX5_drop 44 = .ok (.goto (-29), 3) := by decide +kernel
theorem dX5_drop_47 : decode cX5_drop 47 = .ok (.iconst 4, 1) := by decide +kernel
theorem dX5_drop_48 : decode cX5_drop 48 = .ok (.iload_n 1, 1) := by decide +kernel
theorem dX5_drop_49 : decode cX5_drop 49 = .ok (.imul, 1) := by decide +kernel
theorem dX5_drop_50 : decode cX5_drop 50 = .ok (.istore_n 2, 1) := by decide +kernel
theorem dX5_drop_51 : decode cX5_drop 51 = .ok (.iload_n 2, 1) := by decide +kernel
theorem dX5_drop_52 : decode cX5_drop 52 = .ok (.iconst 4, 1) := by decide +kernel
theorem dX5_drop_53 : decode cX5_drop 53 = .ok (.aload_n 0, 1) := by decide +kernel
theorem dX5_drop_54 : decode cX5_drop 54 = .ok (.getfield 89, 3) := by decide +kernel
theorem dX5_drop_57 : decode cX5_drop 57 = .ok (.imul, 1) := by decide +kernel
theorem dX5_drop_58 : decode cX5_drop 58 = .ok (.if_icmp .ge 23, 3) := by decide +kernel
theorem dX5_drop_61 : decode cX5_drop 61 = .ok (.aload_n 0, 1) := by decide +kernel
theorem dX5_drop_62 : decode cX5_drop 62 = .ok (.getfield 66, 3) := by decide +kernel
theorem dX5_drop_65 : decode cX5_drop 65 = .ok (.iload_n 2, 1) := by decide +kernel
theorem dX5_drop_66 : decode cX5_drop 66 = .ok (.aload_n 0, 1) := by decide +kernel
theorem dX5_drop_67 : decode cX5_drop 67 = .ok (.getfield 66, 3) := by decide +kernel
theorem dX5_drop_70 : decode cX5_drop 70 = .ok (.iload_n 2, 1) := by decide +kernel
theorem dX5_drop_71 : decode cX5_drop 71 = .ok (.iconst 4, 1) := by decide +kernel
theorem dX5_drop_72 : decode cX5_drop 72 = .ok (.iadd, 1) := by decide +kernel
theorem dX5_drop_73 : decode cX5_drop 73 = .ok (.laload, 1) := by decide +kernel
theorem dX5_drop_74 : decode cX5_drop 74 = .ok (.lastore, 1) := by decide +kernel
theorem dX5_drop_75 : decode cX5_drop 75 = .ok (.iinc 2 1, 3) := by decide +kernel
theorem dX5_drop_78 : decode cX5_drop 78 = .ok (.goto (-27), 3) := by decide +kernel
theorem dX5_drop_81 : decode cX5_drop 81 = .ok (.return_, 1) := by decide +kernel
set_option maxRecDepth 20000 in
theorem ggX5_finish_X5_place : GoodIn wsX5_finish wsX5_place := goodIn_r _ [13] (by decide +kernel) (by decide +kernel)
set_option maxRecDepth 20000 in
theorem gX5_finish_X5_place : GoodIn wsX5_finish (va_wsS RX5 92 yX5_place wsX5_place) := goodIn_app (goodIn_of _ (by decide +kernel)) ggX5_finish_X5_place
theorem dX5_finish_0 : decode cX5_finish 0 = .ok (.iconst 4, 1) := by decide +kernel
theorem dX5_finish_1 : decode cX5_finish 1 = .ok (.iload_n 1, 1) := by decide +kernel
theorem dX5_finish_2 : decode cX5_finish 2 = .ok (.aload_n 0, 1) := by decide +kernel
theorem dX5_finish_3 : decode cX5_finish 3 = .ok (.getfield 36, 3) := by decide +kernel
theorem dX5_finish_6 : decode cX5_finish 6 = .ok (.iload_n 1, 1) := by decide +kernel
theorem dX5_finish_7 : decode cX5_finish 7 = .ok (.iaload, 1) := by decide +kernel
theorem dX5_finish_8 : decode cX5_finish 8 = .ok (.invokestatic 92, 3) := by decide +kernel
theorem dX5_finish_11 : decode cX5_finish 11 = .ok (.imul, 1) := by decide +kernel
theorem dX5_finish_12 : decode cX5_finish 12 = .ok (.aload_n 0, 1) := by decide +kernel
theorem dX5_finish_13 : decode cX5_finish 13 = .ok (.getfield 39, 3) := by decide +kernel
theorem dX5_finish_16 : decode cX5_finish 16 = .ok (.iload_n 1, 1) := by decide +kernel
theorem dX5_finish_17 : decode cX5_finish 17 = .ok (.iaload, 1) := by decide +kernel
theorem dX5_finish_18 : decode cX5_finish 18 = .ok (.iadd, 1) := by decide +kernel
theorem dX5_finish_19 : decode cX5_finish 19 = .ok (.istore_n 2, 1) := by decide +kernel
theorem dX5_finish_20 : decode cX5_finish 20 = .ok (.aload_n 0, 1) := by decide +kernel
theorem dX5_finish_21 : decode cX5_finish 21 = .ok (.getfield 42, 3) := by decide +kernel
theorem dX5_finish_24 : decode cX5_finish 24 = .ok (.iload_n 1, 1) := by decide +kernel
theorem dX5_finish_25 : decode cX5_finish 25 = .ok (.baload, 1) := by decide +kernel
theorem dX5_finish_26 : decode cX5_finish 26 = .ok (.ifCond .eq 15, 3) := by decide +kernel
theorem dX5_finish_29 : decode cX5_finish 29 = .ok (.aload_n 0, 1) := by decide +kernel
theorem dX5_finish_30 : decode cX5_finish 30 = .ok (.getfield 23, 3) := by decide +kernel
theorem dX5_finish_33 : decode cX5_finish 33 = .ok (.iload_n 2, 1) := by decide +kernel
theorem dX5_finish_34 : decode cX5_finish 34 = .ok (.aload_n 0, 1) := by decide +kernel
theorem dX5_finish_35 : decode cX5_finish 35 = .ok (.getfield 45, 3) := by decide +kernel
theorem dX5_finish_38 : decode cX5_finish 38 = .ok (.iload_n 1, 1) := by decide +kernel
theorem dX5_finish_39 : decode cX5_finish 39 = .ok (.laload, 1) := by decide +kernel
theorem dX5_finish_40 : decode cX5_finish 40 = .ok (.lastore, 1) := by decide +kernel
theorem dX5_finish_41 : decode cX5_finish 41 = .ok (.aload_n 0, 1) := by decide +kernel
theorem dX5_finish_42 : decode cX5_finish 42 = .ok (.getfield 60, 3) := by decide +kernel
theorem dX5_finish_45 : decode cX5_finish 45 = .ok (.iload_n 1, 1) := by decide +kernel
theorem dX5_finish_46 : decode cX5_finish 46 = .ok (.aload_n 0, 1) := by decide +kernel
theorem dX5_finish_47 : decode cX5_finish 47 = .ok (.getfield 23, 3) := by decide +kernel
theorem dX5_finish_50 : decode cX5_finish 50 = .ok (.iload_n 2, 1) := by decide +kernel
theorem dX5_finish_51 : decode cX5_finish 51 = .ok (.laload, 1) := by decide +kernel
theorem dX5_finish_52 : decode cX5_finish 52 = .ok (.lastore, 1) := by decide +kernel
theorem dX5_finish_53 : decode cX5_finish 53 = .ok (.aload_n 0, 1) := by decide +kernel
theorem dX5_finish_54 : decode cX5_finish 54 = .ok (.getfield 33, 3) := by decide +kernel
theorem dX5_finish_57 : decode cX5_finish 57 = .ok (.iload_n 1, 1) := by decide +kernel
theorem dX5_finish_58 : decode cX5_finish 58 = .ok (.iconst 0, 1) := by decide +kernel
theorem dX5_finish_59 : decode cX5_finish 59 = .ok (.iastore, 1) := by decide +kernel
theorem dX5_finish_60 : decode cX5_finish 60 = .ok (.aload_n 0, 1) := by decide +kernel
theorem dX5_finish_61 : decode cX5_finish 61 = .ok (.getfield 57, 3) := by decide +kernel
theorem dX5_finish_64 : decode cX5_finish 64 = .ok (.iload_n 1, 1) := by decide +kernel
theorem dX5_finish_65 : decode cX5_finish 65 = .ok (.dup2, 1) := by decide +kernel
theorem dX5_finish_66 : decode cX5_finish 66 = .ok (.iaload, 1) := by decide +kernel
theorem dX5_finish_67 : decode cX5_finish 67 = .ok (.iconst 1, 1) := by decide +kernel
theorem dX5_finish_68 : decode cX5_finish 68 = .ok (.iadd, 1) := by decide +kernel
theorem dX5_finish_69 : decode cX5_finish 69 = .ok (.iastore, 1) := by decide +kernel
theorem dX5_finish_70 : decode cX5_finish 70 = .ok (.aload_n 0, 1) := by decide +kernel
theorem dX5_finish_71 : decode cX5_finish 71 = .ok (.getfield 69, 3) := by decide +kernel
theorem dX5_finish_74 : decode cX5_finish 74 = .ok (.bipush 6, 2) := by decide +kernel
theorem dX5_finish_76 : decode cX5_finish 76 = .ok (.dup2, 1) := by decide +kernel
theorem dX5_finish_77 : decode cX5_finish 77 = .ok (.iaload, 1) := by decide +kernel
theorem dX5_finish_78 : decode cX5_finish 78 = .ok (.iconst 1, 1) := by decide +kernel
theorem dX5_finish_79 : decode cX5_finish 79 = .ok (.iadd, 1) := by decide +kernel
theorem dX5_finish_80 : decode cX5_finish 80 = .ok (.iastore, 1) := by decide +kernel
theorem dX5_finish_81 : decode cX5_finish 81 = .ok (.return_, 1) := by decide +kernel
theorem dX5_takeUp_0 : decode cX5_takeUp 0 = .ok (.aload_n 0, 1) := by decide +kernel
theorem dX5_takeUp_1 : decode cX5_takeUp 1 = .ok (.getfield 36, 3) := by decide +kernel
theorem dX5_takeUp_4 : decode cX5_takeUp 4 = .ok (.iload_n 1, 1) := by decide +kernel
theorem dX5_takeUp_5 : decode cX5_takeUp 5 = .ok (.iload_n 2, 1) := by decide +kernel
theorem dX5_takeUp_6 : decode cX5_takeUp 6 = .ok (.iastore, 1) := by decide +kernel
theorem dX5_takeUp_7 : decode cX5_takeUp 7 = .ok (.aload_n 0, 1) := by decide +kernel
theorem dX5_takeUp_8 : decode cX5_takeUp 8 = .ok (.getfield 39, 3) := by decide +kernel
theorem dX5_takeUp_11 : decode cX5_takeUp 11 = .ok (.iload_n 1, 1) := by decide +kernel
theorem dX5_takeUp_12 : decode cX5_takeUp 12 = .ok (.iload_n 3, 1) := by decide +kernel
theorem dX5_takeUp_13 : decode cX5_takeUp 13 = .ok (.iastore, 1) := by decide +kernel
theorem dX5_takeUp_14 : decode cX5_takeUp 14 = .ok (.aload_n 0, 1) := by decide +kernel
theorem dX5_takeUp_15 : decode cX5_takeUp 15 = .ok (.getfield 42, 3) := by decide +kernel
theorem dX5_takeUp_18 : decode cX5_takeUp 18 = .ok (.iload_n 1, 1) := by decide +kernel
theorem dX5_takeUp_19 : decode cX5_takeUp 19 = .ok (.iload 4, 2) := by decide +kernel
theorem dX5_takeUp_21 : decode cX5_takeUp 21 = .ok (.bastore, 1) := by decide +kernel
theorem dX5_takeUp_22 : decode cX5_takeUp 22 = .ok (.aload_n 0, 1) := by decide +kernel
theorem dX5_takeUp_23 : decode cX5_takeUp 23 = .ok (.getfield 48, 3) := by decide +kernel
theorem dX5_takeUp_26 : decode cX5_takeUp 26 = .ok (.iload_n 1, 1) := by decide +kernel
theorem dX5_takeUp_27 : decode cX5_takeUp 27 = .ok (.iconst 0, 1) := by decide +kernel
theorem dX5_takeUp_28 : decode cX5_takeUp 28 = .ok (.iastore, 1) := by decide +kernel
theorem dX5_takeUp_29 : decode cX5_takeUp 29 = .ok (.aload_n 0, 1) := by decide +kernel
theorem dX5_takeUp_30 : decode cX5_takeUp 30 = .ok (.getfield 51, 3) := by decide +kernel
theorem dX5_takeUp_33 : decode cX5_takeUp 33 = .ok (.iload_n 1, 1) := by decide +kernel
theorem dX5_takeUp_34 : decode cX5_takeUp 34 = .ok (.iconst 0, 1) := by decide +kernel
theorem dX5_takeUp_35 : decode cX5_takeUp 35 = .ok (.bastore, 1) := by decide +kernel
theorem dX5_takeUp_36 : decode cX5_takeUp 36 = .ok (.aload_n 0, 1) := by decide +kernel
theorem dX5_takeUp_37 : decode cX5_takeUp 37 = .ok (.getfield 54, 3) := by decide +kernel
theorem dX5_takeUp_40 : decode cX5_takeUp 40 = .ok (.iload_n 1, 1) := by decide +kernel
theorem dX5_takeUp_41 : decode cX5_takeUp 41 = .ok (.iconst 1, 1) := by decide +kernel
theorem dX5_takeUp_42 : decode cX5_takeUp 42 = .ok (.bastore, 1) := by decide +kernel
theorem dX5_takeUp_43 : decode cX5_takeUp 43 = .ok (.return_, 1) := by decide +kernel
set_option maxRecDepth 20000 in
theorem ggX5_ask_X5_isNode : GoodIn wsX5_ask wsX5_isNode := goodIn_r _ [11, 12, 48, 49, 50, 51, 52, 53, 54, 55, 56, 57, 58, 59, 60, 61, 62, 63, 64, 65, 66, 67, 68, 69, 70, 71, 72] (by decide +kernel) (by decide +kernel)
set_option maxRecDepth 20000 in
theorem gX5_ask_X5_isNode : GoodIn wsX5_ask (wsV RX5 96 RX5 yX5_isNode wsX5_isNode) := goodIn_app (goodIn_of _ (by decide +kernel)) ggX5_ask_X5_isNode
set_option maxRecDepth 20000 in
theorem ggX5_ask_X5_isPage : GoodIn wsX5_ask wsX5_isPage := goodIn_r _ [15] (by decide +kernel) (by decide +kernel)
set_option maxRecDepth 20000 in
theorem gX5_ask_X5_isPage : GoodIn wsX5_ask (va_wsS RX5 99 yX5_isPage wsX5_isPage) := goodIn_app (goodIn_of _ (by decide +kernel)) ggX5_ask_X5_isPage
set_option maxRecDepth 20000 in
theorem ggX5_ask_X5_takeUp : GoodIn wsX5_ask wsX5_takeUp := goodIn_r _ [19, 20, 21, 22, 23, 24, 25, 48, 49, 50, 51, 52, 53, 54, 55, 56, 57, 58, 59, 60, 61, 62, 63, 64, 65, 66, 67, 68, 69, 70, 71, 72] (by decide +kernel) (by decide +kernel)
set_option maxRecDepth 20000 in
theorem gX5_ask_X5_takeUp : GoodIn wsX5_ask (wsV RX5 102 RX5 yX5_takeUp wsX5_takeUp) := goodIn_app (goodIn_of _ (by decide +kernel)) ggX5_ask_X5_takeUp
set_option maxRecDepth 20000 in
theorem ggX5_ask_X5_place : GoodIn wsX5_ask wsX5_place := goodIn_r _ [28] (by decide +kernel) (by decide +kernel)
set_option maxRecDepth 20000 in
theorem gX5_ask_X5_place : GoodIn wsX5_ask (va_wsS RX5 92 yX5_place wsX5_place) := goodIn_app (goodIn_of _ (by decide +kernel)) ggX5_ask_X5_place
set_option maxRecDepth 20000 in
theorem ggX5_ask_X5_finish : GoodIn wsX5_ask wsX5_finish := goodIn_r _ [32, 20, 21, 22, 33, 2, 34, 1, 35, 4, 26, 27, 10, 28, 48, 49, 50, 51, 52, 53, 54, 55, 56, 57, 58, 59, 60, 61, 62, 63, 64, 65, 66, 67, 68, 69, 70, 71, 72] (by decide +kernel) (by decide +kernel)
set_option maxRecDepth 20000 in
theorem gX5_ask_X5_finish : GoodIn wsX5_ask (wsV RX5 106 RX5 yX5_finish wsX5_finish) := goodIn_app (goodIn_of _ (by decide +kernel)) ggX5_ask_X5_finish
set_option maxRecDepth 20000 in
theorem ggX5_ask_X5_callBack : GoodIn wsX5_ask wsX5_callBack := goodIn_r _ [39, 20, 12, 40, 4, 23, 3, 1, 26, 27, 10, 28, 41, 42, 43, 44, 45, 46, 47, 33, 29, 30, 31, 32, 21, 22, 2, 34, 35, 48, 49, 50, 51, 52, 53, 54, 55, 56, 57, 58, 59, 60, 61, 62, 63, 64, 65, 66, 67, 68, 69, 70, 71, 72] (by decide +kernel) (by decide +kernel)
set_option maxRecDepth 20000 in
theorem gX5_ask_X5_callBack : GoodIn wsX5_ask (wsV RX5 110 RX5 yX5_callBack wsX5_callBack) := goodIn_app (goodIn_of _ (by decide +kernel)) ggX5_ask_X5_callBack
set_option maxRecDepth 20000 in
theorem ggX5_ask_X5_send : GoodIn wsX5_ask wsX5_send := goodIn_r _ [44, 45, 46, 47, 33, 4, 26, 27, 10, 28, 48, 49, 50, 51, 52, 53, 54, 55, 56, 57, 58, 59, 60, 61, 62, 63, 64, 65, 66, 67, 68, 69, 70, 71, 72] (by decide +kernel) (by decide +kernel)
set_option maxRecDepth 20000 in
theorem gX5_ask_X5_send : GoodIn wsX5_ask (wsV RX5 113 RX5 yX5_send wsX5_send) := goodIn_app (goodIn_of _ (by decide +kernel)) ggX5_ask_X5_send
theorem dX5_ask_0 : decode cX5_ask 0 = .ok (.aload_n 0, 1) := by decide +kernel
theorem dX5_ask_1 : decode cX5_ask 1 = .ok (.iload_n 1, 1) := by decide +kernel
theorem dX5_ask_2 : decode cX5_ask 2 = .ok (.invokevirtual 96, 3) := by decide +kernel
theorem dX5_ask_5 : decode cX5_ask 5 = .ok (.ifCond .eq 23, 3) := by decide +kernel
theorem dX5_ask_8 : decode cX5_ask 8 = .ok (.iload_n 2, 1) := by decide +kernel
theorem dX5_ask_9 : decode cX5_ask 9 = .ok (.invokestatic 99, 3) := by decide +kernel
theorem dX5_ask_12 : decode cX5_ask 12 = .ok (.ifCond .eq 16, 3) := by decide +kernel
theorem dX5_ask_15 : decode cX5_ask 15 = .ok (.iload_n 3, 1) := by decide +kernel
theorem dX5_ask_16 : decode cX5_ask 16 = .ok (.ifCond .lt 12, 3) := by decide +kernel
theorem dX5_ask_19 : decode cX5_ask 19 = .ok (.iload_n 3, 1) := by decide +kernel
theorem dX5_ask_20 : decode cX5_ask 20 = .ok (.iconst 4, 1) := by decide +kernel
theorem dX5_ask_21 : decode cX5_ask 21 = .ok (.if_icmp .ge 7, 3) := by decide +kernel
theorem dX5_ask_24 : decode cX5_ask 24 = .ok (.iconst 1, 1) := by decide +kernel
theorem dX5_ask_25 : decode cX5_ask 25 = .ok (.goto 4, 3) := by decide +kernel
theorem dX5_ask_28 : decode cX5_ask 28 = .ok (.iconst 0, 1) := by decide +kernel
theorem dX5_ask_29 : decode cX5_ask 29 = .ok (.istore 7, 2) := by decide +kernel
theorem dX5_ask_31 : decode cX5_ask 31 = .ok (.iload 7, 2) := by decide +kernel
theorem dX5_ask_33 : decode cX5_ask 33 = .ok (.ifCond .eq 12, 3) := by decide +kernel
theorem dX5_ask_36 : decode cX5_ask 36 = .ok (.aload_n 0, 1) := by decide +kernel
theorem dX5_ask_37 : decode cX5_ask 37 = .ok (.getfield 33, 3) := by decide +kernel
theorem dX5_ask_40 : decode cX5_ask 40 = .ok (.iload_n 1, 1) := by decide +kernel
theorem dX5_ask_41 : decode cX5_ask 41 = .ok (.iaload, 1) := by decide +kernel
theorem dX5_ask_42 : decode cX5_ask 42 = .ok (.ifCond .eq 5, 3) := by decide +kernel
theorem dX5_ask_45 : decode cX5_ask 45 = .ok (.iconst (-1), 1) := by decide +kernel
theorem dX5_ask_46 : decode cX5_ask 46 = .ok (.ireturn, 1) := by decide +kernel
theorem dX5_ask_47 : decode cX5_ask 47 = .ok (.aload_n 0, 1) := by decide +kernel
theorem dX5_ask_48 : decode cX5_ask 48 = .ok (.iload_n 1, 1) := by decide +kernel
theorem dX5_ask_49 : decode cX5_ask 49 = .ok (.iload_n 2, 1) := by decide +kernel
theorem dX5_ask_50 : decode cX5_ask 50 = .ok (.iload_n 3, 1) := by decide +kernel
theorem dX5_ask_51 : decode cX5_ask 51 = .ok (.iload 4, 2) := by decide +kernel
theorem dX5_ask_53 : decode cX5_ask 53 = .ok (.invokevirtual 102, 3) := by decide +kernel
theorem dX5_ask_56 : decode cX5_ask 56 = .ok (.aload_n 0, 1) := by decide +kernel
theorem dX5_ask_57 : decode cX5_ask 57 = .ok (.getfield 45, 3) := by decide +kernel
theorem dX5_ask_60 : decode cX5_ask 60 = .ok (.iload_n 1, 1) := by decide +kernel
theorem dX5_ask_61 : decode cX5_ask 61 = .ok (.lload 5, 2) := by decide +kernel
theorem dX5_ask_63 : decode cX5_ask 63 = .ok (.lastore, 1) := by decide +kernel
theorem dX5_ask_64 : decode cX5_ask 64 = .ok (.iload_n 1, 1) := by decide +kernel
theorem dX5_ask_65 : decode cX5_ask 65 = .ok (.iload_n 2, 1) := by decide +kernel
theorem dX5_ask_66 : decode cX5_ask 66 = .ok (.invokestatic 92, 3) := by decide +kernel
theorem dX5_ask_69 : decode cX5_ask 69 = .ok (.istore 8, 2) := by decide +kernel
theorem dX5_ask_71 : decode cX5_ask 71 = .ok (.aload_n 0, 1) := by decide +kernel
theorem dX5_ask_72 : decode cX5_ask 72 = .ok (.getfield 7, 3) := by decide +kernel
theorem dX5_ask_75 : decode cX5_ask 75 = .ok (.iload 8, 2) := by decide +kernel
theorem dX5_ask_77 : decode cX5_ask 77 = .ok (.iaload, 1) := by decide +kernel
theorem dX5_ask_78 : decode cX5_ask 78 = .ok (.iload 4, 2) := by decide +kernel
theorem dX5_ask_80 : decode cX5_ask 80 = .ok (.ifCond .eq 7, 3) := by decide +kernel
theorem dX5_ask_83 : decode cX5_ask 83 = .ok (.iconst 2, 1) := by decide +kernel
theorem dX5_ask_84 : decode cX5_ask 84 = .ok (.goto 4, 3) := by decide +kernel
theorem dX5_ask_87 : decode cX5_ask 87 = .ok (.iconst 1, 1) := by decide +kernel
theorem dX5_ask_88 : decode cX5_ask 88 = .ok (.if_icmp .lt 21, 3) := by decide +kernel
theorem dX5_ask_91 : decode cX5_ask 91 = .ok (.aload_n 0, 1) := by decide +kernel
theorem dX5_ask_92 : decode cX5_ask 92 = .ok (.iload_n 1, 1) := by decide +kernel
theorem dX5_ask_93 : decode cX5_ask 93 = .ok (.invokevirtual 106, 3) := by decide +kernel
theorem dX5_ask_96 : decode cX5_ask 96 = .ok (.aload_n 0, 1) := by decide +kernel
theorem dX5_ask_97 : decode cX5_ask 97 = .ok (.getfield 69, 3) := by decide +kernel
theorem dX5_ask_100 : decode cX5_ask 100 = .ok (.bipush 7, 2) := by decide +kernel
theorem dX5_ask_102 : decode cX5_ask 102 = .ok (.dup2, 1) := by decide +kernel
theorem dX5_ask_103 : decode cX5_ask 103 = .ok (.iaload, 1) := by decide +kernel
theorem dX5_ask_104 : decode cX5_ask 104 = .ok (.iconst 1, 1) := by decide +kernel
theorem dX5_ask_105 : decode cX5_ask 105 = .ok (.iadd, 1) := by decide +kernel
theorem dX5_ask_106 : decode cX5_ask 106 = .ok (.iastore, 1) := by decide +kernel
theorem dX5_ask_107 : decode cX5_ask 107 = .ok (.iconst 1, 1) := by decide +kernel
theorem dX5_ask_108 : decode cX5_ask 108 = .ok (.ireturn, 1) := by decide +kernel
theorem dX5_ask_109 : decode cX5_ask 109 = .ok (.iload 4, 2) := by decide +kernel
theorem dX5_ask_111 : decode cX5_ask 111 = .ok (.ifCond .eq 36, 3) := by decide +kernel
theorem dX5_ask_114 : decode cX5_ask 114 = .ok (.aload_n 0, 1) := by decide +kernel
theorem dX5_ask_115 : decode cX5_ask 115 = .ok (.getfield 13, 3) := by decide +kernel
theorem dX5_ask_118 : decode cX5_ask 118 = .ok (.iload 8, 2) := by decide +kernel
theorem dX5_ask_120 : decode cX5_ask 120 = .ok (.baload, 1) := by decide +kernel
theorem dX5_ask_121 : decode cX5_ask 121 = .ok (.ifCond .eq 26, 3) := by decide +kernel
theorem dX5_ask_124 : decode cX5_ask 124 = .ok (.aload_n 0, 1) := by decide +kernel
theorem dX5_ask_125 : decode cX5_ask 125 = .ok (.iload_n 1, 1) := by decide +kernel
theorem dX5_ask_126 : decode cX5_ask 126 = .ok (.invokevirtual 110, 3) := by decide +kernel
theorem dX5_ask_129 : decode cX5_ask 129 = .ok (.ifCond .eq 16, 3) := by decide +kernel
theorem dX5_ask_132 : decode cX5_ask 132 = .ok (.aload_n 0, 1) := by decide +kernel
theorem dX5_ask_133 : decode cX5_ask 133 = .ok (.getfield 69, 3) := by decide +kernel
theorem dX5_ask_136 : decode cX5_ask 136 = .ok (.bipush 7, 2) := by decide +kernel
theorem dX5_ask_138 : decode cX5_ask 138 = .ok (.dup2, 1) := by decide +kernel
theorem dX5_ask_139 : decode cX5_ask 139 = .ok (.iaload, 1) := by decide +kernel
theorem dX5_ask_140 : decode cX5_ask 140 = .ok (.iconst 1, 1) := by decide +kernel
theorem dX5_ask_141 : decode cX5_ask 141 = .ok (.iadd, 1) := by decide +kernel
theorem dX5_ask_142 : decode cX5_ask 142 = .ok (.iastore, 1) := by decide +kernel
theorem dX5_ask_143 : decode cX5_ask 143 = .ok (.iconst 1, 1) := by decide +kernel
theorem dX5_ask_144 : decode cX5_ask 144 = .ok (.ireturn, 1) := by decide +kernel
theorem dX5_ask_145 : decode cX5_ask 145 = .ok (.iconst 0, 1) := by decide +kernel
theorem dX5_ask_146 : decode cX5_ask 146 = .ok (.ireturn, 1) := by decide +kernel
theorem dX5_ask_147 : decode cX5_ask 147 = .ok (.aload_n 0, 1) := by decide +kernel
theorem dX5_ask_148 : decode cX5_ask 148 = .ok (.getfield 33, 3) := by decide +kernel
theorem dX5_ask_151 : decode cX5_ask 151 = .ok (.iload_n 1, 1) := by decide +kernel
theorem dX5_ask_152 : decode cX5_ask 152 = .ok (.iload 4, 2) := by decide +kernel
theorem dX5_ask_154 : decode cX5_ask 154 = .ok (.ifCond .eq 7, 3) := by decide +kernel
theorem dX5_ask_157 : decode cX5_ask 157 = .ok (.iconst 2, 1) := by decide +kernel
theorem dX5_ask_158 : decode cX5_ask 158 = .ok (.goto 4, 3) := by decide +kernel
theorem dX5_ask_161 : decode cX5_ask 161 = .ok (.iconst 1, 1) := by decide +kernel
theorem dX5_ask_162 : decode cX5_ask 162 = .ok (.iastore, 1) := by decide +kernel
theorem dX5_ask_163 : decode cX5_ask 163 = .ok (.aload_n 0, 1) := by decide +kernel
theorem dX5_ask_164 : decode cX5_ask 164 = .ok (.iload 4, 2) := by decide +kernel
theorem dX5_ask_166 : decode cX5_ask 166 = .ok (.ifCond .eq 7, 3) := by decide +kernel
theorem dX5_ask_169 : decode cX5_ask 169 = .ok (.iconst 2, 1) := by decide +kernel
theorem dX5_ask_170 : decode cX5_ask 170 = .ok (.goto 4, 3) := by decide +kernel
theorem dX5_ask_173 : decode cX5_ask 173 = .ok (.iconst 1, 1) := by decide +kernel
theorem dX5_ask_174 : decode cX5_ask 174 = .ok (.iload_n 1, 1) := by decide +kernel
theorem dX5_ask_175 : decode cX5_ask 175 = .ok (.aload_n 0, 1) := by decide +kernel
theorem dX5_ask_176 : decode cX5_ask 176 = .ok (.getfield 17, 3) := by decide +kernel
theorem dX5_ask_179 : decode cX5_ask 179 = .ok (.iload 8, 2) := by decide +kernel
theorem dX5_ask_181 : decode cX5_ask 181 = .ok (.iaload, 1) := by decide +kernel
theorem dX5_ask_182 : decode cX5_ask 182 = .ok (.iload_n 2, 1) := by decide +kernel
theorem dX5_ask_183 : decode cX5_ask 183 = .ok (.iload_n 1, 1) := by decide +kernel
theorem dX5_ask_184 : decode cX5_ask 184 = .ok (.iconst 0, 1) := by decide +kernel
theorem dX5_ask_185 : decode cX5_ask 185 = .ok (.invokevirtual 113, 3) := by decide +kernel
theorem dX5_ask_188 : decode cX5_ask 188 = .ok (.iconst 0, 1) := by decide +kernel
theorem dX5_ask_189 : decode cX5_ask 189 = .ok (.ireturn, 1) := by decide +kernel
set_option maxRecDepth 20000 in
theorem ggX5_read_X5_ask : GoodIn wsX5_read wsX5_ask := goodIn_r _ [5, 6, 7, 8, 9, 10, 11, 12, 13, 14, 4, 15, 16, 17, 18, 19, 20, 21, 22, 23, 24, 25, 26, 27, 28, 29, 30, 31, 32, 33, 34, 35, 36, 37, 38, 39, 40, 41, 42, 43, 44, 45, 46, 47, 48, 49, 50, 51, 52, 53, 54, 55, 56, 57, 58, 59, 60, 61, 62, 63, 64, 65, 66, 67, 68, 69, 70, 71, 72, 73, 74, 75, 76] (by decide +kernel) (by decide +kernel)
set_option maxRecDepth 20000 in
theorem gX5_read_X5_ask : GoodIn wsX5_read (wsV RX5 117 RX5 yX5_ask wsX5_ask) := goodIn_app (goodIn_of _ (by decide +kernel)) ggX5_read_X5_ask
theorem dX5_read_0 : decode cX5_read 0 = .ok (.aload_n 0, 1) := by decide +kernel
theorem dX5_read_1 : decode cX5_read 1 = .ok (.iload_n 1, 1) := by decide +kernel
theorem dX5_read_2 : decode cX5_read 2 = .ok (.iload_n 2, 1) := by decide +kernel
theorem dX5_read_3 : decode cX5_read 3 = .ok (.iload_n 3, 1) := by decide +kernel
theorem dX5_read_4 : decode cX5_read 4 = .ok (.iconst 0, 1) := by decide +kernel
theorem dX5_read_5 : decode cX5_read 5 = .ok (.lconst 0, 1) := by decide +kernel
theorem dX5_read_6 : decode cX5_read 6 = .ok (.invokevirtual 117, 3) := by decide +kernel
theorem dX5_read_9 : decode cX5_read 9 = .ok (.ireturn, 1) := by decide +kernel
set_option maxRecDepth 20000 in
theorem ggX5_write_X5_ask : GoodIn wsX5_write wsX5_ask := goodIn_r _ [5, 6, 7, 8, 9, 10, 11, 12, 13, 14, 4, 15, 16, 17, 18, 19, 20, 21, 22, 23, 24, 25, 26, 27, 28, 29, 30, 31, 32, 33, 34, 35, 36, 37, 38, 39, 40, 41, 42, 43, 44, 45, 46, 47, 48, 49, 50, 51, 52, 53, 54, 55, 56, 57, 58, 59, 60, 61, 62, 63, 64, 65, 66, 67, 68, 69, 70, 71, 72, 73, 74, 75, 76] (by decide +kernel) (by decide +kernel)
set_option maxRecDepth 20000 in
theorem gX5_write_X5_ask : GoodIn wsX5_write (wsV RX5 117 RX5 yX5_ask wsX5_ask) := goodIn_app (goodIn_of _ (by decide +kernel)) ggX5_write_X5_ask
theorem dX5_write_0 : decode cX5_write 0 = .ok (.aload_n 0, 1) := by decide +kernel
theorem dX5_write_1 : decode cX5_write 1 = .ok (.iload_n 1, 1) := by decide +kernel
theorem dX5_write_2 : decode cX5_write 2 = .ok (.iload_n 2, 1) := by decide +kernel
theorem dX5_write_3 : decode cX5_write 3 = .ok (.iload_n 3, 1) := by decide +kernel
theorem dX5_write_4 : decode cX5_write 4 = .ok (.iconst 1, 1) := by decide +kernel
theorem dX5_write_5 : decode cX5_write 5 = .ok (.lload 4, 2) := by decide +kernel
theorem dX5_write_7 : decode cX5_write 7 = .ok (.invokevirtual 117, 3) := by decide +kernel
theorem dX5_write_10 : decode cX5_write 10 = .ok (.ireturn, 1) := by decide +kernel
set_option maxRecDepth 20000 in
theorem ggX5_callBack_X5_place : GoodIn wsX5_callBack wsX5_place := goodIn_r _ [11] (by decide +kernel) (by decide +kernel)
set_option maxRecDepth 20000 in
theorem gX5_callBack_X5_place : GoodIn wsX5_callBack (va_wsS RX5 92 yX5_place wsX5_place) := goodIn_app (goodIn_of _ (by decide +kernel)) ggX5_callBack_X5_place
set_option maxRecDepth 20000 in
theorem ggX5_callBack_X5_send : GoodIn wsX5_callBack wsX5_send := goodIn_r _ [15, 16, 17, 18, 19, 4, 8, 9, 10, 11, 29, 30, 31, 32, 33, 34, 35, 36, 37, 38, 39, 40, 41, 42, 43, 44, 45, 46, 47, 48, 49, 50, 51, 52, 53] (by decide +kernel) (by decide +kernel)
set_option maxRecDepth 20000 in
theorem gX5_callBack_X5_send : GoodIn wsX5_callBack (wsV RX5 113 RX5 yX5_send wsX5_send) := goodIn_app (goodIn_of _ (by decide +kernel)) ggX5_callBack_X5_send
set_option maxRecDepth 20000 in
theorem ggX5_callBack_X5_finish : GoodIn wsX5_callBack wsX5_finish := goodIn_r _ [23, 1, 24, 25, 19, 26, 27, 7, 28, 4, 8, 9, 10, 11, 29, 30, 31, 32, 33, 34, 35, 36, 37, 38, 39, 40, 41, 42, 43, 44, 45, 46, 47, 48, 49, 50, 51, 52, 53] (by decide +kernel) (by decide +kernel)
set_option maxRecDepth 20000 in
theorem gX5_callBack_X5_finish : GoodIn wsX5_callBack (wsV RX5 106 RX5 yX5_finish wsX5_finish) := goodIn_app (goodIn_of _ (by decide +kernel)) ggX5_callBack_X5_finish
theorem dX5_callBack_0 : decode cX5_callBack 0 = .ok (.iload_n 1, 1) := by decide +kernel
theorem dX5_callBack_1 : decode cX5_callBack 1 = .ok (.aload_n 0, 1) := by decide +kernel
theorem dX5_callBack_2 : decode cX5_callBack 2 = .ok (.getfield 36, 3) := by decide +kernel
theorem dX5_callBack_5 : decode cX5_callBack 5 = .ok (.iload_n 1, 1) := by decide +kernel
theorem dX5_callBack_6 : decode cX5_callBack 6 = .ok (.iaload, 1) := by decide +kernel
theorem dX5_callBack_7 : decode cX5_callBack 7 = .ok (.invokestatic 92, 3) := by decide +kernel
theorem dX5_callBack_10 : decode cX5_callBack 10 = .ok (.istore_n 2, 1) := by decide +kernel
theorem dX5_callBack_11 : decode cX5_callBack 11 = .ok (.iconst 0, 1) := by decide +kernel
theorem dX5_callBack_12 : decode cX5_callBack 12 = .ok (.istore_n 3, 1) := by decide +kernel
theorem dX5_callBack_13 : decode cX5_callBack 13 = .ok (.iconst 0, 1) := by decide +kernel
theorem dX5_callBack_14 : decode cX5_callBack 14 = .ok (.istore 4, 2) := by decide +kernel
theorem dX5_callBack_16 : decode cX5_callBack 16 = .ok (.iload 4, 2) := by decide +kernel
theorem dX5_callBack_18 : decode cX5_callBack 18 = .ok (.aload_n 0, 1) := by decide +kernel
theorem dX5_callBack_19 : decode cX5_callBack 19 = .ok (.getfield 85, 3) := by decide +kernel
theorem dX5_callBack_22 : decode cX5_callBack 22 = .ok (.if_icmp .ge 53, 3) := by decide +kernel
theorem dX5_callBack_25 : decode cX5_callBack 25 = .ok (.aload_n 0, 1) := by decide +kernel
theorem dX5_callBack_26 : decode cX5_callBack 26 = .ok (.getfield 20, 3) := by decide +kernel
theorem dX5_callBack_29 : decode cX5_callBack 29 = .ok (.iload_n 2, 1) := by decide +kernel
theorem dX5_callBack_30 : decode cX5_callBack 30 = .ok (.iaload, 1) := by decide +kernel
theorem dX5_callBack_31 : decode cX5_callBack 31 = .ok (.iload 4, 2) := by decide +kernel
theorem dX5_callBack_33 : decode cX5_callBack 33 = .ok (.ishr, 1) := by decide +kernel
theorem dX5_callBack_34 : decode cX5_callBack 34 = .ok (.iconst 1, 1) := by decide +kernel
theorem dX5_callBack_35 : decode cX5_callBack 35 = .ok (.iand, 1) := by decide +kernel
theorem dX5_callBack_36 : decode cX5_callBack 36 = .ok (.iconst 1, 1) := by decide +kernel
theorem dX5_callBack_37 : decode cX5_callBack 37 = .ok (.if_icmp .ne 32, 3) := by decide +kernel
theorem dX5_callBack_40 : decode cX5_callBack 40 = .ok (.aload_n 0, 1) := by decide +kernel
theorem dX5_callBack_41 : decode cX5_callBack 41 = .ok (.iconst 5, 1) := by decide +kernel
theorem dX5_callBack_42 : decode cX5_callBack 42 = .ok (.iload_n 1, 1) := by decide +kernel
theorem dX5_callBack_43 : decode cX5_callBack 43 = .ok (.iload 4, 2) := by decide +kernel
theorem dX5_callBack_45 : decode cX5_callBack 45 = .ok (.aload_n 0, 1) := by decide +kernel
theorem dX5_callBack_46 : decode cX5_callBack 46 = .ok (.getfield 36, 3) := by decide +kernel
theorem dX5_callBack_49 : decode cX5_callBack 49 = .ok (.iload_n 1, 1) := by decide +kernel
theorem dX5_callBack_50 : decode cX5_callBack 50 = .ok (.iaload, 1) := by decide +kernel
theorem dX5_callBack_51 : decode cX5_callBack 51 = .ok (.iconst (-1), 1) := by decide +kernel
theorem dX5_callBack_52 : decode cX5_callBack 52 = .ok (.iconst 0, 1) := by decide +kernel
theorem dX5_callBack_53 : decode cX5_callBack 53 = .ok (.invokevirtual 113, 3) := by decide +kernel
theorem dX5_callBack_56 : decode cX5_callBack 56 = .ok (.aload_n 0, 1) := by decide +kernel
theorem dX5_callBack_57 : decode cX5_callBack 57 = .ok (.getfield 69, 3) := by decide +kernel
theorem dX5_callBack_60 : decode cX5_callBack 60 = .ok (.iconst 5, 1) := by decide +kernel
theorem dX5_callBack_61 : decode cX5_callBack 61 = .ok (.dup2, 1) := by decide +kernel
theorem dX5_callBack_62 : decode cX5_callBack 62 = .ok (.iaload, 1) := by decide +kernel
theorem dX5_callBack_63 : decode cX5_callBack 63 = .ok (.iconst 1, 1) := by decide +kernel
theorem dX5_callBack_64 : decode cX5_callBack 64 = .ok (.iadd, 1) := by decide +kernel
theorem dX5_callBack_65 : decode cX5_callBack 65 = .ok (.iastore, 1) := by decide +kernel
theorem dX5_callBack_66 : decode cX5_callBack 66 = .ok (.iinc 3 1, 3) := by decide +kernel
theorem dX5_callBack_69 : decode cX5_callBack 69 = .ok (.iinc 4 1, 3) := by decide +kernel
theorem dX5_callBack_72 : decode cX5_callBack 72 = .ok (.goto (-56), 3) := by decide +kernel
theorem dX5_callBack_75 : decode cX5_callBack 75 = .ok (.aload_n 0, 1) := by decide +kernel
theorem dX5_callBack_76 : decode cX5_callBack 76 = .ok (.getfield 20, 3) := by decide +kernel
theorem dX5_callBack_79 : decode cX5_callBack 79 = .ok (.iload_n 2, 1) := by decide +kernel
theorem dX5_callBack_80 : decode cX5_callBack 80 = .ok (.iconst 0, 1) := by decide +kernel
theorem dX5_callBack_81 : decode cX5_callBack 81 = .ok (.iastore, 1) := by decide +kernel
theorem dX5_callBack_82 : decode cX5_callBack 82 = .ok (.aload_n 0, 1) := by decide +kernel
theorem dX5_callBack_83 : decode cX5_callBack 83 = .ok (.getfield 48, 3) := by decide +kernel
theorem dX5_callBack_86 : decode cX5_callBack 86 = .ok (.iload_n 1, 1) := by decide +kernel
theorem dX5_callBack_87 : decode cX5_callBack 87 = .ok (.iload_n 3, 1) := by decide +kernel
theorem dX5_callBack_88 : decode cX5_callBack 88 = .ok (.iastore, 1) := by decide +kernel
theorem dX5_callBack_89 : decode cX5_callBack 89 = .ok (.iload_n 3, 1) := by decide +kernel
theorem dX5_callBack_90 : decode cX5_callBack 90 = .ok (.ifCond .ne 17, 3) := by decide +kernel
theorem dX5_callBack_93 : decode cX5_callBack 93 = .ok (.aload_n 0, 1) := by decide +kernel
theorem dX5_callBack_94 : decode cX5_callBack 94 = .ok (.getfield 7, 3) := by decide +kernel
theorem dX5_callBack_97 : decode cX5_callBack 97 = .ok (.iload_n 2, 1) := by decide +kernel
theorem dX5_callBack_98 : decode cX5_callBack 98 = .ok (.iconst 2, 1) := by decide +kernel
theorem dX5_callBack_99 : decode cX5_callBack 99 = .ok (.iastore, 1) := by decide +kernel
theorem dX5_callBack_100 : decode cX5_callBack 100 = .ok (.aload_n 0, 1) := by decide +kernel
theorem dX5_callBack_101 : decode cX5_callBack 101 = .ok (.iload_n 1, 1) := by decide +kernel
theorem dX5_callBack_102 : decode cX5_callBack 102 = .ok (.invokevirtual 106, 3) := by decide +kernel
theorem dX5_callBack_105 : decode cX5_callBack 105 = .ok (.iconst 1, 1) := by decide +kernel
theorem dX5_callBack_106 : decode cX5_callBack 106 = .ok (.ireturn, 1) := by decide +kernel
theorem dX5_callBack_107 : decode cX5_callBack 107 = .ok (.aload_n 0, 1) := by decide +kernel
theorem dX5_callBack_108 : decode cX5_callBack 108 = .ok (.getfield 33, 3) := by decide +kernel
theorem dX5_callBack_111 : decode cX5_callBack 111 = .ok (.iload_n 1, 1) := by decide +kernel
theorem dX5_callBack_112 : decode cX5_callBack 112 = .ok (.iconst 3, 1) := by decide +kernel
theorem dX5_callBack_113 : decode cX5_callBack 113 = .ok (.iastore, 1) := by decide +kernel
theorem dX5_callBack_114 : decode cX5_callBack 114 = .ok (.iconst 0, 1) := by decide +kernel
theorem dX5_callBack_115 : decode cX5_callBack 115 = .ok (.ireturn, 1) := by decide +kernel
set_option maxRecDepth 20000 in
theorem ggX5_goOver_X5_place : GoodIn wsX5_goOver wsX5_place := goodIn_r _ [7] (by decide +kernel) (by decide +kernel)
set_option maxRecDepth 20000 in
theorem gX5_goOver_X5_place : GoodIn wsX5_goOver (va_wsS RX5 92 yX5_place wsX5_place) := goodIn_app (goodIn_of _ (by decide +kernel)) ggX5_goOver_X5_place
set_option maxRecDepth 20000 in
theorem ggX5_goOver_X5_asked : GoodIn wsX5_goOver wsX5_asked := goodIn_r _ [11, 12, 13, 3, 1, 14, 15, 16, 17, 18, 4, 5, 6, 7, 19, 20, 21, 22, 23, 24, 25, 26, 27, 28, 29, 30, 31, 32, 33, 34, 35, 36, 37, 38, 39, 40, 41, 42, 43, 44, 45, 46, 47, 48, 49, 50, 51] (by decide +kernel) (by decide +kernel)
set_option maxRecDepth 20000 in
theorem gX5_goOver_X5_asked : GoodIn wsX5_goOver (wsV RX5 121 RX5 yX5_asked wsX5_asked) := goodIn_app (goodIn_of _ (by decide +kernel)) ggX5_goOver_X5_asked
theorem dX5_goOver_0 : decode cX5_goOver 0 = .ok (.iload_n 1, 1) := by decide +kernel
theorem dX5_goOver_1 : decode cX5_goOver 1 = .ok (.iload_n 2, 1) := by decide +kernel
theorem dX5_goOver_2 : decode cX5_goOver 2 = .ok (.invokestatic 92, 3) := by decide +kernel
theorem dX5_goOver_5 : decode cX5_goOver 5 = .ok (.istore_n 3, 1) := by decide +kernel
theorem dX5_goOver_6 : decode cX5_goOver 6 = .ok (.aload_n 0, 1) := by decide +kernel
theorem dX5_goOver_7 : decode cX5_goOver 7 = .ok (.getfield 30, 3) := by decide +kernel
theorem dX5_goOver_10 : decode cX5_goOver 10 = .ok (.iload_n 3, 1) := by decide +kernel
theorem dX5_goOver_11 : decode cX5_goOver 11 = .ok (.iaload, 1) := by decide +kernel
theorem dX5_goOver_12 : decode cX5_goOver 12 = .ok (.istore 4, 2) := by decide +kernel
theorem dX5_goOver_14 : decode cX5_goOver 14 = .ok (.iconst 0, 1) := by decide +kernel
theorem dX5_goOver_15 : decode cX5_goOver 15 = .ok (.istore 5, 2) := by decide +kernel
theorem dX5_goOver_17 : decode cX5_goOver 17 = .ok (.iload 5, 2) := by decide +kernel
theorem dX5_goOver_19 : decode cX5_goOver 19 = .ok (.iconst 2, 1) := by decide +kernel
theorem dX5_goOver_20 : decode cX5_goOver 20 = .ok (.iload 4, 2) := by decide +kernel
theorem dX5_goOver_22 : decode cX5_goOver 22 = .ok (.imul, 1) := by decide +kernel
theorem dX5_goOver_23 : decode cX5_goOver 23 = .ok (.if_icmp .ge 28, 3) := by decide +kernel
theorem dX5_goOver_26 : decode cX5_goOver 26 = .ok (.aload_n 0, 1) := by decide +kernel
theorem dX5_goOver_27 : decode cX5_goOver 27 = .ok (.getfield 78, 3) := by decide +kernel
theorem dX5_goOver_30 : decode cX5_goOver 30 = .ok (.iload 5, 2) := by decide +kernel
theorem dX5_goOver_32 : decode cX5_goOver 32 = .ok (.aload_n 0, 1) := by decide +kernel
theorem dX5_goOver_33 : decode cX5_goOver 33 = .ok (.getfield 27, 3) := by decide +kernel
theorem dX5_goOver_36 : decode cX5_goOver 36 = .ok (.bipush 20, 2) := by decide +kernel
theorem dX5_goOver_38 : decode cX5_goOver 38 = .ok (.iload_n 3, 1) := by decide +kernel
theorem dX5_goOver_39 : decode cX5_goOver 39 = .ok (.imul, 1) := by decide +kernel
theorem dX5_goOver_40 : decode cX5_goOver 40 = .ok (.iload 5, 2) := by decide +kernel
theorem dX5_goOver_42 : decode cX5_goOver 42 = .ok (.iadd, 1) := by decide +kernel
theorem dX5_goOver_43 : decode cX5_goOver 43 = .ok (.iaload, 1) := by decide +kernel
theorem dX5_goOver_44 : decode cX5_goOver 44 = .ok (.iastore, 1) := by decide +kernel
theorem dX5_goOver_45 : decode cX5_goOver 45 = .ok (.iinc 5 1, 3) := by decide +kernel
theorem dX5_goOver_48 : decode cX5_goOver 48 = .ok (.goto (-31), 3) := by decide +kernel
theorem dX5_goOver_51 : decode cX5_goOver 51 = .ok (.aload_n 0, 1) := by decide +kernel
theorem dX5_goOver_52 : decode cX5_goOver 52 = .ok (.getfield 30, 3) := by decide +kernel
theorem dX5_goOver_55 : decode cX5_goOver 55 = .ok (.iload_n 3, 1) := by decide +kernel
theorem dX5_goOver_56 : decode cX5_goOver 56 = .ok (.iconst 0, 1) := by decide +kernel
theorem dX5_goOver_57 : decode cX5_goOver 57 = .ok (.iastore, 1) := by decide +kernel
theorem dX5_goOver_58 : decode cX5_goOver 58 = .ok (.iconst 0, 1) := by decide +kernel
theorem dX5_goOver_59 : decode cX5_goOver 59 = .ok (.istore 5, 2) := by decide +kernel
theorem dX5_goOver_61 : decode cX5_goOver 61 = .ok (.iload 5, 2) := by decide +kernel
theorem dX5_goOver_63 : decode cX5_goOver 63 = .ok (.iload 4, 2) := by decide +kernel
theorem dX5_goOver_65 : decode cX5_goOver 65 = .ok (.if_icmp .ge 35, 3) := by decide +kernel
theorem dX5_goOver_68 : decode cX5_goOver 68 = .ok (.aload_n 0, 1) := by decide +kernel
theorem dX5_goOver_69 : decode cX5_goOver 69 = .ok (.iload_n 1, 1) := by decide +kernel
theorem dX5_goOver_70 : decode cX5_goOver 70 = .ok (.iload_n 2, 1) := by decide +kernel
theorem dX5_goOver_71 : decode cX5_goOver 71 = .ok (.aload_n 0, 1) := by decide +kernel
theorem dX5_goOver_72 : decode cX5_goOver 72 = .ok (.getfield 78, 3) := by decide +kernel
theorem dX5_goOver_75 : decode cX5_goOver 75 = .ok (.iconst 2, 1) := by decide +kernel
theorem dX5_goOver_76 : decode cX5_goOver 76 = .ok (.iload 5, 2) := by decide +kernel
theorem dX5_goOver_78 : decode cX5_goOver 78 = .ok (.imul, 1) := by decide +kernel
theorem dX5_goOver_79 : decode cX5_goOver 79 = .ok (.iaload, 1) := by decide +kernel
theorem dX5_goOver_80 : decode cX5_goOver 80 = .ok (.aload_n 0, 1) := by decide +kernel
theorem dX5_goOver_81 : decode cX5_goOver 81 = .ok (.getfield 78, 3) := by decide +kernel
theorem dX5_goOver_84 : decode cX5_goOver 84 = .ok (.iconst 2, 1) := by decide +kernel
theorem dX5_goOver_85 : decode cX5_goOver 85 = .ok (.iload 5, 2) := by decide +kernel
theorem dX5_goOver_87 : decode cX5_goOver 87 = .ok (.imul, 1) := by decide +kernel
theorem dX5_goOver_88 : decode cX5_goOver 88 = .ok (.iconst 1, 1) := by decide +kernel
theorem dX5_goOver_89 : decode cX5_goOver 89 = .ok (.iadd, 1) := by decide +kernel
theorem dX5_goOver_90 : decode cX5_goOver 90 = .ok (.iaload, 1) := by decide +kernel
theorem dX5_goOver_91 : decode cX5_goOver 91 = .ok (.invokevirtual 121, 3) := by decide +kernel
theorem dX5_goOver_94 : decode cX5_goOver 94 = .ok (.iinc 5 1, 3) := by decide +kernel
theorem dX5_goOver_97 : decode cX5_goOver 97 = .ok (.goto (-36), 3) := by decide +kernel
theorem dX5_goOver_100 : decode cX5_goOver 100 = .ok (.return_, 1) := by decide +kernel
set_option maxRecDepth 20000 in
theorem ggX5_asked_X5_place : GoodIn wsX5_asked wsX5_place := goodIn_r _ [13] (by decide +kernel) (by decide +kernel)
set_option maxRecDepth 20000 in
theorem gX5_asked_X5_place : GoodIn wsX5_asked (va_wsS RX5 92 yX5_place wsX5_place) := goodIn_app (goodIn_of _ (by decide +kernel)) ggX5_asked_X5_place
set_option maxRecDepth 20000 in
theorem ggX5_asked_X5_send : GoodIn wsX5_asked wsX5_send := goodIn_r _ [17, 18, 19, 20, 21, 6, 10, 11, 12, 13, 22, 23, 24, 25, 26, 27, 28, 29, 30, 31, 32, 33, 34, 35, 36, 37, 38, 39, 40, 41, 42, 43, 44, 45, 46] (by decide +kernel) (by decide +kernel)
set_option maxRecDepth 20000 in
theorem gX5_asked_X5_send : GoodIn wsX5_asked (wsV RX5 113 RX5 yX5_send wsX5_send) := goodIn_app (goodIn_of _ (by decide +kernel)) ggX5_asked_X5_send
theorem dX5_asked_0 : decode cX5_asked 0 = .ok (.iload_n 1, 1) := by decide +kernel
theorem dX5_asked_1 : decode cX5_asked 1 = .ok (.iload_n 2, 1) := by decide +kernel
theorem dX5_asked_2 : decode cX5_asked 2 = .ok (.invokestatic 92, 3) := by decide +kernel
theorem dX5_asked_5 : decode cX5_asked 5 = .ok (.istore 5, 2) := by decide +kernel
theorem dX5_asked_7 : decode cX5_asked 7 = .ok (.aload_n 0, 1) := by decide +kernel
theorem dX5_asked_8 : decode cX5_asked 8 = .ok (.getfield 33, 3) := by decide +kernel
theorem dX5_asked_11 : decode cX5_asked 11 = .ok (.iload_n 1, 1) := by decide +kernel
theorem dX5_asked_12 : decode cX5_asked 12 = .ok (.iaload, 1) := by decide +kernel
theorem dX5_asked_13 : decode cX5_asked 13 = .ok (.iconst 2, 1) := by decide +kernel
theorem dX5_asked_14 : decode cX5_asked 14 = .ok (.if_icmp .lt 72, 3) := by decide +kernel
theorem dX5_asked_17 : decode cX5_asked 17 = .ok (.aload_n 0, 1) := by decide +kernel
theorem dX5_asked_18 : decode cX5_asked 18 = .ok (.getfield 36, 3) := by decide +kernel
theorem dX5_asked_21 : decode cX5_asked 21 = .ok (.iload_n 1, 1) := by decide +kernel
theorem dX5_asked_22 : decode cX5_asked 22 = .ok (.iaload, 1) := by decide +kernel
theorem dX5_asked_23 : decode cX5_asked 23 = .ok (.iload_n 2, 1) := by decide +kernel
theorem dX5_asked_24 : decode cX5_asked 24 = .ok (.if_icmp .ne 62, 3) := by decide +kernel
theorem dX5_asked_27 : decode cX5_asked 27 = .ok (.aload_n 0, 1) := by decide +kernel
theorem dX5_asked_28 : decode cX5_asked 28 = .ok (.getfield 27, 3) := by decide +kernel
theorem dX5_asked_31 : decode cX5_asked 31 = .ok (.bipush 20, 2) := by decide +kernel
theorem dX5_asked_33 : decode cX5_asked 33 = .ok (.iload 5, 2) := by decide +kernel
theorem dX5_asked_35 : decode cX5_asked 35 = .ok (.imul, 1) := by decide +kernel
theorem dX5_asked_36 : decode cX5_asked 36 = .ok (.iconst 2, 1) := by decide +kernel
theorem dX5_asked_37 : decode cX5_asked 37 = .ok (.aload_n 0, 1) := by decide +kernel
theorem dX5_asked_38 : decode cX5_asked 38 = .ok (.getfield 30, 3) := by decide +kernel
theorem dX5_asked_41 : decode cX5_asked 41 = .ok (.iload 5, 2) := by decide +kernel
theorem dX5_asked_43 : decode cX5_asked 43 = .ok (.iaload, 1) := by decide +kernel
theorem dX5_asked_44 : decode cX5_asked 44 = .ok (.imul, 1) := by decide +kernel
theorem dX5_asked_45 : decode cX5_asked 45 = .ok (.iadd, 1) := by decide +kernel
theorem dX5_asked_46 : decode cX5_asked 46 = .ok (.iload_n 3, 1) := by decide +kernel
theorem dX5_asked_47 : decode cX5_asked 47 = .ok (.iastore, 1) := by decide +kernel
theorem dX5_asked_48 : decode cX5_asked 48 = .ok (.aload_n 0, 1) := by decide +kernel
theorem dX5_asked_49 : decode cX5_asked 49 = .ok (.getfield 27, 3) := by decide +kernel
theorem dX5_asked_52 : decode cX5_asked 52 = .ok (.bipush 20, 2) := by decide +kernel
theorem dX5_asked_54 : decode cX5_asked 54 = .ok (.iload 5, 2) := by decide +kernel
theorem dX5_asked_56 : decode cX5_asked 56 = .ok (.imul, 1) := by decide +kernel
theorem dX5_asked_57 : decode cX5_asked 57 = .ok (.iconst 2, 1) := by decide +kernel
theorem dX5_asked_58 : decode cX5_asked 58 = .ok (.aload_n 0, 1) := by decide +kernel
theorem dX5_asked_59 : decode cX5_asked 59 = .ok (.getfield 30, 3) := by decide +kernel
theorem dX5_asked_62 : decode cX5_asked 62 = .ok (.iload 5, 2) := by decide +kernel
theorem dX5_asked_64 : decode cX5_asked 64 = .ok (.iaload, 1) := by decide +kernel
theorem dX5_asked_65 : decode cX5_asked 65 = .ok (.imul, 1) := by decide +kernel
theorem dX5_asked_66 : decode cX5_asked 66 = .ok (.iadd, 1) := by decide +kernel
theorem dX5_asked_67 : decode cX5_asked 67 = .ok (.iconst 1, 1) := by decide +kernel
theorem dX5_asked_68 : decode cX5_asked 68 = .ok (.iadd, 1) := by decide +kernel
theorem dX5_asked_69 : decode cX5_asked 69 = .ok (.iload 4, 2) := by decide +kernel
theorem dX5_asked_71 : decode cX5_asked 71 = .ok (.iastore, 1) := by decide +kernel
theorem dX5_asked_72 : decode cX5_asked 72 = .ok (.aload_n 0, 1) := by decide +kernel
theorem dX5_asked_73 : decode cX5_asked 73 = .ok (.getfield 30, 3) := by decide +kernel
theorem dX5_asked_76 : decode cX5_asked 76 = .ok (.iload 5, 2) := by decide +kernel
theorem dX5_asked_78 : decode cX5_asked 78 = .ok (.dup2, 1) := by decide +kernel
theorem dX5_asked_79 : decode cX5_asked 79 = .ok (.iaload, 1) := by decide +kernel
theorem dX5_asked_80 : decode cX5_asked 80 = .ok (.iconst 1, 1) := by decide +kernel
theorem dX5_asked_81 : decode cX5_asked 81 = .ok (.iadd, 1) := by decide +kernel
theorem dX5_asked_82 : decode cX5_asked 82 = .ok (.iastore, 1) := by decide +kernel
theorem dX5_asked_83 : decode cX5_asked 83 = .ok (.goto 178, 3) := by decide +kernel
theorem dX5_asked_86 : decode cX5_asked 86 = .ok (.aload_n 0, 1) := by decide +kernel
theorem dX5_asked_87 : decode cX5_asked 87 = .ok (.getfield 13, 3) := by decide +kernel
theorem dX5_asked_90 : decode cX5_asked 90 = .ok (.iload 5, 2) := by decide +kernel
theorem dX5_asked_92 : decode cX5_asked 92 = .ok (.baload, 1) := by decide +kernel
theorem dX5_asked_93 : decode cX5_asked 93 = .ok (.ifCond .ne 57, 3) := by decide +kernel
theorem dX5_asked_96 : decode cX5_asked 96 = .ok (.aload_n 0, 1) := by decide +kernel
theorem dX5_asked_97 : decode cX5_asked 97 = .ok (.getfield 69, 3) := by decide +kernel
theorem dX5_asked_100 : decode cX5_asked 100 = .ok (.iconst 2, 1) := by decide +kernel
theorem dX5_asked_101 : decode cX5_asked 101 = .ok (.dup2, 1) := by decide +kernel
theorem dX5_asked_102 : decode cX5_asked 102 = .ok (.iaload, 1) := by decide +kernel
theorem dX5_asked_103 : decode cX5_asked 103 = .ok (.iconst 1, 1) := by decide +kernel
theorem dX5_asked_104 : decode cX5_asked 104 = .ok (.iadd, 1) := by decide +kernel
theorem dX5_asked_105 : decode cX5_asked 105 = .ok (.iastore, 1) := by decide +kernel
theorem dX5_asked_106 : decode cX5_asked 106 = .ok (.aload_n 0, 1) := by decide +kernel
theorem dX5_asked_107 : decode cX5_asked 107 = .ok (.iload_n 3, 1) := by decide +kernel
theorem dX5_asked_108 : decode cX5_asked 108 = .ok (.iload_n 1, 1) := by decide +kernel
theorem dX5_asked_109 : decode cX5_asked 109 = .ok (.aload_n 0, 1) := by decide +kernel
theorem dX5_asked_110 : decode cX5_asked 110 = .ok (.getfield 17, 3) := by decide +kernel
theorem dX5_asked_113 : decode cX5_asked 113 = .ok (.iload 5, 2) := by decide +kernel
theorem dX5_asked_115 : decode cX5_asked 115 = .ok (.iaload, 1) := by decide +kernel
theorem dX5_asked_116 : decode cX5_asked 116 = .ok (.iload_n 2, 1) := by decide +kernel
theorem dX5_asked_117 : decode cX5_asked 117 = .ok (.iload 4, 2) := by decide +kernel
theorem dX5_asked_119 : decode cX5_asked 119 = .ok (.iconst 0, 1) := by decide +kernel
theorem dX5_asked_120 : decode cX5_asked 120 = .ok (.invokevirtual 113, 3) := by decide +kernel
theorem dX5_asked_123 : decode cX5_asked 123 = .ok (.aload_n 0, 1) := by decide +kernel
theorem dX5_asked_124 : decode cX5_asked 124 = .ok (.getfield 17, 3) := by decide +kernel
theorem dX5_asked_127 : decode cX5_asked 127 = .ok (.iload 5, 2) := by decide +kernel
theorem dX5_asked_129 : decode cX5_asked 129 = .ok (.iload_n 3, 1) := by decide +kernel
theorem dX5_asked_130 : decode cX5_asked 130 = .ok (.iconst 2, 1) := by decide +kernel
theorem dX5_asked_131 : decode cX5_asked 131 = .ok (.if_icmp .ne 8, 3) := by decide +kernel
theorem dX5_asked_134 : decode cX5_asked 134 = .ok (.iload 4, 2) := by decide +kernel
theorem dX5_asked_136 : decode cX5_asked 136 = .ok (.goto 10, 3) := by decide +kernel
theorem dX5_asked_139 : decode cX5_asked 139 = .ok (.aload_n 0, 1) := by decide +kernel
theorem dX5_asked_140 : decode cX5_asked 140 = .ok (.getfield 17, 3) := by decide +kernel
theorem dX5_asked_143 : decode cX5_asked 143 = .ok (.iload 5, 2) := by decide +kernel
theorem dX5_asked_145 : decode cX5_asked 145 = .ok (.iaload, 1) := by decide +kernel
theorem dX5_asked_146 : decode cX5_asked 146 = .ok (.iastore, 1) := by decide +kernel
theorem dX5_asked_147 : decode cX5_asked 147 = .ok (.goto 114, 3) := by decide +kernel
theorem dX5_asked_150 : decode cX5_asked 150 = .ok (.iload_n 3, 1) := by decide +kernel
theorem dX5_asked_151 : decode cX5_asked 151 = .ok (.iconst 1, 1) := by decide +kernel
theorem dX5_asked_152 : decode cX5_asked 152 = .ok (.if_icmp .ne 49, 3) := by decide +kernel
theorem dX5_asked_155 : decode cX5_asked 155 = .ok (.aload_n 0, 1) := by decide +kernel
theorem dX5_asked_156 : decode cX5_asked 156 = .ok (.getfield 20, 3) := by decide +kernel
theorem dX5_asked_159 : decode cX5_asked 159 = .ok (.iload 5, 2) := by decide +kernel
theorem dX5_asked_161 : decode cX5_asked 161 = .ok (.dup2, 1) := by decide +kernel
theorem dX5_asked_162 : decode cX5_asked 162 = .ok (.iaload, 1) := by decide +kernel
theorem dX5_asked_163 : decode cX5_asked 163 = .ok (.iconst 1, 1) := by decide +kernel
theorem dX5_asked_164 : decode cX5_asked 164 = .ok (.iload 4, 2) := by decide +kernel
theorem dX5_asked_166 : decode cX5_asked 166 = .ok (.ishl, 1) := by decide +kernel
theorem dX5_asked_167 : decode cX5_asked 167 = .ok (.ior, 1) := by decide +kernel
theorem dX5_asked_168 : decode cX5_asked 168 = .ok (.iastore, 1) := by decide +kernel
theorem dX5_asked_169 : decode cX5_asked 169 = .ok (.aload_n 0, 1) := by decide +kernel
theorem dX5_asked_170 : decode cX5_asked 170 = .ok (.getfield 7, 3) := by decide +kernel
theorem dX5_asked_173 : decode cX5_asked 173 = .ok (.iload 5, 2) := by decide +kernel
theorem dX5_asked_175 : decode cX5_asked 175 = .ok (.iconst 1, 1) := by decide +kernel
theorem dX5_asked_176 : decode cX5_asked 176 = .ok (.iastore, 1) := by decide +kernel
theorem dX5_asked_177 : decode cX5_asked 177 = .ok (.aload_n 0, 1) := by decide +kernel
theorem dX5_asked_178 : decode cX5_asked 178 = .ok (.getfield 69, 3) := by decide +kernel
theorem dX5_asked_181 : decode cX5_asked 181 = .ok (.iconst 3, 1) := by decide +kernel
theorem dX5_asked_182 : decode cX5_asked 182 = .ok (.dup2, 1) := by decide +kernel
theorem dX5_asked_183 : decode cX5_asked 183 = .ok (.iaload, 1) := by decide +kernel
theorem dX5_asked_184 : decode cX5_asked 184 = .ok (.iconst 1, 1) := by decide +kernel
theorem dX5_asked_185 : decode cX5_asked 185 = .ok (.iadd, 1) := by decide +kernel
theorem dX5_asked_186 : decode cX5_asked 186 = .ok (.iastore, 1) := by decide +kernel
theorem dX5_asked_187 : decode cX5_asked 187 = .ok (.aload_n 0, 1) := by decide +kernel
theorem dX5_asked_188 : decode cX5_asked 188 = .ok (.iconst 3, 1) := by decide +kernel
theorem dX5_asked_189 : decode cX5_asked 189 = .ok (.iload_n 1, 1) := by decide +kernel
theorem dX5_asked_190 : decode cX5_asked 190 = .ok (.iload 4, 2) := by decide +kernel
theorem dX5_asked_192 : decode cX5_asked 192 = .ok (.iload_n 2, 1) := by decide +kernel
theorem dX5_asked_193 : decode cX5_asked 193 = .ok (.iconst (-1), 1) := by decide +kernel
theorem dX5_asked_194 : decode cX5_asked 194 = .ok (.iconst 0, 1) := by decide +kernel
theorem dX5_asked_195 : decode cX5_asked 195 = .ok (.invokevirtual 113, 3) := by decide +kernel
theorem dX5_asked_198 : decode cX5_asked 198 = .ok (.goto 63, 3) := by decide +kernel
theorem dX5_asked_201 : decode cX5_asked 201 = .ok (.aload_n 0, 1) := by decide +kernel
theorem dX5_asked_202 : decode cX5_asked 202 = .ok (.getfield 69, 3) := by decide +kernel
theorem dX5_asked_205 : decode cX5_asked 205 = .ok (.iconst 4, 1) := by decide +kernel
theorem dX5_asked_206 : decode cX5_asked 206 = .ok (.dup2, 1) := by decide +kernel
theorem dX5_asked_207 : decode cX5_asked 207 = .ok (.iaload, 1) := by decide +kernel
theorem dX5_asked_208 : decode cX5_asked 208 = .ok (.iconst 1, 1) := by decide +kernel
theorem dX5_asked_209 : decode cX5_asked 209 = .ok (.iadd, 1) := by decide +kernel
theorem dX5_asked_210 : decode cX5_asked 210 = .ok (.iastore, 1) := by decide +kernel
theorem dX5_asked_211 : decode cX5_asked 211 = .ok (.aload_n 0, 1) := by decide +kernel
theorem dX5_asked_212 : decode cX5_asked 212 = .ok (.iconst 4, 1) := by decide +kernel
theorem dX5_asked_213 : decode cX5_asked 213 = .ok (.iload_n 1, 1) := by decide +kernel
theorem dX5_asked_214 : decode cX5_asked 214 = .ok (.iload 4, 2) := by decide +kernel
theorem dX5_asked_216 : decode cX5_asked 216 = .ok (.iload_n 2, 1) := by decide +kernel
theorem dX5_asked_217 : decode cX5_asked 217 = .ok (.iconst (-1), 1) := by decide +kernel
theorem dX5_asked_218 : decode cX5_asked 218 = .ok (.aload_n 0, 1) := by decide +kernel
theorem dX5_asked_219 : decode cX5_asked 219 = .ok (.getfield 20, 3) := by decide +kernel
theorem dX5_asked_222 : decode cX5_asked 222 = .ok (.iload 5, 2) := by decide +kernel
theorem dX5_asked_224 : decode cX5_asked 224 = .ok (.iaload, 1) := by decide +kernel
theorem dX5_asked_225 : decode cX5_asked 225 = .ok (.invokevirtual 113, 3) := by decide +kernel
theorem dX5_asked_228 : decode cX5_asked 228 = .ok (.aload_n 0, 1) := by decide +kernel
theorem dX5_asked_229 : decode cX5_asked 229 = .ok (.getfield 13, 3) := by decide +kernel
theorem dX5_asked_232 : decode cX5_asked 232 = .ok (.iload 5, 2) := by decide +kernel
theorem dX5_asked_234 : decode cX5_asked 234 = .ok (.iconst 0, 1) := by decide +kernel
theorem dX5_asked_235 : decode cX5_asked 235 = .ok (.bastore, 1) := by decide +kernel
theorem dX5_asked_236 : decode cX5_asked 236 = .ok (.aload_n 0, 1) := by decide +kernel
theorem dX5_asked_237 : decode cX5_asked 237 = .ok (.getfield 20, 3) := by decide +kernel
theorem dX5_asked_240 : decode cX5_asked 240 = .ok (.iload 5, 2) := by decide +kernel
theorem dX5_asked_242 : decode cX5_asked 242 = .ok (.iconst 0, 1) := by decide +kernel
theorem dX5_asked_243 : decode cX5_asked 243 = .ok (.iastore, 1) := by decide +kernel
theorem dX5_asked_244 : decode cX5_asked 244 = .ok (.aload_n 0, 1) := by decide +kernel
theorem dX5_asked_245 : decode cX5_asked 245 = .ok (.getfield 7, 3) := by decide +kernel
theorem dX5_asked_248 : decode cX5_asked 248 = .ok (.iload 5, 2) := by decide +kernel
theorem dX5_asked_250 : decode cX5_asked 250 = .ok (.iconst 0, 1) := by decide +kernel
theorem dX5_asked_251 : decode cX5_asked 251 = .ok (.iastore, 1) := by decide +kernel
theorem dX5_asked_252 : decode cX5_asked 252 = .ok (.aload_n 0, 1) := by decide +kernel
theorem dX5_asked_253 : decode cX5_asked 253 = .ok (.getfield 17, 3) := by decide +kernel
theorem dX5_asked_256 : decode cX5_asked 256 = .ok (.iload 5, 2) := by decide +kernel
theorem dX5_asked_258 : decode cX5_asked 258 = .ok (.iload 4, 2) := by decide +kernel
theorem dX5_asked_260 : decode cX5_asked 260 = .ok (.iastore, 1) := by decide +kernel
theorem dX5_asked_261 : decode cX5_asked 261 = .ok (.return_, 1) := by decide +kernel
set_option maxRecDepth 20000 in
theorem ggX5_deliver_X5_drop : GoodIn wsX5_deliver wsX5_drop := goodIn_r _ [18, 1, 3, 5, 57, 58, 59, 60, 61, 62, 63, 64, 65, 66, 67, 68, 69, 70, 71, 72, 73, 74, 75, 76, 77, 78, 79, 80, 81] (by decide +kernel) (by decide +kernel)
set_option maxRecDepth 20000 in
theorem gX5_deliver_X5_drop : GoodIn wsX5_deliver (wsV RX5 125 RX5 yX5_drop wsX5_drop) := goodIn_app (goodIn_of _ (by decide +kernel)) ggX5_deliver_X5_drop
set_option maxRecDepth 20000 in
theorem ggX5_deliver_X5_place : GoodIn wsX5_deliver wsX5_place := goodIn_r _ [21] (by decide +kernel) (by decide +kernel)
set_option maxRecDepth 20000 in
theorem gX5_deliver_X5_place : GoodIn wsX5_deliver (va_wsS RX5 92 yX5_place wsX5_place) := goodIn_app (goodIn_of _ (by decide +kernel)) ggX5_deliver_X5_place
set_option maxRecDepth 20000 in
theorem ggX5_deliver_X5_asked : GoodIn wsX5_deliver wsX5_asked := goodIn_r _ [25, 11, 12, 26, 27, 10, 28, 6, 9, 7, 19, 20, 17, 21, 29, 30, 31, 32, 1, 3, 5, 33, 57, 58, 59, 60, 61, 62, 63, 64, 65, 66, 67, 68, 69, 70, 71, 72, 73, 74, 75, 76, 77, 78, 79, 80, 81] (by decide +kernel) (by decide +kernel)
set_option maxRecDepth 20000 in
theorem gX5_deliver_X5_asked : GoodIn wsX5_deliver (wsV RX5 121 RX5 yX5_asked wsX5_asked) := goodIn_app (goodIn_of _ (by decide +kernel)) ggX5_deliver_X5_asked
set_option maxRecDepth 20000 in
theorem ggX5_deliver_X5_takeWords : GoodIn wsX5_deliver wsX5_takeWords := goodIn_r _ [37, 33, 4, 57, 58, 59, 60, 61, 62, 63, 64, 65, 66, 67, 68, 69, 70, 71, 72, 73, 74, 75, 76, 77, 78, 79, 80, 81] (by decide +kernel) (by decide +kernel)
set_option maxRecDepth 20000 in
theorem gX5_deliver_X5_takeWords : GoodIn wsX5_deliver (wsV RX5 128 RX5 yX5_takeWords wsX5_takeWords) := goodIn_app (goodIn_of _ (by decide +kernel)) ggX5_deliver_X5_takeWords
set_option maxRecDepth 20000 in
theorem ggX5_deliver_X5_finish : GoodIn wsX5_deliver wsX5_finish := goodIn_r _ [41, 12, 42, 43, 33, 44, 45, 11, 46, 28, 19, 20, 17, 21, 57, 58, 59, 60, 61, 62, 63, 64, 65, 66, 67, 68, 69, 70, 71, 72, 73, 74, 75, 76, 77, 78, 79, 80, 81] (by decide +kernel) (by decide +kernel)
set_option maxRecDepth 20000 in
theorem gX5_deliver_X5_finish : GoodIn wsX5_deliver (wsV RX5 106 RX5 yX5_finish wsX5_finish) := goodIn_app (goodIn_of _ (by decide +kernel)) ggX5_deliver_X5_finish
set_option maxRecDepth 20000 in
theorem ggX5_deliver_X5_callBack : GoodIn wsX5_deliver wsX5_callBack := goodIn_r _ [50, 12, 51, 9, 28, 13, 7, 11, 19, 20, 17, 21, 29, 30, 31, 32, 1, 3, 5, 33, 38, 39, 40, 41, 42, 43, 44, 45, 46, 57, 58, 59, 60, 61, 62, 63, 64, 65, 66, 67, 68, 69, 70, 71, 72, 73, 74, 75, 76, 77, 78, 79, 80, 81] (by decide +kernel) (by decide +kernel)
set_option maxRecDepth 20000 in
theorem gX5_deliver_X5_callBack : GoodIn wsX5_deliver (wsV RX5 110 RX5 yX5_callBack wsX5_callBack) := goodIn_app (goodIn_of _ (by decide +kernel)) ggX5_deliver_X5_callBack
set_option maxRecDepth 20000 in
theorem ggX5_deliver_X5_goOver : GoodIn wsX5_deliver wsX5_goOver := goodIn_r _ [55, 27, 56, 26, 19, 20, 17, 21, 22, 23, 24, 25, 11, 12, 10, 28, 6, 9, 7, 29, 30, 31, 32, 1, 3, 5, 33, 57, 58, 59, 60, 61, 62, 63, 64, 65, 66, 67, 68, 69, 70, 71, 72, 73, 74, 75, 76, 77, 78, 79, 80, 81] (by decide +kernel) (by decide +kernel)
set_option maxRecDepth 20000 in
theorem gX5_deliver_X5_goOver : GoodIn wsX5_deliver (wsV RX5 131 RX5 yX5_goOver wsX5_goOver) := goodIn_app (goodIn_of _ (by decide +kernel)) ggX5_deliver_X5_goOver
set_option maxRecDepth 20000 in
theorem ggX5_deliver_X5_send : GoodIn wsX5_deliver wsX5_send := goodIn_r _ [32, 1, 3, 5, 33, 28, 19, 20, 17, 21, 57, 58, 59, 60, 61, 62, 63, 64, 65, 66, 67, 68, 69, 70, 71, 72, 73, 74, 75, 76, 77, 78, 79, 80, 81] (by decide +kernel) (by decide +kernel)
set_option maxRecDepth 20000 in
theorem gX5_deliver_X5_send : GoodIn wsX5_deliver (wsV RX5 113 RX5 yX5_send wsX5_send) := goodIn_app (goodIn_of _ (by decide +kernel)) ggX5_deliver_X5_send
theorem dX5_deliver_0 : decode cX5_deliver 0 = .ok (.iload_n 1, 1) := by decide +kernel
theorem dX5_deliver_1 : decode cX5_deliver 1 = .ok (.ifCond .lt 11, 3) := by decide +kernel
theorem dX5_deliver_4 : decode cX5_deliver 4 = .ok (.iload_n 1, 1) := by decide +kernel
theorem dX5_deliver_5 : decode cX5_deliver 5 = .ok (.aload_n 0, 1) := by decide +kernel
theorem dX5_deliver_6 : decode cX5_deliver 6 = .ok (.getfield 89, 3) := by decide +kernel
theorem dX5_deliver_9 : decode cX5_deliver 9 = .ok (.if_icmp .lt 5, 3) := by decide +kernel
theorem dX5_deliver_12 : decode cX5_deliver 12 = .ok (.iconst (-1), 1) := by decide +kernel
theorem dX5_deliver_13 : decode cX5_deliver 13 = .ok (.ireturn, 1) := by decide +kernel
theorem dX5_deliver_14 : decode cX5_deliver 14 = .ok (.iconst 0, 1) := by decide +kernel
theorem dX5_deliver_15 : decode cX5_deliver 15 = .ok (.istore_n 2, 1) := by decide +kernel
theorem dX5_deliver_16 : decode cX5_deliver 16 = .ok (.iload_n 2, 1) := by decide +kernel
theorem dX5_deliver_17 : decode cX5_deliver 17 = .ok (.bipush 7, 2) := by decide +kernel
theorem dX5_deliver_19 : decode cX5_deliver 19 = .ok (.if_icmp .ge 26, 3) := by decide +kernel
theorem dX5_deliver_22 : decode cX5_deliver 22 = .ok (.aload_n 0, 1) := by decide +kernel
theorem dX5_deliver_23 : decode cX5_deliver 23 = .ok (.getfield 72, 3) := by decide +kernel
theorem dX5_deliver_26 : decode cX5_deliver 26 = .ok (.iload_n 2, 1) := by decide +kernel
theorem dX5_deliver_27 : decode cX5_deliver 27 = .ok (.aload_n 0, 1) := by decide +kernel
theorem dX5_deliver_28 : decode cX5_deliver 28 = .ok (.getfield 63, 3) := by decide +kernel
theorem dX5_deliver_31 : decode cX5_deliver 31 = .ok (.bipush 7, 2) := by decide +kernel
theorem dX5_deliver_33 : decode cX5_deliver 33 = .ok (.iload_n 1, 1) := by decide +kernel
theorem dX5_deliver_34 : decode cX5_deliver 34 = .ok (.imul, 1) := by decide +kernel
theorem dX5_deliver_35 : decode cX5_deliver 35 = .ok (.iload_n 2, 1) := by decide +kernel
theorem dX5_deliver_36 : decode cX5_deliver 36 = .ok (.iadd, 1) := by decide +kernel
theorem dX5_deliver_37 : decode cX5_deliver 37 = .ok (.iaload, 1) := by decide +kernel
theorem dX5_deliver_38 : decode cX5_deliver 38 = .ok (.iastore, 1) := by decide +kernel
theorem dX5_deliver_39 : decode cX5_deliver 39 = .ok (.iinc 2 1, 3) := by decide +kernel
theorem dX5_deliver_42 : decode cX5_deliver 42 = .ok (.goto (-26), 3) := by decide +kernel
theorem dX5_deliver_45 : decode cX5_deliver 45 = .ok (.iconst 0, 1) := by decide +kernel
theorem dX5_deliver_46 : decode cX5_deliver 46 = .ok (.istore_n 2, 1) := by decide +kernel
theorem dX5_deliver_47 : decode cX5_deliver 47 = .ok (.iload_n 2, 1) := by decide +kernel
theorem dX5_deliver_48 : decode cX5_deliver 48 = .ok (.iconst 4, 1) := by decide +kernel
theorem dX5_deliver_49 : decode cX5_deliver 49 = .ok (.if_icmp .ge 25, 3) := by decide +kernel
theorem dX5_deliver_52 : decode cX5_deliver 52 = .ok (.aload_n 0, 1) := by decide +kernel
theorem dX5_deliver_53 : decode cX5_deliver 53 = .ok (.getfield 75, 3) := by decide +kernel
theorem dX5_deliver_56 : decode cX5_deliver 56 = .ok (.iload_n 2, 1) := by decide +kernel
theorem dX5_deliver_57 : decode cX5_deliver 57 = .ok (.aload_n 0, 1) := by decide +kernel
theorem dX5_deliver_58 : decode cX5_deliver 58 = .ok (.getfield 66, 3) := by decide +kernel
theorem dX5_deliver_61 : decode cX5_deliver 61 = .ok (.iconst 4, 1) := by decide +kernel
theorem dX5_deliver_62 : decode cX5_deliver 62 = .ok (.iload_n 1, 1) := by decide +kernel
theorem dX5_deliver_63 : decode cX5_deliver 63 = .ok (.imul, 1) := by decide +kernel
theorem dX5_deliver_64 : decode cX5_deliver 64 = .ok (.iload_n 2, 1) := by decide +kernel
theorem dX5_deliver_65 : decode cX5_deliver 65 = .ok (.iadd, 1) := by decide +kernel
theorem dX5_deliver_66 : decode cX5_deliver 66 = .ok (.laload, 1) := by decide +kernel
theorem dX5_deliver_67 : decode cX5_deliver 67 = .ok (.lastore, 1) := by decide +kernel
theorem dX5_deliver_68 : decode cX5_deliver 68 = .ok (.iinc 2 1, 3) := by decide +kernel
theorem dX5_deliver_71 : decode cX5_deliver 71 = .ok (.goto (-24), 3) := by decide +kernel
theorem dX5_deliver_74 : decode cX5_deliver 74 = .ok (.aload_n 0, 1) := by decide +kernel
theorem dX5_deliver_75 : decode cX5_deliver 75 = .ok (.iload_n 1, 1) := by decide +kernel
theorem dX5_deliver_76 : decode cX5_deliver 76 = .ok (.invokevirtual 125, 3) := by decide +kernel
theorem dX5_deliver_79 : decode cX5_deliver 79 = .ok (.aload_n 0, 1) := by decide +kernel
theorem dX5_deliver_80 : decode cX5_deliver 80 = .ok (.getfield 72, 3) := by decide +kernel
theorem dX5_deliver_83 : decode cX5_deliver 83 = .ok (.iconst 0, 1) := by decide +kernel
theorem dX5_deliver_84 : decode cX5_deliver 84 = .ok (.iaload, 1) := by decide +kernel
theorem dX5_deliver_85 : decode cX5_deliver 85 = .ok (.istore_n 2, 1) := by decide +kernel
theorem dX5_deliver_86 : decode cX5_deliver 86 = .ok (.aload_n 0, 1) := by decide +kernel
theorem dX5_deliver_87 : decode cX5_deliver 87 = .ok (.getfield 72, 3) := by decide +kernel
theorem dX5_deliver_90 : decode cX5_deliver 90 = .ok (.iconst 1, 1) := by decide +kernel
theorem dX5_deliver_91 : decode cX5_deliver 91 = .ok (.iaload, 1) := by decide +kernel
theorem dX5_deliver_92 : decode cX5_deliver 92 = .ok (.istore_n 3, 1) := by decide +kernel
theorem dX5_deliver_93 : decode cX5_deliver 93 = .ok (.aload_n 0, 1) := by decide +kernel
theorem dX5_deliver_94 : decode cX5_deliver 94 = .ok (.getfield 72, 3) := by decide +kernel
theorem dX5_deliver_97 : decode cX5_deliver 97 = .ok (.iconst 2, 1) := by decide +kernel
theorem dX5_deliver_98 : decode cX5_deliver 98 = .ok (.iaload, 1) := by decide +kernel
theorem dX5_deliver_99 : decode cX5_deliver 99 = .ok (.istore 4, 2) := by decide +kernel
theorem dX5_deliver_101 : decode cX5_deliver 101 = .ok (.aload_n 0, 1) := by decide +kernel
theorem dX5_deliver_102 : decode cX5_deliver 102 = .ok (.getfield 72, 3) := by decide +kernel
theorem dX5_deliver_105 : decode cX5_deliver 105 = .ok (.iconst 3, 1) := by decide +kernel
theorem dX5_deliver_106 : decode cX5_deliver 106 = .ok (.iaload, 1) := by decide +kernel
theorem dX5_deliver_107 : decode cX5_deliver 107 = .ok (.istore 5, 2) := by decide +kernel
theorem dX5_deliver_109 : decode cX5_deliver 109 = .ok (.iload 4, 2) := by decide +kernel
theorem dX5_deliver_111 : decode cX5_deliver 111 = .ok (.iload 5, 2) := by decide +kernel
theorem dX5_deliver_113 : decode cX5_deliver 113 = .ok (.invokestatic 92, 3) := by decide +kernel
theorem dX5_deliver_116 : decode cX5_deliver 116 = .ok (.istore 6, 2) := by decide +kernel
theorem dX5_deliver_118 : decode cX5_deliver 118 = .ok (.iload_n 2, 1) := by decide +kernel
theorem dX5_deliver_119 : decode cX5_deliver 119 = .ok (.tableswitch 229 1 5 #[33, 33, 51, 96, 159], 33) := by decide +kernel
theorem dX5_deliver_152 : decode cX5_deliver 152 = .ok (.aload_n 0, 1) := by decide +kernel
theorem dX5_deliver_153 : decode cX5_deliver 153 = .ok (.iload 4, 2) := by decide +kernel
theorem dX5_deliver_155 : decode cX5_deliver 155 = .ok (.iload 5, 2) := by decide +kernel
theorem dX5_deliver_157 : decode cX5_deliver 157 = .ok (.iload_n 2, 1) := by decide +kernel
theorem dX5_deliver_158 : decode cX5_deliver 158 = .ok (.aload_n 0, 1) := by decide +kernel
theorem dX5_deliver_159 : decode cX5_deliver 159 = .ok (.getfield 72, 3) := by decide +kernel
theorem dX5_deliver_162 : decode cX5_deliver 162 = .ok (.iconst 4, 1) := by decide +kernel
theorem dX5_deliver_163 : decode cX5_deliver 163 = .ok (.iaload, 1) := by decide +kernel
theorem dX5_deliver_164 : decode cX5_deliver 164 = .ok (.invokevirtual 121, 3) := by decide +kernel
theorem dX5_deliver_167 : decode cX5_deliver 167 = .ok (.goto 224, 3) := by decide +kernel
theorem dX5_deliver_170 : decode cX5_deliver 170 = .ok (.aload_n 0, 1) := by decide +kernel
theorem dX5_deliver_171 : decode cX5_deliver 171 = .ok (.iload 6, 2) := by decide +kernel
theorem dX5_deliver_173 : decode cX5_deliver 173 = .ok (.invokevirtual 128, 3) := by decide +kernel
theorem dX5_deliver_176 : decode cX5_deliver 176 = .ok (.aload_n 0, 1) := by decide +kernel
theorem dX5_deliver_177 : decode cX5_deliver 177 = .ok (.getfield 17, 3) := by decide +kernel
theorem dX5_deliver_180 : decode cX5_deliver 180 = .ok (.iload 6, 2) := by decide +kernel
theorem dX5_deliver_182 : decode cX5_deliver 182 = .ok (.iload_n 3, 1) := by decide +kernel
theorem dX5_deliver_183 : decode cX5_deliver 183 = .ok (.iastore, 1) := by decide +kernel
theorem dX5_deliver_184 : decode cX5_deliver 184 = .ok (.aload_n 0, 1) := by decide +kernel
theorem dX5_deliver_185 : decode cX5_deliver 185 = .ok (.getfield 7, 3) := by decide +kernel
theorem dX5_deliver_188 : decode cX5_deliver 188 = .ok (.iload 6, 2) := by decide +kernel
theorem dX5_deliver_190 : decode cX5_deliver 190 = .ok (.aload_n 0, 1) := by decide +kernel
theorem dX5_deliver_191 : decode cX5_deliver 191 = .ok (.getfield 51, 3) := by decide +kernel
theorem dX5_deliver_194 : decode cX5_deliver 194 = .ok (.iload 4, 2) := by decide +kernel
theorem dX5_deliver_196 : decode cX5_deliver 196 = .ok (.baload, 1) := by decide +kernel
theorem dX5_deliver_197 : decode cX5_deliver 197 = .ok (.ifCond .eq 7, 3) := by decide +kernel
theorem dX5_deliver_200 : decode cX5_deliver 200 = .ok (.iconst 0, 1) := by decide +kernel
theorem dX5_deliver_201 : decode cX5_deliver 201 = .ok (.goto 4, 3) := by decide +kernel
theorem dX5_deliver_204 : decode cX5_deliver 204 = .ok (.iconst 1, 1) := by decide +kernel
theorem dX5_deliver_205 : decode cX5_deliver 205 = .ok (.iastore, 1) := by decide +kernel
theorem dX5_deliver_206 : decode cX5_deliver 206 = .ok (.aload_n 0, 1) := by decide +kernel
theorem dX5_deliver_207 : decode cX5_deliver 207 = .ok (.iload 4, 2) := by decide +kernel
theorem dX5_deliver_209 : decode cX5_deliver 209 = .ok (.invokevirtual 106, 3) := by decide +kernel
theorem dX5_deliver_212 : decode cX5_deliver 212 = .ok (.goto 179, 3) := by decide +kernel
theorem dX5_deliver_215 : decode cX5_deliver 215 = .ok (.aload_n 0, 1) := by decide +kernel
theorem dX5_deliver_216 : decode cX5_deliver 216 = .ok (.iload 6, 2) := by decide +kernel
theorem dX5_deliver_218 : decode cX5_deliver 218 = .ok (.invokevirtual 128, 3) := by decide +kernel
theorem dX5_deliver_221 : decode cX5_deliver 221 = .ok (.aload_n 0, 1) := by decide +kernel
theorem dX5_deliver_222 : decode cX5_deliver 222 = .ok (.getfield 20, 3) := by decide +kernel
theorem dX5_deliver_225 : decode cX5_deliver 225 = .ok (.iload 6, 2) := by decide +kernel
theorem dX5_deliver_227 : decode cX5_deliver 227 = .ok (.aload_n 0, 1) := by decide +kernel
theorem dX5_deliver_228 : decode cX5_deliver 228 = .ok (.getfield 72, 3) := by decide +kernel
theorem dX5_deliver_231 : decode cX5_deliver 231 = .ok (.iconst 5, 1) := by decide +kernel
theorem dX5_deliver_232 : decode cX5_deliver 232 = .ok (.iaload, 1) := by decide +kernel
theorem dX5_deliver_233 : decode cX5_deliver 233 = .ok (.iconst 1, 1) := by decide +kernel
theorem dX5_deliver_234 : decode cX5_deliver 234 = .ok (.iload 4, 2) := by decide +kernel
theorem dX5_deliver_236 : decode cX5_deliver 236 = .ok (.ishl, 1) := by decide +kernel
theorem dX5_deliver_237 : decode cX5_deliver 237 = .ok (.iconst (-1), 1) := by decide +kernel
theorem dX5_deliver_238 : decode cX5_deliver 238 = .ok (.ixor, 1) := by decide +kernel
theorem dX5_deliver_239 : decode cX5_deliver 239 = .ok (.iand, 1) := by decide +kernel
theorem dX5_deliver_240 : decode cX5_deliver 240 = .ok (.iastore, 1) := by decide +kernel
theorem dX5_deliver_241 : decode cX5_deliver 241 = .ok (.aload_n 0, 1) := by decide +kernel
theorem dX5_deliver_242 : decode cX5_deliver 242 = .ok (.getfield 13, 3) := by decide +kernel
theorem dX5_deliver_245 : decode cX5_deliver 245 = .ok (.iload 6, 2) := by decide +kernel
theorem dX5_deliver_247 : decode cX5_deliver 247 = .ok (.iconst 1, 1) := by decide +kernel
theorem dX5_deliver_248 : decode cX5_deliver 248 = .ok (.bastore, 1) := by decide +kernel
theorem dX5_deliver_249 : decode cX5_deliver 249 = .ok (.aload_n 0, 1) := by decide +kernel
theorem dX5_deliver_250 : decode cX5_deliver 250 = .ok (.getfield 17, 3) := by decide +kernel
theorem dX5_deliver_253 : decode cX5_deliver 253 = .ok (.iload 6, 2) := by decide +kernel
theorem dX5_deliver_255 : decode cX5_deliver 255 = .ok (.iload 4, 2) := by decide +kernel
theorem dX5_deliver_257 : decode cX5_deliver 257 = .ok (.iastore, 1) := by decide +kernel
theorem dX5_deliver_258 : decode cX5_deliver 258 = .ok (.aload_n 0, 1) := by decide +kernel
theorem dX5_deliver_259 : decode cX5_deliver 259 = .ok (.iload 4, 2) := by decide +kernel
theorem dX5_deliver_261 : decode cX5_deliver 261 = .ok (.invokevirtual 110, 3) := by decide +kernel
theorem dX5_deliver_264 : decode cX5_deliver 264 = .ok (.ifCond .eq 127, 3) := by decide +kernel
theorem dX5_deliver_267 : decode cX5_deliver 267 = .ok (.aload_n 0, 1) := by decide +kernel
theorem dX5_deliver_268 : decode cX5_deliver 268 = .ok (.iload 4, 2) := by decide +kernel
theorem dX5_deliver_270 : decode cX5_deliver 270 = .ok (.iload 5, 2) := by decide +kernel
theorem dX5_deliver_272 : decode cX5_deliver 272 = .ok (.invokevirtual 131, 3) := by decide +kernel
theorem dX5_deliver_275 : decode cX5_deliver 275 = .ok (.goto 116, 3) := by decide +kernel
theorem dX5_deliver_278 : decode cX5_deliver 278 = .ok (.aload_n 0, 1) := by decide +kernel
theorem dX5_deliver_279 : decode cX5_deliver 279 = .ok (.getfield 7, 3) := by decide +kernel
theorem dX5_deliver_282 : decode cX5_deliver 282 = .ok (.iload 6, 2) := by decide +kernel
theorem dX5_deliver_284 : decode cX5_deliver 284 = .ok (.iconst 0, 1) := by decide +kernel
theorem dX5_deliver_285 : decode cX5_deliver 285 = .ok (.iastore, 1) := by decide +kernel
theorem dX5_deliver_286 : decode cX5_deliver 286 = .ok (.aload_n 0, 1) := by decide +kernel
theorem dX5_deliver_287 : decode cX5_deliver 287 = .ok (.getfield 17, 3) := by decide +kernel
theorem dX5_deliver_290 : decode cX5_deliver 290 = .ok (.iload 6, 2) := by decide +kernel
theorem dX5_deliver_292 : decode cX5_deliver 292 = .ok (.iload_n 3, 1) := by decide +kernel
theorem dX5_deliver_293 : decode cX5_deliver 293 = .ok (.iastore, 1) := by decide +kernel
theorem dX5_deliver_294 : decode cX5_deliver 294 = .ok (.aload_n 0, 1) := by decide +kernel
theorem dX5_deliver_295 : decode cX5_deliver 295 = .ok (.getfield 51, 3) := by decide +kernel
theorem dX5_deliver_298 : decode cX5_deliver 298 = .ok (.iload 4, 2) := by decide +kernel
theorem dX5_deliver_300 : decode cX5_deliver 300 = .ok (.dup2, 1) := by decide +kernel
theorem dX5_deliver_301 : decode cX5_deliver 301 = .ok (.baload, 1) := by decide +kernel
theorem dX5_deliver_302 : decode cX5_deliver 302 = .ok (.aload_n 0, 1) := by decide +kernel
theorem dX5_deliver_303 : decode cX5_deliver 303 = .ok (.getfield 33, 3) := by decide +kernel
theorem dX5_deliver_306 : decode cX5_deliver 306 = .ok (.iload 4, 2) := by decide +kernel
theorem dX5_deliver_308 : decode cX5_deliver 308 = .ok (.iaload, 1) := by decide +kernel
theorem dX5_deliver_309 : decode cX5_deliver 309 = .ok (.iconst 1, 1) := by decide +kernel
theorem dX5_deliver_310 : decode cX5_deliver 310 = .ok (.if_icmp .ne 19, 3) := by decide +kernel
theorem dX5_deliver_313 : decode cX5_deliver 313 = .ok (.aload_n 0, 1) := by decide +kernel
theorem dX5_deliver_314 : decode cX5_deliver 314 = .ok (.getfield 36, 3) := by decide +kernel
theorem dX5_deliver_317 : decode cX5_deliver 317 = .ok (.iload 4, 2) := by decide +kernel
theorem dX5_deliver_319 : decode cX5_deliver 319 = .ok (.iaload, 1) := by decide +kernel
theorem dX5_deliver_320 : decode cX5_deliver 320 = .ok (.iload 5, 2) := by decide +kernel
theorem dX5_deliver_322 : decode cX5_deliver 322 = .ok (.if_icmp .ne 7, 3) := by decide +kernel
theorem dX5_deliver_325 : decode cX5_deliver 325 = .ok (.iconst 1, 1) := by decide +kernel
theorem dX5_deliver_326 : decode cX5_deliver 326 = .ok (.goto 4, 3) := by decide +kernel
theorem dX5_deliver_329 : decode cX5_deliver 329 = .ok (.iconst 0, 1) := by decide +kernel
theorem dX5_deliver_330 : decode cX5_deliver 330 = .ok (.ior, 1) := by decide +kernel
theorem dX5_deliver_331 : decode cX5_deliver 331 = .ok (.bastore, 1) := by decide +kernel
theorem dX5_deliver_332 : decode cX5_deliver 332 = .ok (.aload_n 0, 1) := by decide +kernel
theorem dX5_deliver_333 : decode cX5_deliver 333 = .ok (.bipush 6, 2) := by decide +kernel
theorem dX5_deliver_335 : decode cX5_deliver 335 = .ok (.iload 4, 2) := by decide +kernel
theorem dX5_deliver_337 : decode cX5_deliver 337 = .ok (.iload_n 3, 1) := by decide +kernel
theorem dX5_deliver_338 : decode cX5_deliver 338 = .ok (.iload 5, 2) := by decide +kernel
theorem dX5_deliver_340 : decode cX5_deliver 340 = .ok (.iconst (-1), 1) := by decide +kernel
theorem dX5_deliver_341 : decode cX5_deliver 341 = .ok (.iconst 0, 1) := by decide +kernel
theorem dX5_deliver_342 : decode cX5_deliver 342 = .ok (.invokevirtual 113, 3) := by decide +kernel
theorem dX5_deliver_345 : decode cX5_deliver 345 = .ok (.goto 46, 3) := by decide +kernel
theorem dX5_deliver_348 : decode cX5_deliver 348 = .ok (.aload_n 0, 1) := by decide +kernel
theorem dX5_deliver_349 : decode cX5_deliver 349 = .ok (.getfield 48, 3) := by decide +kernel
theorem dX5_deliver_352 : decode cX5_deliver 352 = .ok (.iload 4, 2) := by decide +kernel
theorem dX5_deliver_354 : decode cX5_deliver 354 = .ok (.dup2, 1) := by decide +kernel
theorem dX5_deliver_355 : decode cX5_deliver 355 = .ok (.iaload, 1) := by decide +kernel
theorem dX5_deliver_356 : decode cX5_deliver 356 = .ok (.iconst 1, 1) := by decide +kernel
theorem dX5_deliver_357 : decode cX5_deliver 357 = .ok (.isub, 1) := by decide +kernel
theorem dX5_deliver_358 : decode cX5_deliver 358 = .ok (.iastore, 1) := by decide +kernel
theorem dX5_deliver_359 : decode cX5_deliver 359 = .ok (.aload_n 0, 1) := by decide +kernel
theorem dX5_deliver_360 : decode cX5_deliver 360 = .ok (.getfield 48, 3) := by decide +kernel
theorem dX5_deliver_363 : decode cX5_deliver 363 = .ok (.iload 4, 2) := by decide +kernel
theorem dX5_deliver_365 : decode cX5_deliver 365 = .ok (.iaload, 1) := by decide +kernel
theorem dX5_deliver_366 : decode cX5_deliver 366 = .ok (.ifCond .ne 25, 3) := by decide +kernel
theorem dX5_deliver_369 : decode cX5_deliver 369 = .ok (.aload_n 0, 1) := by decide +kernel
theorem dX5_deliver_370 : decode cX5_deliver 370 = .ok (.getfield 7, 3) := by decide +kernel
theorem dX5_deliver_373 : decode cX5_deliver 373 = .ok (.iload 6, 2) := by decide +kernel
theorem dX5_deliver_375 : decode cX5_deliver 375 = .ok (.iconst 2, 1) := by decide +kernel
theorem dX5_deliver_376 : decode cX5_deliver 376 = .ok (.iastore, 1) := by decide +kernel
theorem dX5_deliver_377 : decode cX5_deliver 377 = .ok (.aload_n 0, 1) := by decide +kernel
theorem dX5_deliver_378 : decode cX5_deliver 378 = .ok (.iload 4, 2) := by decide +kernel
theorem dX5_deliver_380 : decode cX5_deliver 380 = .ok (.invokevirtual 106, 3) := by decide +kernel
theorem dX5_deliver_383 : decode cX5_deliver 383 = .ok (.aload_n 0, 1) := by decide +kernel
theorem dX5_deliver_384 : decode cX5_deliver 384 = .ok (.iload 4, 2) := by decide +kernel
theorem dX5_deliver_386 : decode cX5_deliver 386 = .ok (.iload 5, 2) := by decide +kernel
theorem dX5_deliver_388 : decode cX5_deliver 388 = .ok (.invokevirtual 131, 3) := by decide +kernel
theorem dX5_deliver_391 : decode cX5_deliver 391 = .ok (.iload_n 2, 1) := by decide +kernel
theorem dX5_deliver_392 : decode cX5_deliver 392 = .ok (.ireturn, 1) := by decide +kernel
theorem dX5_takeWords_0 : decode cX5_takeWords 0 = .ok (.iconst 0, 1) := by decide +kernel
theorem dX5_takeWords_1 : decode cX5_takeWords 1 = .ok (.istore_n 2, 1) := by decide +kernel
theorem dX5_takeWords_2 : decode cX5_takeWords 2 = .ok (.iload_n 2, 1) := by decide +kernel
theorem dX5_takeWords_3 : decode cX5_takeWords 3 = .ok (.iconst 4, 1) := by decide +kernel
theorem dX5_takeWords_4 : decode cX5_takeWords 4 = .ok (.if_icmp .ge 25, 3) := by decide +kernel
theorem dX5_takeWords_7 : decode cX5_takeWords 7 = .ok (.aload_n 0, 1) := by decide +kernel
theorem dX5_takeWords_8 : decode cX5_takeWords 8 = .ok (.getfield 23, 3) := by decide +kernel
theorem dX5_takeWords_11 : decode cX5_takeWords 11 = .ok (.iconst 4, 1) := by decide +kernel
theorem dX5_takeWords_12 : decode cX5_takeWords 12 = .ok (.iload_n 1, 1) := by decide +kernel
theorem dX5_takeWords_13 : decode cX5_takeWords 13 = .ok (.imul, 1) := by decide +kernel
theorem dX5_takeWords_14 : decode cX5_takeWords 14 = .ok (.iload_n 2, 1) := by decide +kernel
theorem dX5_takeWords_15 : decode cX5_takeWords 15 = .ok (.iadd, 1) := by decide +kernel
theorem dX5_takeWords_16 : decode cX5_takeWords 16 = .ok (.aload_n 0, 1) := by decide +kernel
theorem dX5_takeWords_17 : decode cX5_takeWords 17 = .ok (.getfield 75, 3) := by decide +kernel
theorem dX5_takeWords_20 : decode cX5_takeWords 20 = .ok (.iload_n 2, 1) := by decide +kernel
theorem dX5_takeWords_21 : decode cX5_takeWords 21 = .ok (.laload, 1) := by decide +kernel
theorem dX5_takeWords_22 : decode cX5_takeWords 22 = .ok (.lastore, 1) := by decide +kernel
theorem dX5_takeWords_23 : decode cX5_takeWords 23 = .ok (.iinc 2 1, 3) := by decide +kernel
theorem dX5_takeWords_26 : decode cX5_takeWords 26 = .ok (.goto (-24), 3) := by decide +kernel
theorem dX5_takeWords_29 : decode cX5_takeWords 29 = .ok (.return_, 1) := by decide +kernel
set_option maxRecDepth 20000 in
theorem ggX5_waits_X5_isNode : GoodIn wsX5_waits wsX5_isNode := goodIn_r _ [6, 7, 8, 9, 10, 11, 12, 13, 14, 15, 16, 17, 18, 19, 20, 21, 22, 23, 24, 25, 26, 27, 28, 29, 30, 31, 32] (by decide +kernel) (by decide +kernel)
set_option maxRecDepth 20000 in
theorem gX5_waits_X5_isNode : GoodIn wsX5_waits (wsV RX5 96 RX5 yX5_isNode wsX5_isNode) := goodIn_app (goodIn_of _ (by decide +kernel)) ggX5_waits_X5_isNode
theorem dX5_waits_0 : decode cX5_waits 0 = .ok (.aload_n 0, 1) := by decide +kernel
theorem dX5_waits_1 : decode cX5_waits 1 = .ok (.iload_n 1, 1) := by decide +kernel
theorem dX5_waits_2 : decode cX5_waits 2 = .ok (.invokevirtual 96, 3) := by decide +kernel
theorem dX5_waits_5 : decode cX5_waits 5 = .ok (.ifCond .eq 12, 3) := by decide +kernel
theorem dX5_waits_8 : decode cX5_waits 8 = .ok (.aload_n 0, 1) := by decide +kernel
theorem dX5_waits_9 : decode cX5_waits 9 = .ok (.getfield 33, 3) := by decide +kernel
theorem dX5_waits_12 : decode cX5_waits 12 = .ok (.iload_n 1, 1) := by decide +kernel
theorem dX5_waits_13 : decode cX5_waits 13 = .ok (.iaload, 1) := by decide +kernel
theorem dX5_waits_14 : decode cX5_waits 14 = .ok (.goto 4, 3) := by decide +kernel
theorem dX5_waits_17 : decode cX5_waits 17 = .ok (.iconst (-1), 1) := by decide +kernel
theorem dX5_waits_18 : decode cX5_waits 18 = .ok (.ireturn, 1) := by decide +kernel
set_option maxRecDepth 20000 in
theorem ggX5_at_X5_isNode : GoodIn wsX5_at wsX5_isNode := goodIn_r _ [12, 13, 14, 15, 16, 17, 18, 19, 20, 21, 22, 23, 24, 25, 26, 27, 28, 29, 30, 31, 32, 33, 34, 35, 36, 37, 38] (by decide +kernel) (by decide +kernel)
set_option maxRecDepth 20000 in
theorem gX5_at_X5_isNode : GoodIn wsX5_at (wsV RX5 96 RX5 yX5_isNode wsX5_isNode) := goodIn_app (goodIn_of _ (by decide +kernel)) ggX5_at_X5_isNode
theorem dX5_at_0 : decode cX5_at 0 = .ok (.aload_n 0, 1) := by decide +kernel
theorem dX5_at_1 : decode cX5_at 1 = .ok (.iload_n 1, 1) := by decide +kernel
theorem dX5_at_2 : decode cX5_at 2 = .ok (.invokevirtual 96, 3) := by decide +kernel
theorem dX5_at_5 : decode cX5_at 5 = .ok (.ifCond .eq 17, 3) := by decide +kernel
theorem dX5_at_8 : decode cX5_at 8 = .ok (.iload_n 2, 1) := by decide +kernel
theorem dX5_at_9 : decode cX5_at 9 = .ok (.iconst 4, 1) := by decide +kernel
theorem dX5_at_10 : decode cX5_at 10 = .ok (.if_icmp .eq 14, 3) := by decide +kernel
theorem dX5_at_13 : decode cX5_at 13 = .ok (.aload_n 0, 1) := by decide +kernel
theorem dX5_at_14 : decode cX5_at 14 = .ok (.getfield 54, 3) := by decide +kernel
theorem dX5_at_17 : decode cX5_at 17 = .ok (.iload_n 1, 1) := by decide +kernel
theorem dX5_at_18 : decode cX5_at 18 = .ok (.baload, 1) := by decide +kernel
theorem dX5_at_19 : decode cX5_at 19 = .ok (.ifCond .ne 5, 3) := by decide +kernel
theorem dX5_at_22 : decode cX5_at 22 = .ok (.iconst (-1), 1) := by decide +kernel
theorem dX5_at_23 : decode cX5_at 23 = .ok (.ireturn, 1) := by decide +kernel
theorem dX5_at_24 : decode cX5_at 24 = .ok (.iload_n 2, 1) := by decide +kernel
theorem dX5_at_25 : decode cX5_at 25 = .ok (.tableswitch 92 0 4 #[35, 42, 49, 64, 85], 35) := by decide +kernel
theorem dX5_at_60 : decode cX5_at 60 = .ok (.aload_n 0, 1) := by decide +kernel
theorem dX5_at_61 : decode cX5_at 61 = .ok (.getfield 36, 3) := by decide +kernel
theorem dX5_at_64 : decode cX5_at 64 = .ok (.iload_n 1, 1) := by decide +kernel
theorem dX5_at_65 : decode cX5_at 65 = .ok (.iaload, 1) := by decide +kernel
theorem dX5_at_66 : decode cX5_at 66 = .ok (.ireturn, 1) := by decide +kernel
theorem dX5_at_67 : decode cX5_at 67 = .ok (.aload_n 0, 1) := by decide +kernel
theorem dX5_at_68 : decode cX5_at 68 = .ok (.getfield 39, 3) := by decide +kernel
theorem dX5_at_71 : decode cX5_at 71 = .ok (.iload_n 1, 1) := by decide +kernel
theorem dX5_at_72 : decode cX5_at 72 = .ok (.iaload, 1) := by decide +kernel
theorem dX5_at_73 : decode cX5_at 73 = .ok (.ireturn, 1) := by decide +kernel
theorem dX5_at_74 : decode cX5_at 74 = .ok (.aload_n 0, 1) := by decide +kernel
theorem dX5_at_75 : decode cX5_at 75 = .ok (.getfield 42, 3) := by decide +kernel
theorem dX5_at_78 : decode cX5_at 78 = .ok (.iload_n 1, 1) := by decide +kernel
theorem dX5_at_79 : decode cX5_at 79 = .ok (.baload, 1) := by decide +kernel
theorem dX5_at_80 : decode cX5_at 80 = .ok (.ifCond .eq 7, 3) := by decide +kernel
theorem dX5_at_83 : decode cX5_at 83 = .ok (.iconst 1, 1) := by decide +kernel
theorem dX5_at_84 : decode cX5_at 84 = .ok (.goto 4, 3) := by decide +kernel
theorem dX5_at_87 : decode cX5_at 87 = .ok (.iconst 0, 1) := by decide +kernel
theorem dX5_at_88 : decode cX5_at 88 = .ok (.ireturn, 1) := by decide +kernel
theorem dX5_at_89 : decode cX5_at 89 = .ok (.aload_n 0, 1) := by decide +kernel
theorem dX5_at_90 : decode cX5_at 90 = .ok (.getfield 33, 3) := by decide +kernel
theorem dX5_at_93 : decode cX5_at 93 = .ok (.iload_n 1, 1) := by decide +kernel
theorem dX5_at_94 : decode cX5_at 94 = .ok (.iaload, 1) := by decide +kernel
theorem dX5_at_95 : decode cX5_at 95 = .ok (.iconst 3, 1) := by decide +kernel
theorem dX5_at_96 : decode cX5_at 96 = .ok (.if_icmp .ne 12, 3) := by decide +kernel
theorem dX5_at_99 : decode cX5_at 99 = .ok (.aload_n 0, 1) := by decide +kernel
theorem dX5_at_100 : decode cX5_at 100 = .ok (.getfield 48, 3) := by decide +kernel
theorem dX5_at_103 : decode cX5_at 103 = .ok (.iload_n 1, 1) := by decide +kernel
theorem dX5_at_104 : decode cX5_at 104 = .ok (.iaload, 1) := by decide +kernel
theorem dX5_at_105 : decode cX5_at 105 = .ok (.goto 4, 3) := by decide +kernel
theorem dX5_at_108 : decode cX5_at 108 = .ok (.iconst 0, 1) := by decide +kernel
theorem dX5_at_109 : decode cX5_at 109 = .ok (.ireturn, 1) := by decide +kernel
theorem dX5_at_110 : decode cX5_at 110 = .ok (.aload_n 0, 1) := by decide +kernel
theorem dX5_at_111 : decode cX5_at 111 = .ok (.getfield 57, 3) := by decide +kernel
theorem dX5_at_114 : decode cX5_at 114 = .ok (.iload_n 1, 1) := by decide +kernel
theorem dX5_at_115 : decode cX5_at 115 = .ok (.iaload, 1) := by decide +kernel
theorem dX5_at_116 : decode cX5_at 116 = .ok (.ireturn, 1) := by decide +kernel
theorem dX5_at_117 : decode cX5_at 117 = .ok (.iconst (-1), 1) := by decide +kernel
theorem dX5_at_118 : decode cX5_at 118 = .ok (.ireturn, 1) := by decide +kernel
set_option maxRecDepth 20000 in
theorem ggX5_result_X5_isNode : GoodIn wsX5_result wsX5_isNode := goodIn_r _ [6, 7, 8, 9, 10, 11, 12, 13, 14, 15, 16, 17, 18, 19, 20, 21, 22, 23, 24, 25, 26, 27, 28, 29, 30, 31, 32] (by decide +kernel) (by decide +kernel)
set_option maxRecDepth 20000 in
theorem gX5_result_X5_isNode : GoodIn wsX5_result (wsV RX5 96 RX5 yX5_isNode wsX5_isNode) := goodIn_app (goodIn_of _ (by decide +kernel)) ggX5_result_X5_isNode
theorem dX5_result_0 : decode cX5_result 0 = .ok (.aload_n 0, 1) := by decide +kernel
theorem dX5_result_1 : decode cX5_result 1 = .ok (.iload_n 1, 1) := by decide +kernel
theorem dX5_result_2 : decode cX5_result 2 = .ok (.invokevirtual 96, 3) := by decide +kernel
theorem dX5_result_5 : decode cX5_result 5 = .ok (.ifCond .eq 12, 3) := by decide +kernel
theorem dX5_result_8 : decode cX5_result 8 = .ok (.aload_n 0, 1) := by decide +kernel
theorem dX5_result_9 : decode cX5_result 9 = .ok (.getfield 60, 3) := by decide +kernel
theorem dX5_result_12 : decode cX5_result 12 = .ok (.iload_n 1, 1) := by decide +kernel
theorem dX5_result_13 : decode cX5_result 13 = .ok (.laload, 1) := by decide +kernel
theorem dX5_result_14 : decode cX5_result 14 = .ok (.goto 4, 3) := by decide +kernel
theorem dX5_result_17 : decode cX5_result 17 = .ok (.lconst 0, 1) := by decide +kernel
theorem dX5_result_18 : decode cX5_result 18 = .ok (.lreturn, 1) := by decide +kernel
set_option maxRecDepth 20000 in
theorem ggX5_isPlace_X5_isNode : GoodIn wsX5_isPlace wsX5_isNode := goodIn_r _ [5, 6, 10, 11, 12, 13, 14, 15, 16, 17, 18, 19, 20, 21, 22, 23, 24, 25, 26, 27, 28, 29, 30, 31, 32, 33, 34] (by decide +kernel) (by decide +kernel)
set_option maxRecDepth 20000 in
theorem gX5_isPlace_X5_isNode : GoodIn wsX5_isPlace (wsV RX5 96 RX5 yX5_isNode wsX5_isNode) := goodIn_app (goodIn_of _ (by decide +kernel)) ggX5_isPlace_X5_isNode
set_option maxRecDepth 20000 in
theorem ggX5_isPlace_X5_isPage : GoodIn wsX5_isPlace wsX5_isPage := goodIn_r _ [9] (by decide +kernel) (by decide +kernel)
set_option maxRecDepth 20000 in
theorem gX5_isPlace_X5_isPage : GoodIn wsX5_isPlace (va_wsS RX5 99 yX5_isPage wsX5_isPage) := goodIn_app (goodIn_of _ (by decide +kernel)) ggX5_isPlace_X5_isPage
theorem dX5_isPlace_0 : decode cX5_isPlace 0 = .ok (.aload_n 0, 1) := by decide +kernel
theorem dX5_isPlace_1 : decode cX5_isPlace 1 = .ok (.iload_n 1, 1) := by decide +kernel
theorem dX5_isPlace_2 : decode cX5_isPlace 2 = .ok (.invokevirtual 96, 3) := by decide +kernel
theorem dX5_isPlace_5 : decode cX5_isPlace 5 = .ok (.ifCond .eq 14, 3) := by decide +kernel
theorem dX5_isPlace_8 : decode cX5_isPlace 8 = .ok (.iload_n 2, 1) := by decide +kernel
theorem dX5_isPlace_9 : decode cX5_isPlace 9 = .ok (.invokestatic 99, 3) := by decide +kernel
theorem dX5_isPlace_12 : decode cX5_isPlace 12 = .ok (.ifCond .eq 7, 3) := by decide +kernel
theorem dX5_isPlace_15 : decode cX5_isPlace 15 = .ok (.iconst 1, 1) := by decide +kernel
theorem dX5_isPlace_16 : decode cX5_isPlace 16 = .ok (.goto 4, 3) := by decide +kernel
theorem dX5_isPlace_19 : decode cX5_isPlace 19 = .ok (.iconst 0, 1) := by decide +kernel
theorem dX5_isPlace_20 : decode cX5_isPlace 20 = .ok (.ireturn, 1) := by decide +kernel
set_option maxRecDepth 20000 in
theorem ggX5_access_X5_isPlace : GoodIn wsX5_access wsX5_isPlace := goodIn_r _ [6, 7, 8, 9, 5, 10, 11, 12, 13, 14, 18, 19, 20, 21, 22, 23, 24, 25, 26, 27, 28, 29, 30, 31, 32, 33, 34, 35, 36, 37, 38, 39, 40, 41, 42] (by decide +kernel) (by decide +kernel)
set_option maxRecDepth 20000 in
theorem gX5_access_X5_isPlace : GoodIn wsX5_access (wsV RX5 135 RX5 yX5_isPlace wsX5_isPlace) := goodIn_app (goodIn_of _ (by decide +kernel)) ggX5_access_X5_isPlace
set_option maxRecDepth 20000 in
theorem ggX5_access_X5_place : GoodIn wsX5_access wsX5_place := goodIn_r _ [17] (by decide +kernel) (by decide +kernel)
set_option maxRecDepth 20000 in
theorem gX5_access_X5_place : GoodIn wsX5_access (va_wsS RX5 92 yX5_place wsX5_place) := goodIn_app (goodIn_of _ (by decide +kernel)) ggX5_access_X5_place
theorem dX5_access_0 : decode cX5_access 0 = .ok (.aload_n 0, 1) := by decide +kernel
theorem dX5_access_1 : decode cX5_access 1 = .ok (.iload_n 1, 1) := by decide +kernel
theorem dX5_access_2 : decode cX5_access 2 = .ok (.iload_n 2, 1) := by decide +kernel
theorem dX5_access_3 : decode cX5_access 3 = .ok (.invokevirtual 135, 3) := by decide +kernel
theorem dX5_access_6 : decode cX5_access 6 = .ok (.ifCond .eq 16, 3) := by decide +kernel
theorem dX5_access_9 : decode cX5_access 9 = .ok (.aload_n 0, 1) := by decide +kernel
theorem dX5_access_10 : decode cX5_access 10 = .ok (.getfield 7, 3) := by decide +kernel
theorem dX5_access_13 : decode cX5_access 13 = .ok (.iload_n 1, 1) := by decide +kernel
theorem dX5_access_14 : decode cX5_access 14 = .ok (.iload_n 2, 1) := by decide +kernel
theorem dX5_access_15 : decode cX5_access 15 = .ok (.invokestatic 92, 3) := by decide +kernel
theorem dX5_access_18 : decode cX5_access 18 = .ok (.iaload, 1) := by decide +kernel
theorem dX5_access_19 : decode cX5_access 19 = .ok (.goto 4, 3) := by decide +kernel
theorem dX5_access_22 : decode cX5_access 22 = .ok (.iconst (-1), 1) := by decide +kernel
theorem dX5_access_23 : decode cX5_access 23 = .ok (.ireturn, 1) := by decide +kernel
set_option maxRecDepth 20000 in
theorem ggX5_owner_X5_isPage : GoodIn wsX5_owner wsX5_isPage := goodIn_r _ [6] (by decide +kernel) (by decide +kernel)
set_option maxRecDepth 20000 in
theorem gX5_owner_X5_isPage : GoodIn wsX5_owner (va_wsS RX5 99 yX5_isPage wsX5_isPage) := goodIn_app (goodIn_of _ (by decide +kernel)) ggX5_owner_X5_isPage
set_option maxRecDepth 20000 in
theorem ggX5_owner_X5_place : GoodIn wsX5_owner wsX5_place := goodIn_r _ [9] (by decide +kernel) (by decide +kernel)
set_option maxRecDepth 20000 in
theorem gX5_owner_X5_place : GoodIn wsX5_owner (va_wsS RX5 92 yX5_place wsX5_place) := goodIn_app (goodIn_of _ (by decide +kernel)) ggX5_owner_X5_place
theorem dX5_owner_0 : decode cX5_owner 0 = .ok (.iconst 0, 1) := by decide +kernel
theorem dX5_owner_1 : decode cX5_owner 1 = .ok (.istore_n 2, 1) := by decide +kernel
theorem dX5_owner_2 : decode cX5_owner 2 = .ok (.iload_n 2, 1) := by decide +kernel
theorem dX5_owner_3 : decode cX5_owner 3 = .ok (.aload_n 0, 1) := by decide +kernel
theorem dX5_owner_4 : decode cX5_owner 4 = .ok (.getfield 85, 3) := by decide +kernel
theorem dX5_owner_7 : decode cX5_owner 7 = .ok (.if_icmp .ge 31, 3) := by decide +kernel
theorem dX5_owner_10 : decode cX5_owner 10 = .ok (.iload_n 1, 1) := by decide +kernel
theorem dX5_owner_11 : decode cX5_owner 11 = .ok (.invokestatic 99, 3) := by decide +kernel
theorem dX5_owner_14 : decode cX5_owner 14 = .ok (.ifCond .eq 24, 3) := by decide +kernel
theorem dX5_owner_17 : decode cX5_owner 17 = .ok (.aload_n 0, 1) := by decide +kernel
theorem dX5_owner_18 : decode cX5_owner 18 = .ok (.getfield 13, 3) := by decide +kernel
theorem dX5_owner_21 : decode cX5_owner 21 = .ok (.iload_n 2, 1) := by decide +kernel
theorem dX5_owner_22 : decode cX5_owner 22 = .ok (.iload_n 1, 1) := by decide +kernel
theorem dX5_owner_23 : decode cX5_owner 23 = .ok (.invokestatic 92, 3) := by decide +kernel
theorem dX5_owner_26 : decode cX5_owner 26 = .ok (.baload, 1) := by decide +kernel
theorem dX5_owner_27 : decode cX5_owner 27 = .ok (.ifCond .eq 5, 3) := by decide +kernel
theorem dX5_owner_30 : decode cX5_owner 30 = .ok (.iload_n 2, 1) := by decide +kernel
theorem dX5_owner_31 : decode cX5_owner 31 = .ok (.ireturn, 1) := by decide +kernel
theorem dX5_owner_32 : decode cX5_owner 32 = .ok (.iinc 2 1, 3) := by decide +kernel
theorem dX5_owner_35 : decode cX5_owner 35 = .ok (.goto (-33), 3) := by decide +kernel
theorem dX5_owner_38 : decode cX5_owner 38 = .ok (.iconst (-1), 1) := by decide +kernel
theorem dX5_owner_39 : decode cX5_owner 39 = .ok (.ireturn, 1) := by decide +kernel
set_option maxRecDepth 20000 in
theorem ggX5_guess_X5_isPlace : GoodIn wsX5_guess wsX5_isPlace := goodIn_r _ [6, 7, 8, 9, 5, 10, 11, 12, 13, 14, 18, 19, 20, 21, 22, 23, 24, 25, 26, 27, 28, 29, 30, 31, 32, 33, 34, 35, 36, 37, 38, 39, 40, 41, 42] (by decide +kernel) (by decide +kernel)
set_option maxRecDepth 20000 in
theorem gX5_guess_X5_isPlace : GoodIn wsX5_guess (wsV RX5 135 RX5 yX5_isPlace wsX5_isPlace) := goodIn_app (goodIn_of _ (by decide +kernel)) ggX5_guess_X5_isPlace
set_option maxRecDepth 20000 in
theorem ggX5_guess_X5_place : GoodIn wsX5_guess wsX5_place := goodIn_r _ [17] (by decide +kernel) (by decide +kernel)
set_option maxRecDepth 20000 in
theorem gX5_guess_X5_place : GoodIn wsX5_guess (va_wsS RX5 92 yX5_place wsX5_place) := goodIn_app (goodIn_of _ (by decide +kernel)) ggX5_guess_X5_place
theorem dX5_guess_0 : decode cX5_guess 0 = .ok (.aload_n 0, 1) := by decide +kernel
theorem dX5_guess_1 : decode cX5_guess 1 = .ok (.iload_n 1, 1) := by decide +kernel
theorem dX5_guess_2 : decode cX5_guess 2 = .ok (.iload_n 2, 1) := by decide +kernel
theorem dX5_guess_3 : decode cX5_guess 3 = .ok (.invokevirtual 135, 3) := by decide +kernel
theorem dX5_guess_6 : decode cX5_guess 6 = .ok (.ifCond .eq 16, 3) := by decide +kernel
theorem dX5_guess_9 : decode cX5_guess 9 = .ok (.aload_n 0, 1) := by decide +kernel
theorem dX5_guess_10 : decode cX5_guess 10 = .ok (.getfield 17, 3) := by decide +kernel
theorem dX5_guess_13 : decode cX5_guess 13 = .ok (.iload_n 1, 1) := by decide +kernel
theorem dX5_guess_14 : decode cX5_guess 14 = .ok (.iload_n 2, 1) := by decide +kernel
theorem dX5_guess_15 : decode cX5_guess 15 = .ok (.invokestatic 92, 3) := by decide +kernel
theorem dX5_guess_18 : decode cX5_guess 18 = .ok (.iaload, 1) := by decide +kernel
theorem dX5_guess_19 : decode cX5_guess 19 = .ok (.goto 4, 3) := by decide +kernel
theorem dX5_guess_22 : decode cX5_guess 22 = .ok (.iconst (-1), 1) := by decide +kernel
theorem dX5_guess_23 : decode cX5_guess 23 = .ok (.ireturn, 1) := by decide +kernel
set_option maxRecDepth 20000 in
theorem ggX5_copies_X5_isPlace : GoodIn wsX5_copies wsX5_isPlace := goodIn_r _ [6, 7, 8, 9, 5, 10, 11, 12, 13, 14, 18, 19, 20, 21, 22, 23, 24, 25, 26, 27, 28, 29, 30, 31, 32, 33, 34, 35, 36, 37, 38, 39, 40, 41, 42] (by decide +kernel) (by decide +kernel)
set_option maxRecDepth 20000 in
theorem gX5_copies_X5_isPlace : GoodIn wsX5_copies (wsV RX5 135 RX5 yX5_isPlace wsX5_isPlace) := goodIn_app (goodIn_of _ (by decide +kernel)) ggX5_copies_X5_isPlace
set_option maxRecDepth 20000 in
theorem ggX5_copies_X5_place : GoodIn wsX5_copies wsX5_place := goodIn_r _ [17] (by decide +kernel) (by decide +kernel)
set_option maxRecDepth 20000 in
theorem gX5_copies_X5_place : GoodIn wsX5_copies (va_wsS RX5 92 yX5_place wsX5_place) := goodIn_app (goodIn_of _ (by decide +kernel)) ggX5_copies_X5_place
theorem dX5_copies_0 : decode cX5_copies 0 = .ok (.aload_n 0, 1) := by decide +kernel
theorem dX5_copies_1 : decode cX5_copies 1 = .ok (.iload_n 1, 1) := by decide +kernel
theorem dX5_copies_2 : decode cX5_copies 2 = .ok (.iload_n 2, 1) := by decide +kernel
theorem dX5_copies_3 : decode cX5_copies 3 = .ok (.invokevirtual 135, 3) := by decide +kernel
theorem dX5_copies_6 : decode cX5_copies 6 = .ok (.ifCond .eq 16, 3) := by decide +kernel
theorem dX5_copies_9 : decode cX5_copies 9 = .ok (.aload_n 0, 1) := by decide +kernel
theorem dX5_copies_10 : decode cX5_copies 10 = .ok (.getfield 20, 3) := by decide +kernel
theorem dX5_copies_13 : decode cX5_copies 13 = .ok (.iload_n 1, 1) := by decide +kernel
theorem dX5_copies_14 : decode cX5_copies 14 = .ok (.iload_n 2, 1) := by decide +kernel
theorem dX5_copies_15 : decode cX5_copies 15 = .ok (.invokestatic 92, 3) := by decide +kernel
theorem dX5_copies_18 : decode cX5_copies 18 = .ok (.iaload, 1) := by decide +kernel
theorem dX5_copies_19 : decode cX5_copies 19 = .ok (.goto 4, 3) := by decide +kernel
theorem dX5_copies_22 : decode cX5_copies 22 = .ok (.iconst (-1), 1) := by decide +kernel
theorem dX5_copies_23 : decode cX5_copies 23 = .ok (.ireturn, 1) := by decide +kernel
set_option maxRecDepth 20000 in
theorem ggX5_word_X5_isPlace : GoodIn wsX5_word wsX5_isPlace := goodIn_r _ [6, 7, 8, 9, 5, 10, 11, 12, 13, 14, 18, 19, 20, 21, 22, 23, 24, 25, 26, 27, 28, 29, 30, 31, 32, 33, 34, 35, 36, 37, 38, 39, 40, 41, 42] (by decide +kernel) (by decide +kernel)
set_option maxRecDepth 20000 in
theorem gX5_word_X5_isPlace : GoodIn wsX5_word (wsV RX5 135 RX5 yX5_isPlace wsX5_isPlace) := goodIn_app (goodIn_of _ (by decide +kernel)) ggX5_word_X5_isPlace
set_option maxRecDepth 20000 in
theorem ggX5_word_X5_place : GoodIn wsX5_word wsX5_place := goodIn_r _ [17] (by decide +kernel) (by decide +kernel)
set_option maxRecDepth 20000 in
theorem gX5_word_X5_place : GoodIn wsX5_word (va_wsS RX5 92 yX5_place wsX5_place) := goodIn_app (goodIn_of _ (by decide +kernel)) ggX5_word_X5_place
theorem dX5_word_0 : decode cX5_word 0 = .ok (.aload_n 0, 1) := by decide +kernel
theorem dX5_word_1 : decode cX5_word 1 = .ok (.iload_n 1, 1) := by decide +kernel
theorem dX5_word_2 : decode cX5_word 2 = .ok (.iload_n 2, 1) := by decide +kernel
theorem dX5_word_3 : decode cX5_word 3 = .ok (.invokevirtual 135, 3) := by decide +kernel
theorem dX5_word_6 : decode cX5_word 6 = .ok (.ifCond .eq 29, 3) := by decide +kernel
theorem dX5_word_9 : decode cX5_word 9 = .ok (.iload_n 3, 1) := by decide +kernel
theorem dX5_word_10 : decode cX5_word 10 = .ok (.ifCond .lt 25, 3) := by decide +kernel
theorem dX5_word_13 : decode cX5_word 13 = .ok (.iload_n 3, 1) := by decide +kernel
theorem dX5_word_14 : decode cX5_word 14 = .ok (.iconst 4, 1) := by decide +kernel
theorem dX5_word_15 : decode cX5_word 15 = .ok (.if_icmp .ge 20, 3) := by decide +kernel
theorem dX5_word_18 : decode cX5_word 18 = .ok (.aload_n 0, 1) := by decide +kernel
theorem dX5_word_19 : decode cX5_word 19 = .ok (.getfield 23, 3) := by decide +kernel
theorem dX5_word_22 : decode cX5_word 22 = .ok (.iconst 4, 1) := by decide +kernel
theorem dX5_word_23 : decode cX5_word 23 = .ok (.iload_n 1, 1) := by decide +kernel
theorem dX5_word_24 : decode cX5_word 24 = .ok (.iload_n 2, 1) := by decide +kernel
theorem dX5_word_25 : decode cX5_word 25 = .ok (.invokestatic 92, 3) := by decide +kernel
theorem dX5_word_28 : decode cX5_word 28 = .ok (.imul, 1) := by decide +kernel
theorem dX5_word_29 : decode cX5_word 29 = .ok (.iload_n 3, 1) := by decide +kernel
theorem dX5_word_30 : decode cX5_word 30 = .ok (.iadd, 1) := by decide +kernel
theorem dX5_word_31 : decode cX5_word 31 = .ok (.laload, 1) := by decide +kernel
theorem dX5_word_32 : decode cX5_word 32 = .ok (.goto 4, 3) := by decide +kernel
theorem dX5_word_35 : decode cX5_word 35 = .ok (.lconst 0, 1) := by decide +kernel
theorem dX5_word_36 : decode cX5_word 36 = .ok (.lreturn, 1) := by decide +kernel
set_option maxRecDepth 20000 in
theorem ggX5_queue_X5_isPlace : GoodIn wsX5_queue wsX5_isPlace := goodIn_r _ [6, 7, 8, 9, 5, 10, 11, 12, 13, 14, 18, 19, 20, 21, 22, 23, 24, 25, 26, 27, 28, 29, 30, 31, 32, 33, 34, 35, 36, 37, 38, 39, 40, 41, 42] (by decide +kernel) (by decide +kernel)
set_option maxRecDepth 20000 in
theorem gX5_queue_X5_isPlace : GoodIn wsX5_queue (wsV RX5 135 RX5 yX5_isPlace wsX5_isPlace) := goodIn_app (goodIn_of _ (by decide +kernel)) ggX5_queue_X5_isPlace
set_option maxRecDepth 20000 in
theorem ggX5_queue_X5_place : GoodIn wsX5_queue wsX5_place := goodIn_r _ [17] (by decide +kernel) (by decide +kernel)
set_option maxRecDepth 20000 in
theorem gX5_queue_X5_place : GoodIn wsX5_queue (va_wsS RX5 92 yX5_place wsX5_place) := goodIn_app (goodIn_of _ (by decide +kernel)) ggX5_queue_X5_place
theorem dX5_queue_0 : decode cX5_queue 0 = .ok (.aload_n 0, 1) := by decide +kernel
theorem dX5_queue_1 : decode cX5_queue 1 = .ok (.iload_n 1, 1) := by decide +kernel
theorem dX5_queue_2 : decode cX5_queue 2 = .ok (.iload_n 2, 1) := by decide +kernel
theorem dX5_queue_3 : decode cX5_queue 3 = .ok (.invokevirtual 135, 3) := by decide +kernel
theorem dX5_queue_6 : decode cX5_queue 6 = .ok (.ifCond .eq 16, 3) := by decide +kernel
theorem dX5_queue_9 : decode cX5_queue 9 = .ok (.aload_n 0, 1) := by decide +kernel
theorem dX5_queue_10 : decode cX5_queue 10 = .ok (.getfield 30, 3) := by decide +kernel
theorem dX5_queue_13 : decode cX5_queue 13 = .ok (.iload_n 1, 1) := by decide +kernel
theorem dX5_queue_14 : decode cX5_queue 14 = .ok (.iload_n 2, 1) := by decide +kernel
theorem dX5_queue_15 : decode cX5_queue 15 = .ok (.invokestatic 92, 3) := by decide +kernel
theorem dX5_queue_18 : decode cX5_queue 18 = .ok (.iaload, 1) := by decide +kernel
theorem dX5_queue_19 : decode cX5_queue 19 = .ok (.goto 4, 3) := by decide +kernel
theorem dX5_queue_22 : decode cX5_queue 22 = .ok (.iconst (-1), 1) := by decide +kernel
theorem dX5_queue_23 : decode cX5_queue 23 = .ok (.ireturn, 1) := by decide +kernel
set_option maxRecDepth 20000 in
theorem ggX5_chain_X5_isPlace : GoodIn wsX5_chain wsX5_isPlace := goodIn_r _ [11, 12, 13, 14, 10, 15, 5, 16, 17, 18, 27, 28, 29, 30, 31, 32, 33, 34, 35, 36, 37, 38, 39, 40, 41, 42, 43, 44, 45, 46, 47, 48, 49, 50, 51] (by decide +kernel) (by decide +kernel)
set_option maxRecDepth 20000 in
theorem gX5_chain_X5_isPlace : GoodIn wsX5_chain (wsV RX5 135 RX5 yX5_isPlace wsX5_isPlace) := goodIn_app (goodIn_of _ (by decide +kernel)) ggX5_chain_X5_isPlace
set_option maxRecDepth 20000 in
theorem ggX5_chain_X5_owner : GoodIn wsX5_chain wsX5_owner := goodIn_r _ [22, 5, 23, 16, 17, 10, 18, 24, 25, 26, 27, 28, 29, 30, 31, 32, 33, 34, 35, 36, 37, 38, 39, 40, 41, 42, 43, 44, 45, 46, 47, 48, 49, 50, 51] (by decide +kernel) (by decide +kernel)
set_option maxRecDepth 20000 in
theorem gX5_chain_X5_owner : GoodIn wsX5_chain (wsV RX5 139 RX5 yX5_owner wsX5_owner) := goodIn_app (goodIn_of _ (by decide +kernel)) ggX5_chain_X5_owner
set_option maxRecDepth 20000 in
theorem ggX5_chain_X5_place : GoodIn wsX5_chain wsX5_place := goodIn_r _ [26] (by decide +kernel) (by decide +kernel)
set_option maxRecDepth 20000 in
theorem gX5_chain_X5_place : GoodIn wsX5_chain (va_wsS RX5 92 yX5_place wsX5_place) := goodIn_app (goodIn_of _ (by decide +kernel)) ggX5_chain_X5_place
theorem dX5_chain_0 : decode cX5_chain 0 = .ok (.aload_n 0, 1) := by decide +kernel
theorem dX5_chain_1 : decode cX5_chain 1 = .ok (.iload_n 1, 1) := by decide +kernel
theorem dX5_chain_2 : decode cX5_chain 2 = .ok (.iload_n 2, 1) := by decide +kernel
theorem dX5_chain_3 : decode cX5_chain 3 = .ok (.invokevirtual 135, 3) := by decide +kernel
theorem dX5_chain_6 : decode cX5_chain 6 = .ok (.ifCond .ne 5, 3) := by decide +kernel
theorem dX5_chain_9 : decode cX5_chain 9 = .ok (.iconst (-1), 1) := by decide +kernel
theorem dX5_chain_10 : decode cX5_chain 10 = .ok (.ireturn, 1) := by decide +kernel
theorem dX5_chain_11 : decode cX5_chain 11 = .ok (.aload_n 0, 1) := by decide +kernel
theorem dX5_chain_12 : decode cX5_chain 12 = .ok (.iload_n 2, 1) := by decide +kernel
theorem dX5_chain_13 : decode cX5_chain 13 = .ok (.invokevirtual 139, 3) := by decide +kernel
theorem dX5_chain_16 : decode cX5_chain 16 = .ok (.istore_n 3, 1) := by decide +kernel
theorem dX5_chain_17 : decode cX5_chain 17 = .ok (.iconst 0, 1) := by decide +kernel
theorem dX5_chain_18 : decode cX5_chain 18 = .ok (.istore 4, 2) := by decide +kernel
theorem dX5_chain_20 : decode cX5_chain 20 = .ok (.iload 4, 2) := by decide +kernel
theorem dX5_chain_22 : decode cX5_chain 22 = .ok (.aload_n 0, 1) := by decide +kernel
theorem dX5_chain_23 : decode cX5_chain 23 = .ok (.getfield 89, 3) := by decide +kernel
theorem dX5_chain_26 : decode cX5_chain 26 = .ok (.if_icmp .ge 52, 3) := by decide +kernel
theorem dX5_chain_29 : decode cX5_chain 29 = .ok (.aload_n 0, 1) := by decide +kernel
theorem dX5_chain_30 : decode cX5_chain 30 = .ok (.getfield 63, 3) := by decide +kernel
theorem dX5_chain_33 : decode cX5_chain 33 = .ok (.bipush 7, 2) := by decide +kernel
theorem dX5_chain_35 : decode cX5_chain 35 = .ok (.iload 4, 2) := by decide +kernel
theorem dX5_chain_37 : decode cX5_chain 37 = .ok (.imul, 1) := by decide +kernel
theorem dX5_chain_38 : decode cX5_chain 38 = .ok (.iaload, 1) := by decide +kernel
theorem dX5_chain_39 : decode cX5_chain 39 = .ok (.iconst 4, 1) := by decide +kernel
theorem dX5_chain_40 : decode cX5_chain 40 = .ok (.if_icmp .ne 32, 3) := by decide +kernel
theorem dX5_chain_43 : decode cX5_chain 43 = .ok (.aload_n 0, 1) := by decide +kernel
theorem dX5_chain_44 : decode cX5_chain 44 = .ok (.getfield 63, 3) := by decide +kernel
theorem dX5_chain_47 : decode cX5_chain 47 = .ok (.bipush 7, 2) := by decide +kernel
theorem dX5_chain_49 : decode cX5_chain 49 = .ok (.iload 4, 2) := by decide +kernel
theorem dX5_chain_51 : decode cX5_chain 51 = .ok (.imul, 1) := by decide +kernel
theorem dX5_chain_52 : decode cX5_chain 52 = .ok (.iconst 3, 1) := by decide +kernel
theorem dX5_chain_53 : decode cX5_chain 53 = .ok (.iadd, 1) := by decide +kernel
theorem dX5_chain_54 : decode cX5_chain 54 = .ok (.iaload, 1) := by decide +kernel
theorem dX5_chain_55 : decode cX5_chain 55 = .ok (.iload_n 2, 1) := by decide +kernel
theorem dX5_chain_56 : decode cX5_chain 56 = .ok (.if_icmp .ne 16, 3) := by decide +kernel
theorem dX5_chain_59 : decode cX5_chain 59 = .ok (.aload_n 0, 1) := by decide +kernel
theorem dX5_chain_60 : decode cX5_chain 60 = .ok (.getfield 63, 3) := by decide +kernel
theorem dX5_chain_63 : decode cX5_chain 63 = .ok (.bipush 7, 2) := by decide +kernel
theorem dX5_chain_65 : decode cX5_chain 65 = .ok (.iload 4, 2) := by decide +kernel
theorem dX5_chain_67 : decode cX5_chain 67 = .ok (.imul, 1) := by decide +kernel
theorem dX5_chain_68 : decode cX5_chain 68 = .ok (.iconst 2, 1) := by decide +kernel
theorem dX5_chain_69 : decode cX5_chain 69 = .ok (.iadd, 1) := by decide +kernel
theorem dX5_chain_70 : decode cX5_chain 70 = .ok (.iaload, 1) := by decide +kernel
theorem dX5_chain_71 : decode cX5_chain 71 = .ok (.istore_n 3, 1) := by decide +kernel
theorem dX5_chain_72 : decode cX5_chain 72 = .ok (.iinc 4 1, 3) := by decide +kernel
theorem dX5_chain_75 : decode cX5_chain 75 = .ok (.goto (-55), 3) := by decide +kernel
theorem dX5_chain_78 : decode cX5_chain 78 = .ok (.iload_n 1, 1) := by decide +kernel
theorem dX5_chain_79 : decode cX5_chain 79 = .ok (.istore 4, 2) := by decide +kernel
theorem dX5_chain_81 : decode cX5_chain 81 = .ok (.iconst 0, 1) := by decide +kernel
theorem dX5_chain_82 : decode cX5_chain 82 = .ok (.istore 5, 2) := by decide +kernel
theorem dX5_chain_84 : decode cX5_chain 84 = .ok (.iload 4, 2) := by decide +kernel
theorem dX5_chain_86 : decode cX5_chain 86 = .ok (.iload_n 3, 1) := by decide +kernel
theorem dX5_chain_87 : decode cX5_chain 87 = .ok (.if_icmp .eq 53, 3) := by decide +kernel
theorem dX5_chain_90 : decode cX5_chain 90 = .ok (.aload_n 0, 1) := by decide +kernel
theorem dX5_chain_91 : decode cX5_chain 91 = .ok (.getfield 33, 3) := by decide +kernel
theorem dX5_chain_94 : decode cX5_chain 94 = .ok (.iload 4, 2) := by decide +kernel
theorem dX5_chain_96 : decode cX5_chain 96 = .ok (.iaload, 1) := by decide +kernel
theorem dX5_chain_97 : decode cX5_chain 97 = .ok (.iconst 2, 1) := by decide +kernel
theorem dX5_chain_98 : decode cX5_chain 98 = .ok (.if_icmp .ne 14, 3) := by decide +kernel
theorem dX5_chain_101 : decode cX5_chain 101 = .ok (.aload_n 0, 1) := by decide +kernel
theorem dX5_chain_102 : decode cX5_chain 102 = .ok (.getfield 36, 3) := by decide +kernel
theorem dX5_chain_105 : decode cX5_chain 105 = .ok (.iload 4, 2) := by decide +kernel
theorem dX5_chain_107 : decode cX5_chain 107 = .ok (.iaload, 1) := by decide +kernel
theorem dX5_chain_108 : decode cX5_chain 108 = .ok (.iload_n 2, 1) := by decide +kernel
theorem dX5_chain_109 : decode cX5_chain 109 = .ok (.if_icmp .eq 31, 3) := by decide +kernel
theorem dX5_chain_112 : decode cX5_chain 112 = .ok (.iload 5, 2) := by decide +kernel
theorem dX5_chain_114 : decode cX5_chain 114 = .ok (.aload_n 0, 1) := by decide +kernel
theorem dX5_chain_115 : decode cX5_chain 115 = .ok (.getfield 85, 3) := by decide +kernel
theorem dX5_chain_118 : decode cX5_chain 118 = .ok (.if_icmp .gt 22, 3) := by decide +kernel
theorem dX5_chain_121 : decode cX5_chain 121 = .ok (.aload_n 0, 1) := by decide +kernel
theorem dX5_chain_122 : decode cX5_chain 122 = .ok (.getfield 17, 3) := by decide +kernel
theorem dX5_chain_125 : decode cX5_chain 125 = .ok (.iload 4, 2) := by decide +kernel
theorem dX5_chain_127 : decode cX5_chain 127 = .ok (.iload_n 2, 1) := by decide +kernel
theorem dX5_chain_128 : decode cX5_chain 128 = .ok (.invokestatic 92, 3) := by decide +kernel
theorem dX5_chain_131 : decode cX5_chain 131 = .ok (.iaload, 1) := by decide +kernel
theorem dX5_chain_132 : decode cX5_chain 132 = .ok (.istore 4, 2) := by decide +kernel
theorem dX5_chain_134 : decode cX5_chain 134 = .ok (.iinc 5 1, 3) := by decide +kernel
theorem dX5_chain_137 : decode cX5_chain 137 = .ok (.goto (-53), 3) := by decide +kernel
theorem dX5_chain_140 : decode cX5_chain 140 = .ok (.iload 5, 2) := by decide +kernel
theorem dX5_chain_142 : decode cX5_chain 142 = .ok (.aload_n 0, 1) := by decide +kernel
theorem dX5_chain_143 : decode cX5_chain 143 = .ok (.getfield 85, 3) := by decide +kernel
theorem dX5_chain_146 : decode cX5_chain 146 = .ok (.if_icmp .gt 8, 3) := by decide +kernel
theorem dX5_chain_149 : decode cX5_chain 149 = .ok (.iload 5, 2) := by decide +kernel
theorem dX5_chain_151 : decode cX5_chain 151 = .ok (.goto 4, 3) := by decide +kernel
theorem dX5_chain_154 : decode cX5_chain 154 = .ok (.iconst (-1), 1) := by decide +kernel
theorem dX5_chain_155 : decode cX5_chain 155 = .ok (.ireturn, 1) := by decide +kernel
theorem dX5_flying_0 : decode cX5_flying 0 = .ok (.aload_n 0, 1) := by decide +kernel
theorem dX5_flying_1 : decode cX5_flying 1 = .ok (.getfield 89, 3) := by decide +kernel
theorem dX5_flying_4 : decode cX5_flying 4 = .ok (.ireturn, 1) := by decide +kernel
theorem dX5_letter_0 : decode cX5_letter 0 = .ok (.iload_n 1, 1) := by decide +kernel
theorem dX5_letter_1 : decode cX5_letter 1 = .ok (.ifCond .lt 34, 3) := by decide +kernel
theorem dX5_letter_4 : decode cX5_letter 4 = .ok (.iload_n 1, 1) := by decide +kernel
theorem dX5_letter_5 : decode cX5_letter 5 = .ok (.aload_n 0, 1) := by decide +kernel
theorem dX5_letter_6 : decode cX5_letter 6 = .ok (.getfield 89, 3) := by decide +kernel
theorem dX5_letter_9 : decode cX5_letter 9 = .ok (.if_icmp .ge 26, 3) := by decide +kernel
theorem dX5_letter_12 : decode cX5_letter 12 = .ok (.iload_n 2, 1) := by decide +kernel
theorem dX5_letter_13 : decode cX5_letter 13 = .ok (.ifCond .lt 22, 3) := by decide +kernel
theorem dX5_letter_16 : decode cX5_letter 16 = .ok (.iload_n 2, 1) := by decide +kernel
theorem dX5_letter_17 : decode cX5_letter 17 = .ok (.iconst 5, 1) := by decide +kernel
theorem dX5_letter_18 : decode cX5_letter 18 = .ok (.if_icmp .gt 17, 3) := by decide +kernel
theorem dX5_letter_21 : decode cX5_letter 21 = .ok (.aload_n 0, 1) := by decide +kernel
theorem dX5_letter_22 : decode cX5_letter 22 = .ok (.getfield 63, 3) := by decide +kernel
theorem dX5_letter_25 : decode cX5_letter 25 = .ok (.bipush 7, 2) := by decide +kernel
theorem dX5_letter_27 : decode cX5_letter 27 = .ok (.iload_n 1, 1) := by decide +kernel
theorem dX5_letter_28 : decode cX5_letter 28 = .ok (.imul, 1) := by decide +kernel
theorem dX5_letter_29 : decode cX5_letter 29 = .ok (.iload_n 2, 1) := by decide +kernel
theorem dX5_letter_30 : decode cX5_letter 30 = .ok (.iadd, 1) := by decide +kernel
theorem dX5_letter_31 : decode cX5_letter 31 = .ok (.iaload, 1) := by decide +kernel
theorem dX5_letter_32 : decode cX5_letter 32 = .ok (.goto 5, 3) := by decide +kernel
theorem dX5_letter_35 : decode cX5_letter 35 = .ok (.bipush (-2), 2) := by decide +kernel
theorem dX5_letter_37 : decode cX5_letter 37 = .ok (.ireturn, 1) := by decide +kernel
theorem dX5_letterWord_0 : decode cX5_letterWord 0 = .ok (.iload_n 1, 1) := by decide +kernel
theorem dX5_letterWord_1 : decode cX5_letterWord 1 = .ok (.ifCond .lt 33, 3) := by decide +kernel
theorem dX5_letterWord_4 : decode cX5_letterWord 4 = .ok (.iload_n 1, 1) := by decide +kernel
theorem dX5_letterWord_5 : decode cX5_letterWord 5 = .ok (.aload_n 0, 1) := by decide +kernel
theorem dX5_letterWord_6 : decode cX5_letterWord 6 = .ok (.getfield 89, 3) := by decide +kernel
theorem dX5_letterWord_9 : decode cX5_letterWord 9 = .ok (.if_icmp .ge 25, 3) := by decide +kernel
theorem dX5_letterWord_12 : decode cX5_letterWord 12 = .ok (.iload_n 2, 1) := by decide +kernel
theorem dX5_letterWord_13 : decode cX5_letterWord 13 = .ok (.ifCond .lt 21, 3) := by decide +kernel
theorem dX5_letterWord_16 : decode cX5_letterWord 16 = .ok (.iload_n 2, 1) := by decide +kernel
theorem dX5_letterWord_17 : decode cX5_letterWord 17 = .ok (.iconst 4, 1) := by decide +kernel
theorem dX5_letterWord_18 : decode cX5_letterWord 18 = .ok (.if_icmp .ge 16, 3) := by decide +kernel
theorem dX5_letterWord_21 : decode cX5_letterWord 21 = .ok (.aload_n 0, 1) := by decide +kernel
theorem dX5_letterWord_22 : decode cX5_letterWord 22 = .ok (.getfield 66, 3) := by decide +kernel
theorem dX5_letterWord_25 : decode cX5_letterWord 25 = .ok (.iconst 4, 1) := by decide +kernel
theorem dX5_letterWord_26 : decode cX5_letterWord 26 = .ok (.iload_n 1, 1) := by decide +kernel
theorem dX5_letterWord_27 : decode cX5_letterWord 27 = .ok (.imul, 1) := by decide +kernel
theorem dX5_letterWord_28 : decode cX5_letterWord 28 = .ok (.iload_n 2, 1) := by decide +kernel
theorem dX5_letterWord_29 : decode cX5_letterWord 29 = .ok (.iadd, 1) := by decide +kernel
theorem dX5_letterWord_30 : decode cX5_letterWord 30 = .ok (.laload, 1) := by decide +kernel
theorem dX5_letterWord_31 : decode cX5_letterWord 31 = .ok (.goto 4, 3) := by decide +kernel
theorem dX5_letterWord_34 : decode cX5_letterWord 34 = .ok (.lconst 0, 1) := by decide +kernel
theorem dX5_letterWord_35 : decode cX5_letterWord 35 = .ok (.lreturn, 1) := by decide +kernel
theorem dX5_count_0 : decode cX5_count 0 = .ok (.iload_n 1, 1) := by decide +kernel
theorem dX5_count_1 : decode cX5_count 1 = .ok (.ifCond .ne 10, 3) := by decide +kernel
theorem dX5_count_4 : decode cX5_count 4 = .ok (.aload_n 0, 1) := by decide +kernel
theorem dX5_count_5 : decode cX5_count 5 = .ok (.getfield 85, 3) := by decide +kernel
theorem dX5_count_8 : decode cX5_count 8 = .ok (.goto 23, 3) := by decide +kernel
theorem dX5_count_11 : decode cX5_count 11 = .ok (.iload_n 1, 1) := by decide +kernel
theorem dX5_count_12 : decode cX5_count 12 = .ok (.ifCond .le 18, 3) := by decide +kernel
theorem dX5_count_15 : decode cX5_count 15 = .ok (.iload_n 1, 1) := by decide +kernel
theorem dX5_count_16 : decode cX5_count 16 = .ok (.bipush 8, 2) := by decide +kernel
theorem dX5_count_18 : decode cX5_count 18 = .ok (.if_icmp .ge 12, 3) := by decide +kernel
theorem dX5_count_21 : decode cX5_count 21 = .ok (.aload_n 0, 1) := by decide +kernel
theorem dX5_count_22 : decode cX5_count 22 = .ok (.getfield 69, 3) := by decide +kernel
theorem dX5_count_25 : decode cX5_count 25 = .ok (.iload_n 1, 1) := by decide +kernel
theorem dX5_count_26 : decode cX5_count 26 = .ok (.iaload, 1) := by decide +kernel
theorem dX5_count_27 : decode cX5_count 27 = .ok (.goto 4, 3) := by decide +kernel
theorem dX5_count_30 : decode cX5_count 30 = .ok (.iconst (-1), 1) := by decide +kernel
theorem dX5_count_31 : decode cX5_count 31 = .ok (.ireturn, 1) := by decide +kernel
