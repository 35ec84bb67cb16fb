theorem dX5_init_0 : decode cX5_init 0 = .ok (.aload_n 0, 1) := by decide +kernel
theorem dX5_init_1 : decode cX5_init 1 = .ok (.invokespecial 1, 3) := by decide +kernel
theorem dX5_init_4 : decode cX5_init 4 = .ok (.aload_n 0, 1) := by decide +kernel
theorem dX5_init_5 : decode cX5_init 5 = .ok (.bipush 40, 2) := by decide +kernel
theorem dX5_init_7 : decode cX5_init 7 = .ok (.newarray .char, 2) := by decide +kernel
theorem dX5_init_9 : decode cX5_init 9 = .ok (.putfield 7, 3) := by decide +kernel
theorem dX5_init_12 : decode cX5_init 12 = .ok (.aload_n 0, 1) := by decide +kernel
theorem dX5_init_13 : decode cX5_init 13 = .ok (.bipush 12, 2) := by decide +kernel
theorem dX5_init_15 : decode cX5_init 15 = .ok (.newarray .int, 2) := by decide +kernel
theorem dX5_init_17 : decode cX5_init 17 = .ok (.putfield 13, 3) := by decide +kernel
theorem dX5_init_20 : decode cX5_init 20 = .ok (.aload_n 0, 1) := by decide +kernel
theorem dX5_init_21 : decode cX5_init 21 = .ok (.bipush 12, 2) := by decide +kernel
theorem dX5_init_23 : decode cX5_init 23 = .ok (.newarray .int, 2) := by decide +kernel
theorem dX5_init_25 : decode cX5_init 25 = .ok (.putfield 17, 3) := by decide +kernel
theorem dX5_init_28 : decode cX5_init 28 = .ok (.aload_n 0, 1) := by decide +kernel
theorem dX5_init_29 : decode cX5_init 29 = .ok (.sipush 288, 3) := by decide +kernel
theorem dX5_init_32 : decode cX5_init 32 = .ok (.newarray .int, 2) := by decide +kernel
theorem dX5_init_34 : decode cX5_init 34 = .ok (.putfield 20, 3) := by decide +kernel
theorem dX5_init_37 : decode cX5_init 37 = .ok (.aload_n 0, 1) := by decide +kernel
theorem dX5_init_38 : decode cX5_init 38 = .ok (.bipush 12, 2) := by decide +kernel
theorem dX5_init_40 : decode cX5_init 40 = .ok (.newarray .int, 2) := by decide +kernel
theorem dX5_init_42 : decode cX5_init 42 = .ok (.putfield 23, 3) := by decide +kernel
theorem dX5_init_45 : decode cX5_init 45 = .ok (.aload_n 0, 1) := by decide +kernel
theorem dX5_init_46 : decode cX5_init 46 = .ok (.bipush 36, 2) := by decide +kernel
theorem dX5_init_48 : decode cX5_init 48 = .ok (.newarray .int, 2) := by decide +kernel
theorem dX5_init_50 : decode cX5_init 50 = .ok (.putfield 26, 3) := by decide +kernel
theorem dX5_init_53 : decode cX5_init 53 = .ok (.aload_n 0, 1) := by decide +kernel
theorem dX5_init_54 : decode cX5_init 54 = .ok (.bipush 36, 2) := by decide +kernel
theorem dX5_init_56 : decode cX5_init 56 = .ok (.newarray .int, 2) := by decide +kernel
theorem dX5_init_58 : decode cX5_init 58 = .ok (.putfield 29, 3) := by decide +kernel
theorem dX5_init_61 : decode cX5_init 61 = .ok (.aload_n 0, 1) := by decide +kernel
theorem dX5_init_62 : decode cX5_init 62 = .ok (.bipush 36, 2) := by decide +kernel
theorem dX5_init_64 : decode cX5_init 64 = .ok (.newarray .int, 2) := by decide +kernel
theorem dX5_init_66 : decode cX5_init 66 = .ok (.putfield 32, 3) := by decide +kernel
theorem dX5_init_69 : decode cX5_init 69 = .ok (.aload_n 0, 1) := by decide +kernel
theorem dX5_init_70 : decode cX5_init 70 = .ok (.bipush 36, 2) := by decide +kernel
theorem dX5_init_72 : decode cX5_init 72 = .ok (.newarray .int, 2) := by decide +kernel
theorem dX5_init_74 : decode cX5_init 74 = .ok (.putfield 35, 3) := by decide +kernel
theorem dX5_init_77 : decode cX5_init 77 = .ok (.aload_n 0, 1) := by decide +kernel
theorem dX5_init_78 : decode cX5_init 78 = .ok (.bipush 24, 2) := by decide +kernel
theorem dX5_init_80 : decode cX5_init 80 = .ok (.newarray .int, 2) := by decide +kernel
theorem dX5_init_82 : decode cX5_init 82 = .ok (.putfield 38, 3) := by decide +kernel
theorem dX5_init_85 : decode cX5_init 85 = .ok (.aload_n 0, 1) := by decide +kernel
theorem dX5_init_86 : decode cX5_init 86 = .ok (.iconst 3, 1) := by decide +kernel
theorem dX5_init_87 : decode cX5_init 87 = .ok (.newarray .int, 2) := by decide +kernel
theorem dX5_init_89 : decode cX5_init 89 = .ok (.putfield 41, 3) := by decide +kernel
theorem dX5_init_92 : decode cX5_init 92 = .ok (.aload_n 0, 1) := by decide +kernel
theorem dX5_init_93 : decode cX5_init 93 = .ok (.bipush 64, 2) := by decide +kernel
theorem dX5_init_95 : decode cX5_init 95 = .ok (.newarray .int, 2) := by decide +kernel
theorem dX5_init_97 : decode cX5_init 97 = .ok (.putfield 44, 3) := by decide +kernel
theorem dX5_init_100 : decode cX5_init 100 = .ok (.aload_n 0, 1) := by decide +kernel
theorem dX5_init_101 : decode cX5_init 101 = .ok (.bipush 20, 2) := by decide +kernel
theorem dX5_init_103 : decode cX5_init 103 = .ok (.newarray .int, 2) := by decide +kernel
theorem dX5_init_105 : decode cX5_init 105 = .ok (.putfield 47, 3) := by decide +kernel
theorem dX5_init_108 : decode cX5_init 108 = .ok (.aload_n 0, 1) := by decide +kernel
theorem dX5_init_109 : decode cX5_init 109 = .ok (.bipush 20, 2) := by decide +kernel
theorem dX5_init_111 : decode cX5_init 111 = .ok (.newarray .int, 2) := by decide +kernel
theorem dX5_init_113 : decode cX5_init 113 = .ok (.putfield 50, 3) := by decide +kernel
theorem dX5_init_116 : decode cX5_init 116 = .ok (.aload_n 0, 1) := by decide +kernel
theorem dX5_init_117 : decode cX5_init 117 = .ok (.bipush 20, 2) := by decide +kernel
theorem dX5_init_119 : decode cX5_init 119 = .ok (.newarray .int, 2) := by decide +kernel
theorem dX5_init_121 : decode cX5_init 121 = .ok (.putfield 53, 3) := by decide +kernel
theorem dX5_init_124 : decode cX5_init 124 = .ok (.aload_n 0, 1) := by decide +kernel
theorem dX5_init_125 : decode cX5_init 125 = .ok (.bipush 60, 2) := by decide +kernel
theorem dX5_init_127 : decode cX5_init 127 = .ok (.newarray .int, 2) := by decide +kernel
theorem dX5_init_129 : decode cX5_init 129 = .ok (.putfield 56, 3) := by decide +kernel
theorem dX5_init_132 : decode cX5_init 132 = .ok (.aload_n 0, 1) := by decide +kernel
theorem dX5_init_133 : decode cX5_init 133 = .ok (.bipush 60, 2) := by decide +kernel
theorem dX5_init_135 : decode cX5_init 135 = .ok (.newarray .boolean, 2) := by decide +kernel
theorem dX5_init_137 : decode cX5_init 137 = .ok (.putfield 59, 3) := by decide +kernel
theorem dX5_init_140 : decode cX5_init 140 = .ok (.aload_n 0, 1) := by decide +kernel
theorem dX5_init_141 : decode cX5_init 141 = .ok (.iconst 3, 1) := by decide +kernel
theorem dX5_init_142 : decode cX5_init 142 = .ok (.newarray .int, 2) := by decide +kernel
theorem dX5_init_144 : decode cX5_init 144 = .ok (.putfield 63, 3) := by decide +kernel
theorem dX5_init_147 : decode cX5_init 147 = .ok (.aload_n 0, 1) := by decide +kernel
theorem dX5_init_148 : decode cX5_init 148 = .ok (.iconst 3, 1) := by decide +kernel
theorem dX5_init_149 : decode cX5_init 149 = .ok (.newarray .boolean, 2) := by decide +kernel
theorem dX5_init_151 : decode cX5_init 151 = .ok (.putfield 66, 3) := by decide +kernel
theorem dX5_init_154 : decode cX5_init 154 = .ok (.aload_n 0, 1) := by decide +kernel
theorem dX5_init_155 : decode cX5_init 155 = .ok (.bipush 21, 2) := by decide +kernel
theorem dX5_init_157 : decode cX5_init 157 = .ok (.newarray .int, 2) := by decide +kernel
theorem dX5_init_159 : decode cX5_init 159 = .ok (.putfield 69, 3) := by decide +kernel
theorem dX5_init_162 : decode cX5_init 162 = .ok (.aload_n 0, 1) := by decide +kernel
theorem dX5_init_163 : decode cX5_init 163 = .ok (.bipush 64, 2) := by decide +kernel
theorem dX5_init_165 : decode cX5_init 165 = .ok (.newarray .int, 2) := by decide +kernel
theorem dX5_init_167 : decode cX5_init 167 = .ok (.putfield 72, 3) := by decide +kernel
theorem dX5_init_170 : decode cX5_init 170 = .ok (.aload_n 0, 1) := by decide +kernel
theorem dX5_init_171 : decode cX5_init 171 = .ok (.iconst (-1), 1) := by decide +kernel
theorem dX5_init_172 : decode cX5_init 172 = .ok (.putfield 75, 3) := by decide +kernel
theorem dX5_init_175 : decode cX5_init 175 = .ok (.aload_n 0, 1) := by decide +kernel
theorem dX5_init_176 : decode cX5_init 176 = .ok (.bipush 40, 2) := by decide +kernel
theorem dX5_init_178 : decode cX5_init 178 = .ok (.newarray .char, 2) := by decide +kernel
theorem dX5_init_180 : decode cX5_init 180 = .ok (.putfield 79, 3) := by decide +kernel
theorem dX5_init_183 : decode cX5_init 183 = .ok (.return_, 1) := by decide +kernel
theorem dX5_thrown_0 : decode cX5_thrown 0 = .ok (.aload_n 0, 1) := by decide +kernel
theorem dX5_thrown_1 : decode cX5_thrown 1 = .ok (.getfield 82, 3) := by decide +kernel
theorem dX5_thrown_4 : decode cX5_thrown 4 = .ok (.ireturn, 1) := by decide +kernel
theorem dX5_type_0 : decode cX5_type 0 = .ok (.aload_n 0, 1) := by decide +kernel
theorem dX5_type_1 : decode cX5_type 1 = .ok (.iconst 0, 1) := by decide +kernel
theorem dX5_type_2 : decode cX5_type 2 = .ok (.putfield 82, 3) := by decide +kernel
theorem dX5_type_5 : decode cX5_type 5 = .ok (.aload_n 0, 1) := by decide +kernel
theorem dX5_type_6 : decode cX5_type 6 = .ok (.getfield 85, 3) := by decide +kernel
theorem dX5_type_9 : decode cX5_type 9 = .ok (.bipush 40, 2) := by decide +kernel
theorem dX5_type_11 : decode cX5_type 11 = .ok (.if_icmp .ne 5, 3) := by decide +kernel
theorem dX5_type_14 : decode cX5_type 14 = .ok (.iconst (-1), 1) := by decide +kernel
theorem dX5_type_15 : decode cX5_type 15 = .ok (.ireturn, 1) := by decide +kernel
theorem dX5_type_16 : decode cX5_type 16 = .ok (.aload_n 0, 1) := by decide +kernel
theorem dX5_type_17 : decode cX5_type 17 = .ok (.getfield 7, 3) := by decide +kernel
theorem dX5_type_20 : decode cX5_type 20 = .ok (.aload_n 0, 1) := by decide +kernel
theorem dX5_type_21 : decode cX5_type 21 = .ok (.getfield 85, 3) := by decide +kernel
theorem dX5_type_24 : decode cX5_type 24 = .ok (.iload_n 1, 1) := by decide +kernel
theorem dX5_type_25 : decode cX5_type 25 = .ok (.castore, 1) := by decide +kernel
theorem dX5_type_26 : decode cX5_type 26 = .ok (.aload_n 0, 1) := by decide +kernel
theorem dX5_type_27 : decode cX5_type 27 = .ok (.dup, 1) := by decide +kernel
theorem dX5_type_28 : decode cX5_type 28 = .ok (.getfield 85, 3) := by decide +kernel
theorem dX5_type_31 : decode cX5_type 31 = .ok (.iconst 1, 1) := by decide +kernel
theorem dX5_type_32 : decode cX5_type 32 = .ok (.iadd, 1) := by decide +kernel
theorem dX5_type_33 : decode cX5_type 33 = .ok (.putfield 85, 3) := by decide +kernel
theorem dX5_type_36 : decode cX5_type 36 = .ok (.aload_n 0, 1) := by decide +kernel
theorem dX5_type_37 : decode cX5_type 37 = .ok (.getfield 85, 3) := by decide +kernel
theorem dX5_type_40 : decode cX5_type 40 = .ok (.ireturn, 1) := by decide +kernel
theorem dX5_here_0 : decode cX5_here 0 = .ok (.aload_n 0, 1) := by decide +kernel
theorem dX5_here_1 : decode cX5_here 1 = .ok (.getfield 88, 3) := by decide +kernel
theorem dX5_here_4 : decode cX5_here 4 = .ok (.aload_n 0, 1) := by decide +kernel
theorem dX5_here_5 : decode cX5_here 5 = .ok (.getfield 85, 3) := by decide +kernel
theorem dX5_here_8 : decode cX5_here 8 = .ok (.if_icmp .ge 15, 3) := by decide +kernel
theorem dX5_here_11 : decode cX5_here 11 = .ok (.aload_n 0, 1) := by decide +kernel
theorem dX5_here_12 : decode cX5_here 12 = .ok (.getfield 7, 3) := by decide +kernel
theorem dX5_here_15 : decode cX5_here 15 = .ok (.aload_n 0, 1) := by decide +kernel
theorem dX5_here_16 : decode cX5_here 16 = .ok (.getfield 88, 3) := by decide +kernel
theorem dX5_here_19 : decode cX5_here 19 = .ok (.caload, 1) := by decide +kernel
theorem dX5_here_20 : decode cX5_here 20 = .ok (.goto 4, 3) := by decide +kernel
theorem dX5_here_23 : decode cX5_here 23 = .ok (.iconst (-1), 1) := by decide +kernel
theorem dX5_here_24 : decode cX5_here 24 = .ok (.ireturn, 1) := by decide +kernel
theorem dX5_must_0 : decode cX5_must 0 = .ok (.aload_n 0, 1) := by decide +kernel
theorem dX5_must_1 : decode cX5_must 1 = .ok (.aload_n 0, 1) := by decide +kernel
theorem dX5_must_2 : decode cX5_must 2 = .ok (.getfield 91, 3) := by decide +kernel
theorem dX5_must_5 : decode cX5_must 5 = .ok (.ifCond .ne 11, 3) := by decide +kernel
theorem dX5_must_8 : decode cX5_must 8 = .ok (.aload_n 0, 1) := by decide +kernel
theorem dX5_must_9 : decode cX5_must 9 = .ok (.invokevirtual 95, 3) := by decide +kernel
theorem dX5_must_12 : decode cX5_must 12 = .ok (.iload_n 1, 1) := by decide +kernel
theorem dX5_must_13 : decode cX5_must 13 = .ok (.if_icmp .eq 7, 3) := by decide +kernel
theorem dX5_must_16 : decode cX5_must 16 = .ok (.iconst 1, 1) := by decide +kernel
theorem dX5_must_17 : decode cX5_must 17 = .ok (.goto 4, 3) := by decide +kernel
theorem dX5_must_20 : decode cX5_must 20 = .ok (.iconst 0, 1) := by decide +kernel
theorem dX5_must_21 : decode cX5_must 21 = .ok (.putfield 91, 3) := by decide +kernel
theorem dX5_must_24 : decode cX5_must 24 = .ok (.aload_n 0, 1) := by decide +kernel
theorem dX5_must_25 : decode cX5_must 25 = .ok (.dup, 1) := by decide +kernel
theorem dX5_must_26 : decode cX5_must 26 = .ok (.getfield 88, 3) := by decide +kernel
theorem dX5_must_29 : decode cX5_must 29 = .ok (.iconst 1, 1) := by decide +kernel
theorem dX5_must_30 : decode cX5_must 30 = .ok (.iadd, 1) := by decide +kernel
theorem dX5_must_31 : decode cX5_must 31 = .ok (.putfield 88, 3) := by decide +kernel
theorem dX5_must_34 : decode cX5_must 34 = .ok (.return_, 1) := by decide +kernel
theorem dX5_isLetter_0 : decode cX5_isLetter 0 = .ok (.iload_n 0, 1) := by decide +kernel
theorem dX5_isLetter_1 : decode cX5_isLetter 1 = .ok (.bipush 97, 2) := by decide +kernel
theorem dX5_isLetter_3 : decode cX5_isLetter 3 = .ok (.if_icmp .lt 13, 3) := by decide +kernel
theorem dX5_isLetter_6 : decode cX5_isLetter 6 = .ok (.iload_n 0, 1) := by decide +kernel
theorem dX5_isLetter_7 : decode cX5_isLetter 7 = .ok (.bipush 122, 2) := by decide +kernel
theorem dX5_isLetter_9 : decode cX5_isLetter 9 = .ok (.if_icmp .gt 7, 3) := by decide +kernel
theorem dX5_isLetter_12 : decode cX5_isLetter 12 = .ok (.iconst 1, 1) := by decide +kernel
theorem dX5_isLetter_13 : decode cX5_isLetter 13 = .ok (.goto 4, 3) := by decide +kernel
theorem dX5_isLetter_16 : decode cX5_isLetter 16 = .ok (.iconst 0, 1) := by decide +kernel
theorem dX5_isLetter_17 : decode cX5_isLetter 17 = .ok (.ireturn, 1) := by decide +kernel
theorem dX5_isDigit_0 : decode cX5_isDigit 0 = .ok (.iload_n 0, 1) := by decide +kernel
theorem dX5_isDigit_1 : decode cX5_isDigit 1 = .ok (.bipush 48, 2) := by decide +kernel
theorem dX5_isDigit_3 : decode cX5_isDigit 3 = .ok (.if_icmp .lt 13, 3) := by decide +kernel
theorem dX5_isDigit_6 : decode cX5_isDigit 6 = .ok (.iload_n 0, 1) := by decide +kernel
theorem dX5_isDigit_7 : decode cX5_isDigit 7 = .ok (.bipush 57, 2) := by decide +kernel
theorem dX5_isDigit_9 : decode cX5_isDigit 9 = .ok (.if_icmp .gt 7, 3) := by decide +kernel
theorem dX5_isDigit_12 : decode cX5_isDigit 12 = .ok (.iconst 1, 1) := by decide +kernel
theorem dX5_isDigit_13 : decode cX5_isDigit 13 = .ok (.goto 4, 3) := by decide +kernel
theorem dX5_isDigit_16 : decode cX5_isDigit 16 = .ok (.iconst 0, 1) := by decide +kernel
theorem dX5_isDigit_17 : decode cX5_isDigit 17 = .ok (.ireturn, 1) := by decide +kernel
theorem dX5_readName_0 : decode cX5_readName 0 = .ok (.iconst 0, 1) := by decide +kernel
theorem dX5_readName_1 : decode cX5_readName 1 = .ok (.istore_n 1, 1) := by decide +kernel
theorem dX5_readName_2 : decode cX5_readName 2 = .ok (.iconst 0, 1) := by decide +kernel
theorem dX5_readName_3 : decode cX5_readName 3 = .ok (.istore_n 2, 1) := by decide +kernel
theorem dX5_readName_4 : decode cX5_readName 4 = .ok (.aload_n 0, 1) := by decide +kernel
theorem dX5_readName_5 : decode cX5_readName 5 = .ok (.invokevirtual 95, 3) := by decide +kernel
theorem dX5_readName_8 : decode cX5_readName 8 = .ok (.invokestatic 99, 3) := by decide +kernel
theorem dX5_readName_11 : decode cX5_readName 11 = .ok (.ifCond .eq 43, 3) := by decide +kernel
theorem dX5_readName_14 : decode cX5_readName 14 = .ok (.iload_n 2, 1) := by decide +kernel
theorem dX5_readName_15 : decode cX5_readName 15 = .ok (.iconst 4, 1) := by decide +kernel
theorem dX5_readName_16 : decode cX5_readName 16 = .ok (.if_icmp .ge 20, 3) := by decide +kernel
theorem dX5_readName_19 : decode cX5_readName 19 = .ok (.bipush 27, 2) := by decide +kernel
theorem dX5_readName_21 : decode cX5_readName 21 = .ok (.iload_n 1, 1) := by decide +kernel
theorem dX5_readName_22 : decode cX5_readName 22 = .ok (.imul, 1) := by decide +kernel
theorem dX5_readName_23 : decode cX5_readName 23 = .ok (.aload_n 0, 1) := by decide +kernel
theorem dX5_readName_24 : decode cX5_readName 24 = .ok (.invokevirtual 95, 3) := by decide +kernel
theorem dX5_readName_27 : decode cX5_readName 27 = .ok (.iadd, 1) := by decide +kernel
theorem dX5_readName_28 : decode cX5_readName 28 = .ok (.bipush 97, 2) := by decide +kernel
theorem dX5_readName_30 : decode cX5_readName 30 = .ok (.isub, 1) := by decide +kernel
theorem dX5_readName_31 : decode cX5_readName 31 = .ok (.iconst 1, 1) := by decide +kernel
theorem dX5_readName_32 : decode cX5_readName 32 = .ok (.iadd, 1) := by decide +kernel
theorem dX5_readName_33 : decode cX5_readName 33 = .ok (.goto 4, 3) := by decide +kernel
theorem dX5_readName_36 : decode cX5_readName 36 = .ok (.iload_n 1, 1) := by decide +kernel
theorem dX5_readName_37 : decode cX5_readName 37 = .ok (.istore_n 1, 1) := by decide +kernel
theorem dX5_readName_38 : decode cX5_readName 38 = .ok (.iinc 2 1, 3) := by decide +kernel
theorem dX5_readName_41 : decode cX5_readName 41 = .ok (.aload_n 0, 1) := by decide +kernel
theorem dX5_readName_42 : decode cX5_readName 42 = .ok (.dup, 1) := by decide +kernel
theorem dX5_readName_43 : decode cX5_readName 43 = .ok (.getfield 88, 3) := by decide +kernel
theorem dX5_readName_46 : decode cX5_readName 46 = .ok (.iconst 1, 1) := by decide +kernel
theorem dX5_readName_47 : decode cX5_readName 47 = .ok (.iadd, 1) := by decide +kernel
theorem dX5_readName_48 : decode cX5_readName 48 = .ok (.putfield 88, 3) := by decide +kernel
theorem dX5_readName_51 : decode cX5_readName 51 = .ok (.goto (-47), 3) := by decide +kernel
theorem dX5_readName_54 : decode cX5_readName 54 = .ok (.aload_n 0, 1) := by decide +kernel
theorem dX5_readName_55 : decode cX5_readName 55 = .ok (.aload_n 0, 1) := by decide +kernel
theorem dX5_readName_56 : decode cX5_readName 56 = .ok (.getfield 91, 3) := by decide +kernel
theorem dX5_readName_59 : decode cX5_readName 59 = .ok (.ifCond .ne 13, 3) := by decide +kernel
theorem dX5_readName_62 : decode cX5_readName 62 = .ok (.iload_n 2, 1) := by decide +kernel
theorem dX5_readName_63 : decode cX5_readName 63 = .ok (.iconst 1, 1) := by decide +kernel
theorem dX5_readName_64 : decode cX5_readName 64 = .ok (.if_icmp .lt 8, 3) := by decide +kernel
theorem dX5_readName_67 : decode cX5_readName 67 = .ok (.iload_n 2, 1) := by decide +kernel
theorem dX5_readName_68 : decode cX5_readName 68 = .ok (.iconst 4, 1) := by decide +kernel
theorem dX5_readName_69 : decode cX5_readName 69 = .ok (.if_icmp .le 7, 3) := by decide +kernel
theorem dX5_readName_72 : decode cX5_readName 72 = .ok (.iconst 1, 1) := by decide +kernel
theorem dX5_readName_73 : decode cX5_readName 73 = .ok (.goto 4, 3) := by decide +kernel
theorem dX5_readName_76 : decode cX5_readName 76 = .ok (.iconst 0, 1) := by decide +kernel
theorem dX5_readName_77 : decode cX5_readName 77 = .ok (.putfield 91, 3) := by decide +kernel
theorem dX5_readName_80 : decode cX5_readName 80 = .ok (.iload_n 1, 1) := by decide +kernel
theorem dX5_readName_81 : decode cX5_readName 81 = .ok (.ireturn, 1) := by decide +kernel
theorem dX5_signOf_0 : decode cX5_signOf 0 = .ok (.iload_n 1, 1) := by decide +kernel
theorem dX5_signOf_1 : decode cX5_signOf 1 = .ok (.bipush 48, 2) := by decide +kernel
theorem dX5_signOf_3 : decode cX5_signOf 3 = .ok (.if_icmp .eq 9, 3) := by decide +kernel
theorem dX5_signOf_6 : decode cX5_signOf 6 = .ok (.iload_n 1, 1) := by decide +kernel
theorem dX5_signOf_7 : decode cX5_signOf 7 = .ok (.bipush 49, 2) := by decide +kernel
theorem dX5_signOf_9 : decode cX5_signOf 9 = .ok (.if_icmp .ne 10, 3) := by decide +kernel
theorem dX5_signOf_12 : decode cX5_signOf 12 = .ok (.iload_n 1, 1) := by decide +kernel
theorem dX5_signOf_13 : decode cX5_signOf 13 = .ok (.bipush 48, 2) := by decide +kernel
theorem dX5_signOf_15 : decode cX5_signOf 15 = .ok (.isub, 1) := by decide +kernel
theorem dX5_signOf_16 : decode cX5_signOf 16 = .ok (.goto 25, 3) := by decide +kernel
theorem dX5_signOf_19 : decode cX5_signOf 19 = .ok (.iload_n 1, 1) := by decide +kernel
theorem dX5_signOf_20 : decode cX5_signOf 20 = .ok (.bipush 120, 2) := by decide +kernel
theorem dX5_signOf_22 : decode cX5_signOf 22 = .ok (.if_icmp .lt 18, 3) := by decide +kernel
theorem dX5_signOf_25 : decode cX5_signOf 25 = .ok (.iload_n 1, 1) := by decide +kernel
theorem dX5_signOf_26 : decode cX5_signOf 26 = .ok (.bipush 122, 2) := by decide +kernel
theorem dX5_signOf_28 : decode cX5_signOf 28 = .ok (.if_icmp .gt 12, 3) := by decide +kernel
theorem dX5_signOf_31 : decode cX5_signOf 31 = .ok (.iconst 2, 1) := by decide +kernel
theorem dX5_signOf_32 : decode cX5_signOf 32 = .ok (.iload_n 1, 1) := by decide +kernel
theorem dX5_signOf_33 : decode cX5_signOf 33 = .ok (.iadd, 1) := by decide +kernel
theorem dX5_signOf_34 : decode cX5_signOf 34 = .ok (.bipush 120, 2) := by decide +kernel
theorem dX5_signOf_36 : decode cX5_signOf 36 = .ok (.isub, 1) := by decide +kernel
theorem dX5_signOf_37 : decode cX5_signOf 37 = .ok (.goto 4, 3) := by decide +kernel
theorem dX5_signOf_40 : decode cX5_signOf 40 = .ok (.iconst (-1), 1) := by decide +kernel
theorem dX5_signOf_41 : decode cX5_signOf 41 = .ok (.ireturn, 1) := by decide +kernel
theorem dX5_readSigns_0 : decode cX5_readSigns 0 = .ok (.iconst 0, 1) := by decide +kernel
theorem dX5_readSigns_1 : decode cX5_readSigns 1 = .ok (.istore_n 1, 1) := by decide +kernel
theorem dX5_readSigns_2 : decode cX5_readSigns 2 = .ok (.iconst 0, 1) := by decide +kernel
theorem dX5_readSigns_3 : decode cX5_readSigns 3 = .ok (.istore_n 2, 1) := by decide +kernel
theorem dX5_readSigns_4 : decode cX5_readSigns 4 = .ok (.iload_n 2, 1) := by decide +kernel
theorem dX5_readSigns_5 : decode cX5_readSigns 5 = .ok (.iconst 3, 1) := by decide +kernel
theorem dX5_readSigns_6 : decode cX5_readSigns 6 = .ok (.if_icmp .ge 16, 3) := by decide +kernel
theorem dX5_readSigns_9 : decode cX5_readSigns 9 = .ok (.aload_n 0, 1) := by decide +kernel
theorem dX5_readSigns_10 : decode cX5_readSigns 10 = .ok (.getfield 41, 3) := by decide +kernel
theorem dX5_readSigns_13 : decode cX5_readSigns 13 = .ok (.iload_n 2, 1) := by decide +kernel
theorem dX5_readSigns_14 : decode cX5_readSigns 14 = .ok (.iconst 0, 1) := by decide +kernel
theorem dX5_readSigns_15 : decode cX5_readSigns 15 = .ok (.iastore, 1) := by decide +kernel
theorem dX5_readSigns_16 : decode cX5_readSigns 16 = .ok (.iinc 2 1, 3) := by decide +kernel
theorem dX5_readSigns_19 : decode cX5_readSigns 19 = .ok (.goto (-15), 3) := by decide +kernel
theorem dX5_readSigns_22 : decode cX5_readSigns 22 = .ok (.aload_n 0, 1) := by decide +kernel
theorem dX5_readSigns_23 : decode cX5_readSigns 23 = .ok (.getfield 88, 3) := by decide +kernel
theorem dX5_readSigns_26 : decode cX5_readSigns 26 = .ok (.aload_n 0, 1) := by decide +kernel
theorem dX5_readSigns_27 : decode cX5_readSigns 27 = .ok (.getfield 85, 3) := by decide +kernel
theorem dX5_readSigns_30 : decode cX5_readSigns 30 = .ok (.if_icmp .ge 85, 3) := by decide +kernel
theorem dX5_readSigns_33 : decode cX5_readSigns 33 = .ok (.aload_n 0, 1) := by decide +kernel
theorem dX5_readSigns_34 : decode cX5_readSigns 34 = .ok (.aload_n 0, 1) := by decide +kernel
theorem dX5_readSigns_35 : decode cX5_readSigns 35 = .ok (.invokevirtual 95, 3) := by decide +kernel
theorem dX5_readSigns_38 : decode cX5_readSigns 38 = .ok (.invokevirtual 103, 3) := by decide +kernel
theorem dX5_readSigns_41 : decode cX5_readSigns 41 = .ok (.istore_n 2, 1) := by decide +kernel
theorem dX5_readSigns_42 : decode cX5_readSigns 42 = .ok (.aload_n 0, 1) := by decide +kernel
theorem dX5_readSigns_43 : decode cX5_readSigns 43 = .ok (.aload_n 0, 1) := by decide +kernel
theorem dX5_readSigns_44 : decode cX5_readSigns 44 = .ok (.getfield 91, 3) := by decide +kernel
theorem dX5_readSigns_47 : decode cX5_readSigns 47 = .ok (.ifCond .ne 13, 3) := by decide +kernel
theorem dX5_readSigns_50 : decode cX5_readSigns 50 = .ok (.iload_n 2, 1) := by decide +kernel
theorem dX5_readSigns_51 : decode cX5_readSigns 51 = .ok (.ifCond .lt 9, 3) := by decide +kernel
theorem dX5_readSigns_54 : decode cX5_readSigns 54 = .ok (.iload_n 1, 1) := by decide +kernel
theorem dX5_readSigns_55 : decode cX5_readSigns 55 = .ok (.bipush 24, 2) := by decide +kernel
theorem dX5_readSigns_57 : decode cX5_readSigns 57 = .ok (.if_icmp .ne 7, 3) := by decide +kernel
theorem dX5_readSigns_60 : decode cX5_readSigns 60 = .ok (.iconst 1, 1) := by decide +kernel
theorem dX5_readSigns_61 : decode cX5_readSigns 61 = .ok (.goto 4, 3) := by decide +kernel
theorem dX5_readSigns_64 : decode cX5_readSigns 64 = .ok (.iconst 0, 1) := by decide +kernel
theorem dX5_readSigns_65 : decode cX5_readSigns 65 = .ok (.putfield 91, 3) := by decide +kernel
theorem dX5_readSigns_68 : decode cX5_readSigns 68 = .ok (.aload_n 0, 1) := by decide +kernel
theorem dX5_readSigns_69 : decode cX5_readSigns 69 = .ok (.getfield 91, 3) := by decide +kernel
theorem dX5_readSigns_72 : decode cX5_readSigns 72 = .ok (.ifCond .ne 30, 3) := by decide +kernel
theorem dX5_readSigns_75 : decode cX5_readSigns 75 = .ok (.aload_n 0, 1) := by decide +kernel
theorem dX5_readSigns_76 : decode cX5_readSigns 76 = .ok (.getfield 38, 3) := by decide +kernel
theorem dX5_readSigns_79 : decode cX5_readSigns 79 = .ok (.iload_n 1, 1) := by decide +kernel
theorem dX5_readSigns_80 : decode cX5_readSigns 80 = .ok (.iload_n 2, 1) := by decide +kernel
theorem dX5_readSigns_81 : decode cX5_readSigns 81 = .ok (.iastore, 1) := by decide +kernel
theorem dX5_readSigns_82 : decode cX5_readSigns 82 = .ok (.iinc 1 1, 3) := by decide +kernel
theorem dX5_readSigns_85 : decode cX5_readSigns 85 = .ok (.iload_n 2, 1) := by decide +kernel
theorem dX5_readSigns_86 : decode cX5_readSigns 86 = .ok (.iconst 1, 1) := by decide +kernel
theorem dX5_readSigns_87 : decode cX5_readSigns 87 = .ok (.if_icmp .le 15, 3) := by decide +kernel
theorem dX5_readSigns_90 : decode cX5_readSigns 90 = .ok (.aload_n 0, 1) := by decide +kernel
theorem dX5_readSigns_91 : decode cX5_readSigns 91 = .ok (.getfield 41, 3) := by decide +kernel
theorem dX5_readSigns_94 : decode cX5_readSigns 94 = .ok (.iload_n 2, 1) := by decide +kernel
theorem dX5_readSigns_95 : decode cX5_readSigns 95 = .ok (.iconst 2, 1) := by decide +kernel
theorem dX5_readSigns_96 : decode cX5_readSigns 96 = .ok (.isub, 1) := by decide +kernel
theorem dX5_readSigns_97 : decode cX5_readSigns 97 = .ok (.dup2, 1) := by decide +kernel
theorem dX5_readSigns_98 : decode cX5_readSigns 98 = .ok (.iaload, 1) := by decide +kernel
theorem dX5_readSigns_99 : decode cX5_readSigns 99 = .ok (.iconst 1, 1) := by decide +kernel
theorem dX5_readSigns_100 : decode cX5_readSigns 100 = .ok (.iadd, 1) := by decide +kernel
theorem dX5_readSigns_101 : decode cX5_readSigns 101 = .ok (.iastore, 1) := by decide +kernel
theorem dX5_readSigns_102 : decode cX5_readSigns 102 = .ok (.aload_n 0, 1) := by decide +kernel
theorem dX5_readSigns_103 : decode cX5_readSigns 103 = .ok (.dup, 1) := by decide +kernel
theorem dX5_readSigns_104 : decode cX5_readSigns 104 = .ok (.getfield 88, 3) := by decide +kernel
theorem dX5_readSigns_107 : decode cX5_readSigns 107 = .ok (.iconst 1, 1) := by decide +kernel
theorem dX5_readSigns_108 : decode cX5_readSigns 108 = .ok (.iadd, 1) := by decide +kernel
theorem dX5_readSigns_109 : decode cX5_readSigns 109 = .ok (.putfield 88, 3) := by decide +kernel
theorem dX5_readSigns_112 : decode cX5_readSigns 112 = .ok (.goto (-90), 3) := by decide +kernel
theorem dX5_readSigns_115 : decode cX5_readSigns 115 = .ok (.iload_n 1, 1) := by decide +kernel
theorem dX5_readSigns_116 : decode cX5_readSigns 116 = .ok (.bipush 8, 2) := by decide +kernel
theorem dX5_readSigns_118 : decode cX5_readSigns 118 = .ok (.if_icmp .eq 15, 3) := by decide +kernel
theorem dX5_readSigns_121 : decode cX5_readSigns 121 = .ok (.iload_n 1, 1) := by decide +kernel
theorem dX5_readSigns_122 : decode cX5_readSigns 122 = .ok (.bipush 16, 2) := by decide +kernel
theorem dX5_readSigns_124 : decode cX5_readSigns 124 = .ok (.if_icmp .eq 9, 3) := by decide +kernel
theorem dX5_readSigns_127 : decode cX5_readSigns 127 = .ok (.iload_n 1, 1) := by decide +kernel
theorem dX5_readSigns_128 : decode cX5_readSigns 128 = .ok (.bipush 24, 2) := by decide +kernel
theorem dX5_readSigns_130 : decode cX5_readSigns 130 = .ok (.if_icmp .ne 7, 3) := by decide +kernel
theorem dX5_readSigns_133 : decode cX5_readSigns 133 = .ok (.iconst 1, 1) := by decide +kernel
theorem dX5_readSigns_134 : decode cX5_readSigns 134 = .ok (.goto 4, 3) := by decide +kernel
theorem dX5_readSigns_137 : decode cX5_readSigns 137 = .ok (.iconst 0, 1) := by decide +kernel
theorem dX5_readSigns_138 : decode cX5_readSigns 138 = .ok (.istore_n 2, 1) := by decide +kernel
theorem dX5_readSigns_139 : decode cX5_readSigns 139 = .ok (.aload_n 0, 1) := by decide +kernel
theorem dX5_readSigns_140 : decode cX5_readSigns 140 = .ok (.getfield 41, 3) := by decide +kernel
theorem dX5_readSigns_143 : decode cX5_readSigns 143 = .ok (.iconst 1, 1) := by decide +kernel
theorem dX5_readSigns_144 : decode cX5_readSigns 144 = .ok (.iaload, 1) := by decide +kernel
theorem dX5_readSigns_145 : decode cX5_readSigns 145 = .ok (.ifCond .eq 12, 3) := by decide +kernel
theorem dX5_readSigns_148 : decode cX5_readSigns 148 = .ok (.aload_n 0, 1) := by decide +kernel
theorem dX5_readSigns_149 : decode cX5_readSigns 149 = .ok (.getfield 41, 3) := by decide +kernel
theorem dX5_readSigns_152 : decode cX5_readSigns 152 = .ok (.iconst 0, 1) := by decide +kernel
theorem dX5_readSigns_153 : decode cX5_readSigns 153 = .ok (.iaload, 1) := by decide +kernel
theorem dX5_readSigns_154 : decode cX5_readSigns 154 = .ok (.ifCond .le 25, 3) := by decide +kernel
theorem dX5_readSigns_157 : decode cX5_readSigns 157 = .ok (.aload_n 0, 1) := by decide +kernel
theorem dX5_readSigns_158 : decode cX5_readSigns 158 = .ok (.getfield 41, 3) := by decide +kernel
theorem dX5_readSigns_161 : decode cX5_readSigns 161 = .ok (.iconst 2, 1) := by decide +kernel
theorem dX5_readSigns_162 : decode cX5_readSigns 162 = .ok (.iaload, 1) := by decide +kernel
theorem dX5_readSigns_163 : decode cX5_readSigns 163 = .ok (.ifCond .eq 12, 3) := by decide +kernel
theorem dX5_readSigns_166 : decode cX5_readSigns 166 = .ok (.aload_n 0, 1) := by decide +kernel
theorem dX5_readSigns_167 : decode cX5_readSigns 167 = .ok (.getfield 41, 3) := by decide +kernel
theorem dX5_readSigns_170 : decode cX5_readSigns 170 = .ok (.iconst 1, 1) := by decide +kernel
theorem dX5_readSigns_171 : decode cX5_readSigns 171 = .ok (.iaload, 1) := by decide +kernel
theorem dX5_readSigns_172 : decode cX5_readSigns 172 = .ok (.ifCond .le 7, 3) := by decide +kernel
theorem dX5_readSigns_175 : decode cX5_readSigns 175 = .ok (.iconst 1, 1) := by decide +kernel
theorem dX5_readSigns_176 : decode cX5_readSigns 176 = .ok (.goto 4, 3) := by decide +kernel
theorem dX5_readSigns_179 : decode cX5_readSigns 179 = .ok (.iconst 0, 1) := by decide +kernel
theorem dX5_readSigns_180 : decode cX5_readSigns 180 = .ok (.istore_n 3, 1) := by decide +kernel
theorem dX5_readSigns_181 : decode cX5_readSigns 181 = .ok (.aload_n 0, 1) := by decide +kernel
theorem dX5_readSigns_182 : decode cX5_readSigns 182 = .ok (.aload_n 0, 1) := by decide +kernel
theorem dX5_readSigns_183 : decode cX5_readSigns 183 = .ok (.getfield 91, 3) := by decide +kernel
theorem dX5_readSigns_186 : decode cX5_readSigns 186 = .ok (.ifCond .ne 44, 3) := by decide +kernel
theorem dX5_readSigns_189 : decode cX5_readSigns 189 = .ok (.iload_n 2, 1) := by decide +kernel
theorem dX5_readSigns_190 : decode cX5_readSigns 190 = .ok (.ifCond .eq 40, 3) := by decide +kernel
theorem dX5_readSigns_193 : decode cX5_readSigns 193 = .ok (.iload_n 3, 1) := by decide +kernel
theorem dX5_readSigns_194 : decode cX5_readSigns 194 = .ok (.ifCond .eq 36, 3) := by decide +kernel
theorem dX5_readSigns_197 : decode cX5_readSigns 197 = .ok (.aload_n 0, 1) := by decide +kernel
theorem dX5_readSigns_198 : decode cX5_readSigns 198 = .ok (.getfield 41, 3) := by decide +kernel
theorem dX5_readSigns_201 : decode cX5_readSigns 201 = .ok (.iconst 0, 1) := by decide +kernel
theorem dX5_readSigns_202 : decode cX5_readSigns 202 = .ok (.iaload, 1) := by decide +kernel
theorem dX5_readSigns_203 : decode cX5_readSigns 203 = .ok (.bipush 16, 2) := by decide +kernel
theorem dX5_readSigns_205 : decode cX5_readSigns 205 = .ok (.if_icmp .gt 25, 3) := by decide +kernel
theorem dX5_readSigns_208 : decode cX5_readSigns 208 = .ok (.aload_n 0, 1) := by decide +kernel
theorem dX5_readSigns_209 : decode cX5_readSigns 209 = .ok (.getfield 41, 3) := by decide +kernel
theorem dX5_readSigns_212 : decode cX5_readSigns 212 = .ok (.iconst 1, 1) := by decide +kernel
theorem dX5_readSigns_213 : decode cX5_readSigns 213 = .ok (.iaload, 1) := by decide +kernel
theorem dX5_readSigns_214 : decode cX5_readSigns 214 = .ok (.bipush 16, 2) := by decide +kernel
theorem dX5_readSigns_216 : decode cX5_readSigns 216 = .ok (.if_icmp .gt 14, 3) := by decide +kernel
theorem dX5_readSigns_219 : decode cX5_readSigns 219 = .ok (.aload_n 0, 1) := by decide +kernel
theorem dX5_readSigns_220 : decode cX5_readSigns 220 = .ok (.getfield 41, 3) := by decide +kernel
theorem dX5_readSigns_223 : decode cX5_readSigns 223 = .ok (.iconst 2, 1) := by decide +kernel
theorem dX5_readSigns_224 : decode cX5_readSigns 224 = .ok (.iaload, 1) := by decide +kernel
theorem dX5_readSigns_225 : decode cX5_readSigns 225 = .ok (.bipush 16, 2) := by decide +kernel
theorem dX5_readSigns_227 : decode cX5_readSigns 227 = .ok (.if_icmp .le 7, 3) := by decide +kernel
theorem dX5_readSigns_230 : decode cX5_readSigns 230 = .ok (.iconst 1, 1) := by decide +kernel
theorem dX5_readSigns_231 : decode cX5_readSigns 231 = .ok (.goto 4, 3) := by decide +kernel
theorem dX5_readSigns_234 : decode cX5_readSigns 234 = .ok (.iconst 0, 1) := by decide +kernel
theorem dX5_readSigns_235 : decode cX5_readSigns 235 = .ok (.putfield 91, 3) := by decide +kernel
theorem dX5_readSigns_238 : decode cX5_readSigns 238 = .ok (.iload_n 1, 1) := by decide +kernel
theorem dX5_readSigns_239 : decode cX5_readSigns 239 = .ok (.ireturn, 1) := by decide +kernel
theorem dX5_formOf_0 : decode cX5_formOf 0 = .ok (.iconst 0, 1) := by decide +kernel
theorem dX5_formOf_1 : decode cX5_formOf 1 = .ok (.istore_n 3, 1) := by decide +kernel
theorem dX5_formOf_2 : decode cX5_formOf 2 = .ok (.iload_n 3, 1) := by decide +kernel
theorem dX5_formOf_3 : decode cX5_formOf 3 = .ok (.aload_n 0, 1) := by decide +kernel
theorem dX5_formOf_4 : decode cX5_formOf 4 = .ok (.getfield 107, 3) := by decide +kernel
theorem dX5_formOf_7 : decode cX5_formOf 7 = .ok (.if_icmp .ge 31, 3) := by decide +kernel
theorem dX5_formOf_10 : decode cX5_formOf 10 = .ok (.aload_n 0, 1) := by decide +kernel
theorem dX5_formOf_11 : decode cX5_formOf 11 = .ok (.getfield 13, 3) := by decide +kernel
theorem dX5_formOf_14 : decode cX5_formOf 14 = .ok (.iload_n 3, 1) := by decide +kernel
theorem dX5_formOf_15 : decode cX5_formOf 15 = .ok (.iaload, 1) := by decide +kernel
theorem dX5_formOf_16 : decode cX5_formOf 16 = .ok (.iload_n 1, 1) := by decide +kernel
theorem dX5_formOf_17 : decode cX5_formOf 17 = .ok (.if_icmp .ne 15, 3) := by decide +kernel
theorem dX5_formOf_20 : decode cX5_formOf 20 = .ok (.aload_n 0, 1) := by decide +kernel
theorem dX5_formOf_21 : decode cX5_formOf 21 = .ok (.getfield 23, 3) := by decide +kernel
theorem dX5_formOf_24 : decode cX5_formOf 24 = .ok (.iload_n 3, 1) := by decide +kernel
theorem dX5_formOf_25 : decode cX5_formOf 25 = .ok (.iaload, 1) := by decide +kernel
theorem dX5_formOf_26 : decode cX5_formOf 26 = .ok (.iload_n 2, 1) := by decide +kernel
theorem dX5_formOf_27 : decode cX5_formOf 27 = .ok (.if_icmp .ne 5, 3) := by decide +kernel
theorem dX5_formOf_30 : decode cX5_formOf 30 = .ok (.iload_n 3, 1) := by decide +kernel
theorem dX5_formOf_31 : decode cX5_formOf 31 = .ok (.ireturn, 1) := by decide +kernel
theorem dX5_formOf_32 : decode cX5_formOf 32 = .ok (.iinc 3 1, 3) := by decide +kernel
theorem dX5_formOf_35 : decode cX5_formOf 35 = .ok (.goto (-33), 3) := by decide +kernel
theorem dX5_formOf_38 : decode cX5_formOf 38 = .ok (.iconst (-1), 1) := by decide +kernel
theorem dX5_formOf_39 : decode cX5_formOf 39 = .ok (.ireturn, 1) := by decide +kernel
theorem dX5_form_0 : decode cX5_form 0 = .ok (.aload_n 0, 1) := by decide +kernel
theorem dX5_form_1 : decode cX5_form 1 = .ok (.iconst 0, 1) := by decide +kernel
theorem dX5_form_2 : decode cX5_form 2 = .ok (.putfield 88, 3) := by decide +kernel
theorem dX5_form_5 : decode cX5_form 5 = .ok (.aload_n 0, 1) := by decide +kernel
theorem dX5_form_6 : decode cX5_form 6 = .ok (.iconst 0, 1) := by decide +kernel
theorem dX5_form_7 : decode cX5_form 7 = .ok (.putfield 91, 3) := by decide +kernel
theorem dX5_form_10 : decode cX5_form 10 = .ok (.aload_n 0, 1) := by decide +kernel
theorem dX5_form_11 : decode cX5_form 11 = .ok (.invokevirtual 110, 3) := by decide +kernel
theorem dX5_form_14 : decode cX5_form 14 = .ok (.istore_n 1, 1) := by decide +kernel
theorem dX5_form_15 : decode cX5_form 15 = .ok (.aload_n 0, 1) := by decide +kernel
theorem dX5_form_16 : decode cX5_form 16 = .ok (.bipush 32, 2) := by decide +kernel
theorem dX5_form_18 : decode cX5_form 18 = .ok (.invokevirtual 113, 3) := by decide +kernel
theorem dX5_form_21 : decode cX5_form 21 = .ok (.aload_n 0, 1) := by decide +kernel
theorem dX5_form_22 : decode cX5_form 22 = .ok (.invokevirtual 117, 3) := by decide +kernel
theorem dX5_form_25 : decode cX5_form 25 = .ok (.istore_n 2, 1) := by decide +kernel
theorem dX5_form_26 : decode cX5_form 26 = .ok (.aload_n 0, 1) := by decide +kernel
theorem dX5_form_27 : decode cX5_form 27 = .ok (.iconst 0, 1) := by decide +kernel
theorem dX5_form_28 : decode cX5_form 28 = .ok (.putfield 85, 3) := by decide +kernel
theorem dX5_form_31 : decode cX5_form 31 = .ok (.aload_n 0, 1) := by decide +kernel
theorem dX5_form_32 : decode cX5_form 32 = .ok (.getfield 41, 3) := by decide +kernel
theorem dX5_form_35 : decode cX5_form 35 = .ok (.iconst 2, 1) := by decide +kernel
theorem dX5_form_36 : decode cX5_form 36 = .ok (.iaload, 1) := by decide +kernel
theorem dX5_form_37 : decode cX5_form 37 = .ok (.ifCond .le 7, 3) := by decide +kernel
theorem dX5_form_40 : decode cX5_form 40 = .ok (.iconst 3, 1) := by decide +kernel
theorem dX5_form_41 : decode cX5_form 41 = .ok (.goto 30, 3) := by decide +kernel
theorem dX5_form_44 : decode cX5_form 44 = .ok (.aload_n 0, 1) := by decide +kernel
theorem dX5_form_45 : decode cX5_form 45 = .ok (.getfield 41, 3) := by decide +kernel
theorem dX5_form_48 : decode cX5_form 48 = .ok (.iconst 1, 1) := by decide +kernel
theorem dX5_form_49 : decode cX5_form 49 = .ok (.iaload, 1) := by decide +kernel
theorem dX5_form_50 : decode cX5_form 50 = .ok (.ifCond .le 7, 3) := by decide +kernel
theorem dX5_form_53 : decode cX5_form 53 = .ok (.iconst 2, 1) := by decide +kernel
theorem dX5_form_54 : decode cX5_form 54 = .ok (.goto 17, 3) := by decide +kernel
theorem dX5_form_57 : decode cX5_form 57 = .ok (.aload_n 0, 1) := by decide +kernel
theorem dX5_form_58 : decode cX5_form 58 = .ok (.getfield 41, 3) := by decide +kernel
theorem dX5_form_61 : decode cX5_form 61 = .ok (.iconst 0, 1) := by decide +kernel
theorem dX5_form_62 : decode cX5_form 62 = .ok (.iaload, 1) := by decide +kernel
theorem dX5_form_63 : decode cX5_form 63 = .ok (.ifCond .le 7, 3) := by decide +kernel
theorem dX5_form_66 : decode cX5_form 66 = .ok (.iconst 1, 1) := by decide +kernel
theorem dX5_form_67 : decode cX5_form 67 = .ok (.goto 4, 3) := by decide +kernel
theorem dX5_form_70 : decode cX5_form 70 = .ok (.iconst 0, 1) := by decide +kernel
theorem dX5_form_71 : decode cX5_form 71 = .ok (.istore_n 3, 1) := by decide +kernel
theorem dX5_form_72 : decode cX5_form 72 = .ok (.aload_n 0, 1) := by decide +kernel
theorem dX5_form_73 : decode cX5_form 73 = .ok (.aload_n 0, 1) := by decide +kernel
theorem dX5_form_74 : decode cX5_form 74 = .ok (.getfield 91, 3) := by decide +kernel
theorem dX5_form_77 : decode cX5_form 77 = .ok (.ifCond .eq 7, 3) := by decide +kernel
theorem dX5_form_80 : decode cX5_form 80 = .ok (.iconst 1, 1) := by decide +kernel
theorem dX5_form_81 : decode cX5_form 81 = .ok (.goto 26, 3) := by decide +kernel
theorem dX5_form_84 : decode cX5_form 84 = .ok (.aload_n 0, 1) := by decide +kernel
theorem dX5_form_85 : decode cX5_form 85 = .ok (.getfield 107, 3) := by decide +kernel
theorem dX5_form_88 : decode cX5_form 88 = .ok (.bipush 12, 2) := by decide +kernel
theorem dX5_form_90 : decode cX5_form 90 = .ok (.if_icmp .eq 12, 3) := by decide +kernel
theorem dX5_form_93 : decode cX5_form 93 = .ok (.aload_n 0, 1) := by decide +kernel
theorem dX5_form_94 : decode cX5_form 94 = .ok (.iload_n 1, 1) := by decide +kernel
theorem dX5_form_95 : decode cX5_form 95 = .ok (.iload_n 3, 1) := by decide +kernel
theorem dX5_form_96 : decode cX5_form 96 = .ok (.invokevirtual 120, 3) := by decide +kernel
theorem dX5_form_99 : decode cX5_form 99 = .ok (.ifCond .lt 7, 3) := by decide +kernel
theorem dX5_form_102 : decode cX5_form 102 = .ok (.iconst 2, 1) := by decide +kernel
theorem dX5_form_103 : decode cX5_form 103 = .ok (.goto 4, 3) := by decide +kernel
theorem dX5_form_106 : decode cX5_form 106 = .ok (.iconst 0, 1) := by decide +kernel
theorem dX5_form_107 : decode cX5_form 107 = .ok (.putfield 82, 3) := by decide +kernel
theorem dX5_form_110 : decode cX5_form 110 = .ok (.aload_n 0, 1) := by decide +kernel
theorem dX5_form_111 : decode cX5_form 111 = .ok (.getfield 82, 3) := by decide +kernel
theorem dX5_form_114 : decode cX5_form 114 = .ok (.ifCond .eq 5, 3) := by decide +kernel
theorem dX5_form_117 : decode cX5_form 117 = .ok (.iconst 0, 1) := by decide +kernel
theorem dX5_form_118 : decode cX5_form 118 = .ok (.ireturn, 1) := by decide +kernel
theorem dX5_form_119 : decode cX5_form 119 = .ok (.aload_n 0, 1) := by decide +kernel
theorem dX5_form_120 : decode cX5_form 120 = .ok (.getfield 13, 3) := by decide +kernel
theorem dX5_form_123 : decode cX5_form 123 = .ok (.aload_n 0, 1) := by decide +kernel
theorem dX5_form_124 : decode cX5_form 124 = .ok (.getfield 107, 3) := by decide +kernel
theorem dX5_form_127 : decode cX5_form 127 = .ok (.iload_n 1, 1) := by decide +kernel
theorem dX5_form_128 : decode cX5_form 128 = .ok (.iastore, 1) := by decide +kernel
theorem dX5_form_129 : decode cX5_form 129 = .ok (.aload_n 0, 1) := by decide +kernel
theorem dX5_form_130 : decode cX5_form 130 = .ok (.getfield 17, 3) := by decide +kernel
theorem dX5_form_133 : decode cX5_form 133 = .ok (.aload_n 0, 1) := by decide +kernel
theorem dX5_form_134 : decode cX5_form 134 = .ok (.getfield 107, 3) := by decide +kernel
theorem dX5_form_137 : decode cX5_form 137 = .ok (.iload_n 2, 1) := by decide +kernel
theorem dX5_form_138 : decode cX5_form 138 = .ok (.iastore, 1) := by decide +kernel
theorem dX5_form_139 : decode cX5_form 139 = .ok (.aload_n 0, 1) := by decide +kernel
theorem dX5_form_140 : decode cX5_form 140 = .ok (.getfield 23, 3) := by decide +kernel
theorem dX5_form_143 : decode cX5_form 143 = .ok (.aload_n 0, 1) := by decide +kernel
theorem dX5_form_144 : decode cX5_form 144 = .ok (.getfield 107, 3) := by decide +kernel
theorem dX5_form_147 : decode cX5_form 147 = .ok (.iload_n 3, 1) := by decide +kernel
theorem dX5_form_148 : decode cX5_form 148 = .ok (.iastore, 1) := by decide +kernel
theorem dX5_form_149 : decode cX5_form 149 = .ok (.iconst 0, 1) := by decide +kernel
theorem dX5_form_150 : decode cX5_form 150 = .ok (.istore 4, 2) := by decide +kernel
theorem dX5_form_152 : decode cX5_form 152 = .ok (.iload 4, 2) := by decide +kernel
theorem dX5_form_154 : decode cX5_form 154 = .ok (.iload_n 2, 1) := by decide +kernel
theorem dX5_form_155 : decode cX5_form 155 = .ok (.if_icmp .ge 31, 3) := by decide +kernel
theorem dX5_form_158 : decode cX5_form 158 = .ok (.aload_n 0, 1) := by decide +kernel
theorem dX5_form_159 : decode cX5_form 159 = .ok (.getfield 20, 3) := by decide +kernel
theorem dX5_form_162 : decode cX5_form 162 = .ok (.bipush 24, 2) := by decide +kernel
theorem dX5_form_164 : decode cX5_form 164 = .ok (.aload_n 0, 1) := by decide +kernel
theorem dX5_form_165 : decode cX5_form 165 = .ok (.getfield 107, 3) := by decide +kernel
theorem dX5_form_168 : decode cX5_form 168 = .ok (.imul, 1) := by decide +kernel
theorem dX5_form_169 : decode cX5_form 169 = .ok (.iload 4, 2) := by decide +kernel
theorem dX5_form_171 : decode cX5_form 171 = .ok (.iadd, 1) := by decide +kernel
theorem dX5_form_172 : decode cX5_form 172 = .ok (.aload_n 0, 1) := by decide +kernel
theorem dX5_form_173 : decode cX5_form 173 = .ok (.getfield 38, 3) := by decide +kernel
theorem dX5_form_176 : decode cX5_form 176 = .ok (.iload 4, 2) := by decide +kernel
theorem dX5_form_178 : decode cX5_form 178 = .ok (.iaload, 1) := by decide +kernel
theorem dX5_form_179 : decode cX5_form 179 = .ok (.iastore, 1) := by decide +kernel
theorem dX5_form_180 : decode cX5_form 180 = .ok (.iinc 4 1, 3) := by decide +kernel
theorem dX5_form_183 : decode cX5_form 183 = .ok (.goto (-31), 3) := by decide +kernel
theorem dX5_form_186 : decode cX5_form 186 = .ok (.iconst 0, 1) := by decide +kernel
theorem dX5_form_187 : decode cX5_form 187 = .ok (.istore 4, 2) := by decide +kernel
theorem dX5_form_189 : decode cX5_form 189 = .ok (.iload 4, 2) := by decide +kernel
theorem dX5_form_191 : decode cX5_form 191 = .ok (.iconst 3, 1) := by decide +kernel
theorem dX5_form_192 : decode cX5_form 192 = .ok (.if_icmp .ge 75, 3) := by decide +kernel
theorem dX5_form_195 : decode cX5_form 195 = .ok (.aload_n 0, 1) := by decide +kernel
theorem dX5_form_196 : decode cX5_form 196 = .ok (.getfield 26, 3) := by decide +kernel
theorem dX5_form_199 : decode cX5_form 199 = .ok (.iconst 3, 1) := by decide +kernel
theorem dX5_form_200 : decode cX5_form 200 = .ok (.aload_n 0, 1) := by decide +kernel
theorem dX5_form_201 : decode cX5_form 201 = .ok (.getfield 107, 3) := by decide +kernel
theorem dX5_form_204 : decode cX5_form 204 = .ok (.imul, 1) := by decide +kernel
theorem dX5_form_205 : decode cX5_form 205 = .ok (.iload 4, 2) := by decide +kernel
theorem dX5_form_207 : decode cX5_form 207 = .ok (.iadd, 1) := by decide +kernel
theorem dX5_form_208 : decode cX5_form 208 = .ok (.aload_n 0, 1) := by decide +kernel
theorem dX5_form_209 : decode cX5_form 209 = .ok (.getfield 41, 3) := by decide +kernel
theorem dX5_form_212 : decode cX5_form 212 = .ok (.iload 4, 2) := by decide +kernel
theorem dX5_form_214 : decode cX5_form 214 = .ok (.iaload, 1) := by decide +kernel
theorem dX5_form_215 : decode cX5_form 215 = .ok (.iastore, 1) := by decide +kernel
theorem dX5_form_216 : decode cX5_form 216 = .ok (.aload_n 0, 1) := by decide +kernel
theorem dX5_form_217 : decode cX5_form 217 = .ok (.getfield 29, 3) := by decide +kernel
theorem dX5_form_220 : decode cX5_form 220 = .ok (.iconst 3, 1) := by decide +kernel
theorem dX5_form_221 : decode cX5_form 221 = .ok (.aload_n 0, 1) := by decide +kernel
theorem dX5_form_222 : decode cX5_form 222 = .ok (.getfield 107, 3) := by decide +kernel
theorem dX5_form_225 : decode cX5_form 225 = .ok (.imul, 1) := by decide +kernel
theorem dX5_form_226 : decode cX5_form 226 = .ok (.iload 4, 2) := by decide +kernel
theorem dX5_form_228 : decode cX5_form 228 = .ok (.iadd, 1) := by decide +kernel
theorem dX5_form_229 : decode cX5_form 229 = .ok (.iconst 0, 1) := by decide +kernel
theorem dX5_form_230 : decode cX5_form 230 = .ok (.iastore, 1) := by decide +kernel
theorem dX5_form_231 : decode cX5_form 231 = .ok (.aload_n 0, 1) := by decide +kernel
theorem dX5_form_232 : decode cX5_form 232 = .ok (.getfield 32, 3) := by decide +kernel
theorem dX5_form_235 : decode cX5_form 235 = .ok (.iconst 3, 1) := by decide +kernel
theorem dX5_form_236 : decode cX5_form 236 = .ok (.aload_n 0, 1) := by decide +kernel
theorem dX5_form_237 : decode cX5_form 237 = .ok (.getfield 107, 3) := by decide +kernel
theorem dX5_form_240 : decode cX5_form 240 = .ok (.imul, 1) := by decide +kernel
theorem dX5_form_241 : decode cX5_form 241 = .ok (.iload 4, 2) := by decide +kernel
theorem dX5_form_243 : decode cX5_form 243 = .ok (.iadd, 1) := by decide +kernel
theorem dX5_form_244 : decode cX5_form 244 = .ok (.iconst 1, 1) := by decide +kernel
theorem dX5_form_245 : decode cX5_form 245 = .ok (.iastore, 1) := by decide +kernel
theorem dX5_form_246 : decode cX5_form 246 = .ok (.aload_n 0, 1) := by decide +kernel
theorem dX5_form_247 : decode cX5_form 247 = .ok (.getfield 35, 3) := by decide +kernel
theorem dX5_form_250 : decode cX5_form 250 = .ok (.iconst 3, 1) := by decide +kernel
theorem dX5_form_251 : decode cX5_form 251 = .ok (.aload_n 0, 1) := by decide +kernel
theorem dX5_form_252 : decode cX5_form 252 = .ok (.getfield 107, 3) := by decide +kernel
theorem dX5_form_255 : decode cX5_form 255 = .ok (.imul, 1) := by decide +kernel
theorem dX5_form_256 : decode cX5_form 256 = .ok (.iload 4, 2) := by decide +kernel
theorem dX5_form_258 : decode cX5_form 258 = .ok (.iadd, 1) := by decide +kernel
theorem dX5_form_259 : decode cX5_form 259 = .ok (.iconst 0, 1) := by decide +kernel
theorem dX5_form_260 : decode cX5_form 260 = .ok (.iastore, 1) := by decide +kernel
theorem dX5_form_261 : decode cX5_form 261 = .ok (.iinc 4 1, 3) := by decide +kernel
theorem dX5_form_264 : decode cX5_form 264 = .ok (.goto (-75), 3) := by decide +kernel
theorem dX5_form_267 : decode cX5_form 267 = .ok (.aload_n 0, 1) := by decide +kernel
theorem dX5_form_268 : decode cX5_form 268 = .ok (.dup, 1) := by decide +kernel
theorem dX5_form_269 : decode cX5_form 269 = .ok (.getfield 107, 3) := by decide +kernel
theorem dX5_form_272 : decode cX5_form 272 = .ok (.iconst 1, 1) := by decide +kernel
theorem dX5_form_273 : decode cX5_form 273 = .ok (.iadd, 1) := by decide +kernel
theorem dX5_form_274 : decode cX5_form 274 = .ok (.putfield 107, 3) := by decide +kernel
theorem dX5_form_277 : decode cX5_form 277 = .ok (.aload_n 0, 1) := by decide +kernel
theorem dX5_form_278 : decode cX5_form 278 = .ok (.iconst 0, 1) := by decide +kernel
theorem dX5_form_279 : decode cX5_form 279 = .ok (.putfield 124, 3) := by decide +kernel
theorem dX5_form_282 : decode cX5_form 282 = .ok (.aload_n 0, 1) := by decide +kernel
theorem dX5_form_283 : decode cX5_form 283 = .ok (.getfield 107, 3) := by decide +kernel
theorem dX5_form_286 : decode cX5_form 286 = .ok (.iconst 1, 1) := by decide +kernel
theorem dX5_form_287 : decode cX5_form 287 = .ok (.isub, 1) := by decide +kernel
theorem dX5_form_288 : decode cX5_form 288 = .ok (.ireturn, 1) := by decide +kernel
theorem dX5_outside_0 : decode cX5_outside 0 = .ok (.iload_n 0, 1) := by decide +kernel
theorem dX5_outside_1 : decode cX5_outside 1 = .ok (.iload_n 1, 1) := by decide +kernel
theorem dX5_outside_2 : decode cX5_outside 2 = .ok (.if_icmp .lt 8, 3) := by decide +kernel
theorem dX5_outside_5 : decode cX5_outside 5 = .ok (.iload_n 0, 1) := by decide +kernel
theorem dX5_outside_6 : decode cX5_outside 6 = .ok (.iload_n 2, 1) := by decide +kernel
theorem dX5_outside_7 : decode cX5_outside 7 = .ok (.if_icmp .le 7, 3) := by decide +kernel
theorem dX5_outside_10 : decode cX5_outside 10 = .ok (.iconst 1, 1) := by decide +kernel
theorem dX5_outside_11 : decode cX5_outside 11 = .ok (.goto 4, 3) := by decide +kernel
theorem dX5_outside_14 : decode cX5_outside 14 = .ok (.iconst 0, 1) := by decide +kernel
theorem dX5_outside_15 : decode cX5_outside 15 = .ok (.ireturn, 1) := by decide +kernel
theorem dX5_operand_0 : decode cX5_operand 0 = .ok (.iload_n 1, 1) := by decide +kernel
theorem dX5_operand_1 : decode cX5_operand 1 = .ok (.ifCond .lt 45, 3) := by decide +kernel
theorem dX5_operand_4 : decode cX5_operand 4 = .ok (.iload_n 1, 1) := by decide +kernel
theorem dX5_operand_5 : decode cX5_operand 5 = .ok (.aload_n 0, 1) := by decide +kernel
theorem dX5_operand_6 : decode cX5_operand 6 = .ok (.getfield 107, 3) := by decide +kernel
theorem dX5_operand_9 : decode cX5_operand 9 = .ok (.if_icmp .ge 37, 3) := by decide +kernel
theorem dX5_operand_12 : decode cX5_operand 12 = .ok (.iload_n 2, 1) := by decide +kernel
theorem dX5_operand_13 : decode cX5_operand 13 = .ok (.ifCond .lt 33, 3) := by decide +kernel
theorem dX5_operand_16 : decode cX5_operand 16 = .ok (.iload_n 2, 1) := by decide +kernel
theorem dX5_operand_17 : decode cX5_operand 17 = .ok (.aload_n 0, 1) := by decide +kernel
theorem dX5_operand_18 : decode cX5_operand 18 = .ok (.getfield 23, 3) := by decide +kernel
theorem dX5_operand_21 : decode cX5_operand 21 = .ok (.iload_n 1, 1) := by decide +kernel
theorem dX5_operand_22 : decode cX5_operand 22 = .ok (.ifCond .lt 11, 3) := by decide +kernel
theorem dX5_operand_25 : decode cX5_operand 25 = .ok (.iload_n 1, 1) := by decide +kernel
theorem dX5_operand_26 : decode cX5_operand 26 = .ok (.aload_n 0, 1) := by decide +kernel
theorem dX5_operand_27 : decode cX5_operand 27 = .ok (.getfield 107, 3) := by decide +kernel
theorem dX5_operand_30 : decode cX5_operand 30 = .ok (.if_icmp .lt 7, 3) := by decide +kernel
theorem dX5_operand_33 : decode cX5_operand 33 = .ok (.iconst 0, 1) := by decide +kernel
theorem dX5_operand_34 : decode cX5_operand 34 = .ok (.goto 4, 3) := by decide +kernel
theorem dX5_operand_37 : decode cX5_operand 37 = .ok (.iload_n 1, 1) := by decide +kernel
theorem dX5_operand_38 : decode cX5_operand 38 = .ok (.iaload, 1) := by decide +kernel
theorem dX5_operand_39 : decode cX5_operand 39 = .ok (.if_icmp .ge 7, 3) := by decide +kernel
theorem dX5_operand_42 : decode cX5_operand 42 = .ok (.iconst 1, 1) := by decide +kernel
theorem dX5_operand_43 : decode cX5_operand 43 = .ok (.goto 4, 3) := by decide +kernel
theorem dX5_operand_46 : decode cX5_operand 46 = .ok (.iconst 0, 1) := by decide +kernel
theorem dX5_operand_47 : decode cX5_operand 47 = .ok (.istore 6, 2) := by decide +kernel
theorem dX5_operand_49 : decode cX5_operand 49 = .ok (.aload_n 0, 1) := by decide +kernel
theorem dX5_operand_50 : decode cX5_operand 50 = .ok (.iload 6, 2) := by decide +kernel
theorem dX5_operand_52 : decode cX5_operand 52 = .ok (.ifCond .eq 35, 3) := by decide +kernel
theorem dX5_operand_55 : decode cX5_operand 55 = .ok (.iload_n 3, 1) := by decide +kernel
theorem dX5_operand_56 : decode cX5_operand 56 = .ok (.iconst 0, 1) := by decide +kernel
theorem dX5_operand_57 : decode cX5_operand 57 = .ok (.iconst 2, 1) := by decide +kernel
theorem dX5_operand_58 : decode cX5_operand 58 = .ok (.invokestatic 127, 3) := by decide +kernel
theorem dX5_operand_61 : decode cX5_operand 61 = .ok (.ifCond .ne 26, 3) := by decide +kernel
theorem dX5_operand_64 : decode cX5_operand 64 = .ok (.iload 4, 2) := by decide +kernel
theorem dX5_operand_66 : decode cX5_operand 66 = .ok (.iconst 1, 1) := by decide +kernel
theorem dX5_operand_67 : decode cX5_operand 67 = .ok (.bipush 8, 2) := by decide +kernel
theorem dX5_operand_69 : decode cX5_operand 69 = .ok (.invokestatic 127, 3) := by decide +kernel
theorem dX5_operand_72 : decode cX5_operand 72 = .ok (.ifCond .ne 15, 3) := by decide +kernel
theorem dX5_operand_75 : decode cX5_operand 75 = .ok (.iload 5, 2) := by decide +kernel
theorem dX5_operand_77 : decode cX5_operand 77 = .ok (.bipush (-100), 2) := by decide +kernel
theorem dX5_operand_79 : decode cX5_operand 79 = .ok (.bipush 100, 2) := by decide +kernel
theorem dX5_operand_81 : decode cX5_operand 81 = .ok (.invokestatic 127, 3) := by decide +kernel
theorem dX5_operand_84 : decode cX5_operand 84 = .ok (.ifCond .eq 7, 3) := by decide +kernel
theorem dX5_operand_87 : decode cX5_operand 87 = .ok (.iconst 1, 1) := by decide +kernel
theorem dX5_operand_88 : decode cX5_operand 88 = .ok (.goto 4, 3) := by decide +kernel
theorem dX5_operand_91 : decode cX5_operand 91 = .ok (.iconst 0, 1) := by decide +kernel
theorem dX5_operand_92 : decode cX5_operand 92 = .ok (.putfield 82, 3) := by decide +kernel
theorem dX5_operand_95 : decode cX5_operand 95 = .ok (.aload_n 0, 1) := by decide +kernel
theorem dX5_operand_96 : decode cX5_operand 96 = .ok (.getfield 82, 3) := by decide +kernel
theorem dX5_operand_99 : decode cX5_operand 99 = .ok (.ifCond .eq 5, 3) := by decide +kernel
theorem dX5_operand_102 : decode cX5_operand 102 = .ok (.iconst 0, 1) := by decide +kernel
theorem dX5_operand_103 : decode cX5_operand 103 = .ok (.ireturn, 1) := by decide +kernel
theorem dX5_operand_104 : decode cX5_operand 104 = .ok (.aload_n 0, 1) := by decide +kernel
theorem dX5_operand_105 : decode cX5_operand 105 = .ok (.getfield 29, 3) := by decide +kernel
theorem dX5_operand_108 : decode cX5_operand 108 = .ok (.iconst 3, 1) := by decide +kernel
theorem dX5_operand_109 : decode cX5_operand 109 = .ok (.iload_n 1, 1) := by decide +kernel
theorem dX5_operand_110 : decode cX5_operand 110 = .ok (.imul, 1) := by decide +kernel
theorem dX5_operand_111 : decode cX5_operand 111 = .ok (.iload_n 2, 1) := by decide +kernel
theorem dX5_operand_112 : decode cX5_operand 112 = .ok (.iadd, 1) := by decide +kernel
theorem dX5_operand_113 : decode cX5_operand 113 = .ok (.iload_n 3, 1) := by decide +kernel
theorem dX5_operand_114 : decode cX5_operand 114 = .ok (.iastore, 1) := by decide +kernel
theorem dX5_operand_115 : decode cX5_operand 115 = .ok (.aload_n 0, 1) := by decide +kernel
theorem dX5_operand_116 : decode cX5_operand 116 = .ok (.getfield 32, 3) := by decide +kernel
theorem dX5_operand_119 : decode cX5_operand 119 = .ok (.iconst 3, 1) := by decide +kernel
theorem dX5_operand_120 : decode cX5_operand 120 = .ok (.iload_n 1, 1) := by decide +kernel
theorem dX5_operand_121 : decode cX5_operand 121 = .ok (.imul, 1) := by decide +kernel
theorem dX5_operand_122 : decode cX5_operand 122 = .ok (.iload_n 2, 1) := by decide +kernel
theorem dX5_operand_123 : decode cX5_operand 123 = .ok (.iadd, 1) := by decide +kernel
theorem dX5_operand_124 : decode cX5_operand 124 = .ok (.iload 4, 2) := by decide +kernel
theorem dX5_operand_126 : decode cX5_operand 126 = .ok (.iastore, 1) := by decide +kernel
theorem dX5_operand_127 : decode cX5_operand 127 = .ok (.aload_n 0, 1) := by decide +kernel
theorem dX5_operand_128 : decode cX5_operand 128 = .ok (.getfield 35, 3) := by decide +kernel
theorem dX5_operand_131 : decode cX5_operand 131 = .ok (.iconst 3, 1) := by decide +kernel
theorem dX5_operand_132 : decode cX5_operand 132 = .ok (.iload_n 1, 1) := by decide +kernel
theorem dX5_operand_133 : decode cX5_operand 133 = .ok (.imul, 1) := by decide +kernel
theorem dX5_operand_134 : decode cX5_operand 134 = .ok (.iload_n 2, 1) := by decide +kernel
theorem dX5_operand_135 : decode cX5_operand 135 = .ok (.iadd, 1) := by decide +kernel
theorem dX5_operand_136 : decode cX5_operand 136 = .ok (.iload 5, 2) := by decide +kernel
theorem dX5_operand_138 : decode cX5_operand 138 = .ok (.iastore, 1) := by decide +kernel
theorem dX5_operand_139 : decode cX5_operand 139 = .ok (.aload_n 0, 1) := by decide +kernel
theorem dX5_operand_140 : decode cX5_operand 140 = .ok (.getfield 26, 3) := by decide +kernel
theorem dX5_operand_143 : decode cX5_operand 143 = .ok (.iconst 3, 1) := by decide +kernel
theorem dX5_operand_144 : decode cX5_operand 144 = .ok (.iload_n 1, 1) := by decide +kernel
theorem dX5_operand_145 : decode cX5_operand 145 = .ok (.imul, 1) := by decide +kernel
theorem dX5_operand_146 : decode cX5_operand 146 = .ok (.iload_n 2, 1) := by decide +kernel
theorem dX5_operand_147 : decode cX5_operand 147 = .ok (.iadd, 1) := by decide +kernel
theorem dX5_operand_148 : decode cX5_operand 148 = .ok (.iaload, 1) := by decide +kernel
theorem dX5_operand_149 : decode cX5_operand 149 = .ok (.ireturn, 1) := by decide +kernel
theorem dX5_fixed_0 : decode cX5_fixed 0 = .ok (.iload_n 2, 1) := by decide +kernel
theorem dX5_fixed_1 : decode cX5_fixed 1 = .ok (.aload_n 0, 1) := by decide +kernel
theorem dX5_fixed_2 : decode cX5_fixed 2 = .ok (.getfield 17, 3) := by decide +kernel
theorem dX5_fixed_5 : decode cX5_fixed 5 = .ok (.iload_n 1, 1) := by decide +kernel
theorem dX5_fixed_6 : decode cX5_fixed 6 = .ok (.iaload, 1) := by decide +kernel
theorem dX5_fixed_7 : decode cX5_fixed 7 = .ok (.if_icmp .ge 32, 3) := by decide +kernel
theorem dX5_fixed_10 : decode cX5_fixed 10 = .ok (.aload_n 0, 1) := by decide +kernel
theorem dX5_fixed_11 : decode cX5_fixed 11 = .ok (.getfield 20, 3) := by decide +kernel
theorem dX5_fixed_14 : decode cX5_fixed 14 = .ok (.bipush 24, 2) := by decide +kernel
theorem dX5_fixed_16 : decode cX5_fixed 16 = .ok (.iload_n 1, 1) := by decide +kernel
theorem dX5_fixed_17 : decode cX5_fixed 17 = .ok (.imul, 1) := by decide +kernel
theorem dX5_fixed_18 : decode cX5_fixed 18 = .ok (.iload_n 2, 1) := by decide +kernel
theorem dX5_fixed_19 : decode cX5_fixed 19 = .ok (.iadd, 1) := by decide +kernel
theorem dX5_fixed_20 : decode cX5_fixed 20 = .ok (.iaload, 1) := by decide +kernel
theorem dX5_fixed_21 : decode cX5_fixed 21 = .ok (.iconst 2, 1) := by decide +kernel
theorem dX5_fixed_22 : decode cX5_fixed 22 = .ok (.if_icmp .ge 17, 3) := by decide +kernel
theorem dX5_fixed_25 : decode cX5_fixed 25 = .ok (.aload_n 0, 1) := by decide +kernel
theorem dX5_fixed_26 : decode cX5_fixed 26 = .ok (.getfield 20, 3) := by decide +kernel
theorem dX5_fixed_29 : decode cX5_fixed 29 = .ok (.bipush 24, 2) := by decide +kernel
theorem dX5_fixed_31 : decode cX5_fixed 31 = .ok (.iload_n 1, 1) := by decide +kernel
theorem dX5_fixed_32 : decode cX5_fixed 32 = .ok (.imul, 1) := by decide +kernel
theorem dX5_fixed_33 : decode cX5_fixed 33 = .ok (.iload_n 2, 1) := by decide +kernel
theorem dX5_fixed_34 : decode cX5_fixed 34 = .ok (.iadd, 1) := by decide +kernel
theorem dX5_fixed_35 : decode cX5_fixed 35 = .ok (.iaload, 1) := by decide +kernel
theorem dX5_fixed_36 : decode cX5_fixed 36 = .ok (.goto 4, 3) := by decide +kernel
theorem dX5_fixed_39 : decode cX5_fixed 39 = .ok (.iconst (-1), 1) := by decide +kernel
theorem dX5_fixed_40 : decode cX5_fixed 40 = .ok (.ireturn, 1) := by decide +kernel
theorem dX5_isNarrower_0 : decode cX5_isNarrower 0 = .ok (.iconst 0, 1) := by decide +kernel
theorem dX5_isNarrower_1 : decode cX5_isNarrower 1 = .ok (.istore_n 3, 1) := by decide +kernel
theorem dX5_isNarrower_2 : decode cX5_isNarrower 2 = .ok (.iconst 0, 1) := by decide +kernel
theorem dX5_isNarrower_3 : decode cX5_isNarrower 3 = .ok (.istore 4, 2) := by decide +kernel
theorem dX5_isNarrower_5 : decode cX5_isNarrower 5 = .ok (.iconst 0, 1) := by decide +kernel
theorem dX5_isNarrower_6 : decode cX5_isNarrower 6 = .ok (.istore 5, 2) := by decide +kernel
theorem dX5_isNarrower_8 : decode cX5_isNarrower 8 = .ok (.iload 5, 2) := by decide +kernel
theorem dX5_isNarrower_10 : decode cX5_isNarrower 10 = .ok (.bipush 24, 2) := by decide +kernel
theorem dX5_isNarrower_12 : decode cX5_isNarrower 12 = .ok (.if_icmp .ge 70, 3) := by decide +kernel
theorem dX5_isNarrower_15 : decode cX5_isNarrower 15 = .ok (.aload_n 0, 1) := by decide +kernel
theorem dX5_isNarrower_16 : decode cX5_isNarrower 16 = .ok (.iload_n 1, 1) := by decide +kernel
theorem dX5_isNarrower_17 : decode cX5_isNarrower 17 = .ok (.iload 5, 2) := by decide +kernel
theorem dX5_isNarrower_19 : decode cX5_isNarrower 19 = .ok (.invokevirtual 131, 3) := by decide +kernel
theorem dX5_isNarrower_22 : decode cX5_isNarrower 22 = .ok (.istore 6, 2) := by decide +kernel
theorem dX5_isNarrower_24 : decode cX5_isNarrower 24 = .ok (.aload_n 0, 1) := by decide +kernel
theorem dX5_isNarrower_25 : decode cX5_isNarrower 25 = .ok (.iload_n 2, 1) := by decide +kernel
theorem dX5_isNarrower_26 : decode cX5_isNarrower 26 = .ok (.iload 5, 2) := by decide +kernel
theorem dX5_isNarrower_28 : decode cX5_isNarrower 28 = .ok (.invokevirtual 131, 3) := by decide +kernel
theorem dX5_isNarrower_31 : decode cX5_isNarrower 31 = .ok (.istore 7, 2) := by decide +kernel
theorem dX5_isNarrower_33 : decode cX5_isNarrower 33 = .ok (.iload 7, 2) := by decide +kernel
theorem dX5_isNarrower_35 : decode cX5_isNarrower 35 = .ok (.ifCond .lt 12, 3) := by decide +kernel
theorem dX5_isNarrower_38 : decode cX5_isNarrower 38 = .ok (.iload 6, 2) := by decide +kernel
theorem dX5_isNarrower_40 : decode cX5_isNarrower 40 = .ok (.iload 7, 2) := by decide +kernel
theorem dX5_isNarrower_42 : decode cX5_isNarrower 42 = .ok (.if_icmp .eq 5, 3) := by decide +kernel
theorem dX5_isNarrower_45 : decode cX5_isNarrower 45 = .ok (.iconst 0, 1) := by decide +kernel
theorem dX5_isNarrower_46 : decode cX5_isNarrower 46 = .ok (.ireturn, 1) := by decide +kernel
theorem dX5_isNarrower_47 : decode cX5_isNarrower 47 = .ok (.iload 6, 2) := by decide +kernel
theorem dX5_isNarrower_49 : decode cX5_isNarrower 49 = .ok (.ifCond .lt 9, 3) := by decide +kernel
theorem dX5_isNarrower_52 : decode cX5_isNarrower 52 = .ok (.iload_n 3, 1) := by decide +kernel
theorem dX5_isNarrower_53 : decode cX5_isNarrower 53 = .ok (.iconst 1, 1) := by decide +kernel
theorem dX5_isNarrower_54 : decode cX5_isNarrower 54 = .ok (.iadd, 1) := by decide +kernel
theorem dX5_isNarrower_55 : decode cX5_isNarrower 55 = .ok (.goto 4, 3) := by decide +kernel
theorem dX5_isNarrower_58 : decode cX5_isNarrower 58 = .ok (.iload_n 3, 1) := by decide +kernel
theorem dX5_isNarrower_59 : decode cX5_isNarrower 59 = .ok (.istore_n 3, 1) := by decide +kernel
theorem dX5_isNarrower_60 : decode cX5_isNarrower 60 = .ok (.iload 7, 2) := by decide +kernel
theorem dX5_isNarrower_62 : decode cX5_isNarrower 62 = .ok (.ifCond .lt 10, 3) := by decide +kernel
theorem dX5_isNarrower_65 : decode cX5_isNarrower 65 = .ok (.iload 4, 2) := by decide +kernel
theorem dX5_isNarrower_67 : decode cX5_isNarrower 67 = .ok (.iconst 1, 1) := by decide +kernel
theorem dX5_isNarrower_68 : decode cX5_isNarrower 68 = .ok (.iadd, 1) := by decide +kernel
theorem dX5_isNarrower_69 : decode cX5_isNarrower 69 = .ok (.goto 5, 3) := by decide +kernel
theorem dX5_isNarrower_72 : decode cX5_isNarrower 72 = .ok (.iload 4, 2) := by decide +kernel
theorem dX5_isNarrower_74 : decode cX5_isNarrower 74 = .ok (.istore 4, 2) := by decide +kernel
theorem dX5_isNarrower_76 : decode cX5_isNarrower 76 = .ok (.iinc 5 1, 3) := by decide +kernel
theorem dX5_isNarrower_79 : decode cX5_isNarrower 79 = .ok (.goto (-71), 3) := by decide +kernel
theorem dX5_isNarrower_82 : decode cX5_isNarrower 82 = .ok (.iload_n 3, 1) := by decide +kernel
theorem dX5_isNarrower_83 : decode cX5_isNarrower 83 = .ok (.iload 4, 2) := by decide +kernel
theorem dX5_isNarrower_85 : decode cX5_isNarrower 85 = .ok (.if_icmp .gt 24, 3) := by decide +kernel
theorem dX5_isNarrower_88 : decode cX5_isNarrower 88 = .ok (.iload_n 3, 1) := by decide +kernel
theorem dX5_isNarrower_89 : decode cX5_isNarrower 89 = .ok (.iload 4, 2) := by decide +kernel
theorem dX5_isNarrower_91 : decode cX5_isNarrower 91 = .ok (.if_icmp .ne 22, 3) := by decide +kernel
theorem dX5_isNarrower_94 : decode cX5_isNarrower 94 = .ok (.aload_n 0, 1) := by decide +kernel
theorem dX5_isNarrower_95 : decode cX5_isNarrower 95 = .ok (.getfield 17, 3) := by decide +kernel
theorem dX5_isNarrower_98 : decode cX5_isNarrower 98 = .ok (.iload_n 1, 1) := by decide +kernel
theorem dX5_isNarrower_99 : decode cX5_isNarrower 99 = .ok (.iaload, 1) := by decide +kernel
theorem dX5_isNarrower_100 : decode cX5_isNarrower 100 = .ok (.aload_n 0, 1) := by decide +kernel
theorem dX5_isNarrower_101 : decode cX5_isNarrower 101 = .ok (.getfield 17, 3) := by decide +kernel
theorem dX5_isNarrower_104 : decode cX5_isNarrower 104 = .ok (.iload_n 2, 1) := by decide +kernel
theorem dX5_isNarrower_105 : decode cX5_isNarrower 105 = .ok (.iaload, 1) := by decide +kernel
theorem dX5_isNarrower_106 : decode cX5_isNarrower 106 = .ok (.if_icmp .le 7, 3) := by decide +kernel
theorem dX5_isNarrower_109 : decode cX5_isNarrower 109 = .ok (.iconst 1, 1) := by decide +kernel
theorem dX5_isNarrower_110 : decode cX5_isNarrower 110 = .ok (.goto 4, 3) := by decide +kernel
theorem dX5_isNarrower_113 : decode cX5_isNarrower 113 = .ok (.iconst 0, 1) := by decide +kernel
theorem dX5_isNarrower_114 : decode cX5_isNarrower 114 = .ok (.ireturn, 1) := by decide +kernel
theorem dX5_clash_0 : decode cX5_clash 0 = .ok (.iconst 0, 1) := by decide +kernel
theorem dX5_clash_1 : decode cX5_clash 1 = .ok (.istore_n 3, 1) := by decide +kernel
theorem dX5_clash_2 : decode cX5_clash 2 = .ok (.iload_n 3, 1) := by decide +kernel
theorem dX5_clash_3 : decode cX5_clash 3 = .ok (.bipush 24, 2) := by decide +kernel
theorem dX5_clash_5 : decode cX5_clash 5 = .ok (.if_icmp .ge 44, 3) := by decide +kernel
theorem dX5_clash_8 : decode cX5_clash 8 = .ok (.aload_n 0, 1) := by decide +kernel
theorem dX5_clash_9 : decode cX5_clash 9 = .ok (.iload_n 1, 1) := by decide +kernel
theorem dX5_clash_10 : decode cX5_clash 10 = .ok (.iload_n 3, 1) := by decide +kernel
theorem dX5_clash_11 : decode cX5_clash 11 = .ok (.invokevirtual 131, 3) := by decide +kernel
theorem dX5_clash_14 : decode cX5_clash 14 = .ok (.istore 4, 2) := by decide +kernel
theorem dX5_clash_16 : decode cX5_clash 16 = .ok (.aload_n 0, 1) := by decide +kernel
theorem dX5_clash_17 : decode cX5_clash 17 = .ok (.iload_n 2, 1) := by decide +kernel
theorem dX5_clash_18 : decode cX5_clash 18 = .ok (.iload_n 3, 1) := by decide +kernel
theorem dX5_clash_19 : decode cX5_clash 19 = .ok (.invokevirtual 131, 3) := by decide +kernel
theorem dX5_clash_22 : decode cX5_clash 22 = .ok (.istore 5, 2) := by decide +kernel
theorem dX5_clash_24 : decode cX5_clash 24 = .ok (.iload 4, 2) := by decide +kernel
theorem dX5_clash_26 : decode cX5_clash 26 = .ok (.ifCond .lt 17, 3) := by decide +kernel
theorem dX5_clash_29 : decode cX5_clash 29 = .ok (.iload 5, 2) := by decide +kernel
theorem dX5_clash_31 : decode cX5_clash 31 = .ok (.ifCond .lt 12, 3) := by decide +kernel
theorem dX5_clash_34 : decode cX5_clash 34 = .ok (.iload 4, 2) := by decide +kernel
theorem dX5_clash_36 : decode cX5_clash 36 = .ok (.iload 5, 2) := by decide +kernel
theorem dX5_clash_38 : decode cX5_clash 38 = .ok (.if_icmp .eq 5, 3) := by decide +kernel
theorem dX5_clash_41 : decode cX5_clash 41 = .ok (.iconst 0, 1) := by decide +kernel
theorem dX5_clash_42 : decode cX5_clash 42 = .ok (.ireturn, 1) := by decide +kernel
theorem dX5_clash_43 : decode cX5_clash 43 = .ok (.iinc 3 1, 3) := by decide +kernel
theorem dX5_clash_46 : decode cX5_clash 46 = .ok (.goto (-44), 3) := by decide +kernel
theorem dX5_clash_49 : decode cX5_clash 49 = .ok (.aload_n 0, 1) := by decide +kernel
theorem dX5_clash_50 : decode cX5_clash 50 = .ok (.iload_n 1, 1) := by decide +kernel
theorem dX5_clash_51 : decode cX5_clash 51 = .ok (.iload_n 2, 1) := by decide +kernel
theorem dX5_clash_52 : decode cX5_clash 52 = .ok (.invokevirtual 134, 3) := by decide +kernel
theorem dX5_clash_55 : decode cX5_clash 55 = .ok (.ifCond .ne 16, 3) := by decide +kernel
theorem dX5_clash_58 : decode cX5_clash 58 = .ok (.aload_n 0, 1) := by decide +kernel
theorem dX5_clash_59 : decode cX5_clash 59 = .ok (.iload_n 2, 1) := by decide +kernel
theorem dX5_clash_60 : decode cX5_clash 60 = .ok (.iload_n 1, 1) := by decide +kernel
theorem dX5_clash_61 : decode cX5_clash 61 = .ok (.invokevirtual 134, 3) := by decide +kernel
theorem dX5_clash_64 : decode cX5_clash 64 = .ok (.ifCond .ne 7, 3) := by decide +kernel
theorem dX5_clash_67 : decode cX5_clash 67 = .ok (.iconst 1, 1) := by decide +kernel
theorem dX5_clash_68 : decode cX5_clash 68 = .ok (.goto 4, 3) := by decide +kernel
theorem dX5_clash_71 : decode cX5_clash 71 = .ok (.iconst 0, 1) := by decide +kernel
theorem dX5_clash_72 : decode cX5_clash 72 = .ok (.ireturn, 1) := by decide +kernel
theorem dX5_test_0 : decode cX5_test 0 = .ok (.aload_n 0, 1) := by decide +kernel
theorem dX5_test_1 : decode cX5_test 1 = .ok (.iconst 0, 1) := by decide +kernel
theorem dX5_test_2 : decode cX5_test 2 = .ok (.putfield 82, 3) := by decide +kernel
theorem dX5_test_5 : decode cX5_test 5 = .ok (.aload_n 0, 1) := by decide +kernel
theorem dX5_test_6 : decode cX5_test 6 = .ok (.iconst 0, 1) := by decide +kernel
theorem dX5_test_7 : decode cX5_test 7 = .ok (.putfield 124, 3) := by decide +kernel
theorem dX5_test_10 : decode cX5_test 10 = .ok (.iconst 0, 1) := by decide +kernel
theorem dX5_test_11 : decode cX5_test 11 = .ok (.istore_n 1, 1) := by decide +kernel
theorem dX5_test_12 : decode cX5_test 12 = .ok (.iload_n 1, 1) := by decide +kernel
theorem dX5_test_13 : decode cX5_test 13 = .ok (.aload_n 0, 1) := by decide +kernel
theorem dX5_test_14 : decode cX5_test 14 = .ok (.getfield 107, 3) := by decide +kernel
theorem dX5_test_17 : decode cX5_test 17 = .ok (.if_icmp .ge 45, 3) := by decide +kernel
theorem dX5_test_20 : decode cX5_test 20 = .ok (.iload_n 1, 1) := by decide +kernel
theorem dX5_test_21 : decode cX5_test 21 = .ok (.iconst 1, 1) := by decide +kernel
theorem dX5_test_22 : decode cX5_test 22 = .ok (.iadd, 1) := by decide +kernel
theorem dX5_test_23 : decode cX5_test 23 = .ok (.istore_n 2, 1) := by decide +kernel
theorem dX5_test_24 : decode cX5_test 24 = .ok (.iload_n 2, 1) := by decide +kernel
theorem dX5_test_25 : decode cX5_test 25 = .ok (.aload_n 0, 1) := by decide +kernel
theorem dX5_test_26 : decode cX5_test 26 = .ok (.getfield 107, 3) := by decide +kernel
theorem dX5_test_29 : decode cX5_test 29 = .ok (.if_icmp .ge 27, 3) := by decide +kernel
theorem dX5_test_32 : decode cX5_test 32 = .ok (.aload_n 0, 1) := by decide +kernel
theorem dX5_test_33 : decode cX5_test 33 = .ok (.iload_n 1, 1) := by decide +kernel
theorem dX5_test_34 : decode cX5_test 34 = .ok (.iload_n 2, 1) := by decide +kernel
theorem dX5_test_35 : decode cX5_test 35 = .ok (.invokevirtual 138, 3) := by decide +kernel
theorem dX5_test_38 : decode cX5_test 38 = .ok (.ifCond .eq 12, 3) := by decide +kernel
theorem dX5_test_41 : decode cX5_test 41 = .ok (.iconst 1, 1) := by decide +kernel
theorem dX5_test_42 : decode cX5_test 42 = .ok (.bipush 16, 2) := by decide +kernel
theorem dX5_test_44 : decode cX5_test 44 = .ok (.iload_n 1, 1) := by decide +kernel
theorem dX5_test_45 : decode cX5_test 45 = .ok (.imul, 1) := by decide +kernel
theorem dX5_test_46 : decode cX5_test 46 = .ok (.iadd, 1) := by decide +kernel
theorem dX5_test_47 : decode cX5_test 47 = .ok (.iload_n 2, 1) := by decide +kernel
theorem dX5_test_48 : decode cX5_test 48 = .ok (.iadd, 1) := by decide +kernel
theorem dX5_test_49 : decode cX5_test 49 = .ok (.ireturn, 1) := by decide +kernel
theorem dX5_test_50 : decode cX5_test 50 = .ok (.iinc 2 1, 3) := by decide +kernel
theorem dX5_test_53 : decode cX5_test 53 = .ok (.goto (-29), 3) := by decide +kernel
theorem dX5_test_56 : decode cX5_test 56 = .ok (.iinc 1 1, 3) := by decide +kernel
theorem dX5_test_59 : decode cX5_test 59 = .ok (.goto (-47), 3) := by decide +kernel
theorem dX5_test_62 : decode cX5_test 62 = .ok (.aload_n 0, 1) := by decide +kernel
theorem dX5_test_63 : decode cX5_test 63 = .ok (.iconst 1, 1) := by decide +kernel
theorem dX5_test_64 : decode cX5_test 64 = .ok (.putfield 124, 3) := by decide +kernel
theorem dX5_test_67 : decode cX5_test 67 = .ok (.iconst 0, 1) := by decide +kernel
theorem dX5_test_68 : decode cX5_test 68 = .ok (.ireturn, 1) := by decide +kernel
theorem dX5_poke_0 : decode cX5_poke 0 = .ok (.aload_n 0, 1) := by decide +kernel
theorem dX5_poke_1 : decode cX5_poke 1 = .ok (.iload_n 1, 1) := by decide +kernel
theorem dX5_poke_2 : decode cX5_poke 2 = .ok (.iconst 0, 1) := by decide +kernel
theorem dX5_poke_3 : decode cX5_poke 3 = .ok (.bipush 63, 2) := by decide +kernel
theorem dX5_poke_5 : decode cX5_poke 5 = .ok (.invokestatic 127, 3) := by decide +kernel
theorem dX5_poke_8 : decode cX5_poke 8 = .ok (.ifCond .eq 7, 3) := by decide +kernel
theorem dX5_poke_11 : decode cX5_poke 11 = .ok (.iconst 1, 1) := by decide +kernel
theorem dX5_poke_12 : decode cX5_poke 12 = .ok (.goto 4, 3) := by decide +kernel
theorem dX5_poke_15 : decode cX5_poke 15 = .ok (.iconst 0, 1) := by decide +kernel
theorem dX5_poke_16 : decode cX5_poke 16 = .ok (.putfield 82, 3) := by decide +kernel
theorem dX5_poke_19 : decode cX5_poke 19 = .ok (.aload_n 0, 1) := by decide +kernel
theorem dX5_poke_20 : decode cX5_poke 20 = .ok (.getfield 82, 3) := by decide +kernel
theorem dX5_poke_23 : decode cX5_poke 23 = .ok (.ifCond .eq 5, 3) := by decide +kernel
theorem dX5_poke_26 : decode cX5_poke 26 = .ok (.iconst 0, 1) := by decide +kernel
theorem dX5_poke_27 : decode cX5_poke 27 = .ok (.ireturn, 1) := by decide +kernel
theorem dX5_poke_28 : decode cX5_poke 28 = .ok (.aload_n 0, 1) := by decide +kernel
theorem dX5_poke_29 : decode cX5_poke 29 = .ok (.getfield 44, 3) := by decide +kernel
theorem dX5_poke_32 : decode cX5_poke 32 = .ok (.iload_n 1, 1) := by decide +kernel
theorem dX5_poke_33 : decode cX5_poke 33 = .ok (.iaload, 1) := by decide +kernel
theorem dX5_poke_34 : decode cX5_poke 34 = .ok (.istore_n 3, 1) := by decide +kernel
theorem dX5_poke_35 : decode cX5_poke 35 = .ok (.aload_n 0, 1) := by decide +kernel
theorem dX5_poke_36 : decode cX5_poke 36 = .ok (.getfield 44, 3) := by decide +kernel
theorem dX5_poke_39 : decode cX5_poke 39 = .ok (.iload_n 1, 1) := by decide +kernel
theorem dX5_poke_40 : decode cX5_poke 40 = .ok (.iload_n 2, 1) := by decide +kernel
theorem dX5_poke_41 : decode cX5_poke 41 = .ok (.sipush 255, 3) := by decide +kernel
theorem dX5_poke_44 : decode cX5_poke 44 = .ok (.iand, 1) := by decide +kernel
theorem dX5_poke_45 : decode cX5_poke 45 = .ok (.iastore, 1) := by decide +kernel
theorem dX5_poke_46 : decode cX5_poke 46 = .ok (.iload_n 3, 1) := by decide +kernel
theorem dX5_poke_47 : decode cX5_poke 47 = .ok (.ireturn, 1) := by decide +kernel
theorem dX5_peek_0 : decode cX5_peek 0 = .ok (.aload_n 0, 1) := by decide +kernel
theorem dX5_peek_1 : decode cX5_peek 1 = .ok (.iload_n 1, 1) := by decide +kernel
theorem dX5_peek_2 : decode cX5_peek 2 = .ok (.iconst 0, 1) := by decide +kernel
theorem dX5_peek_3 : decode cX5_peek 3 = .ok (.bipush 63, 2) := by decide +kernel
theorem dX5_peek_5 : decode cX5_peek 5 = .ok (.invokestatic 127, 3) := by decide +kernel
theorem dX5_peek_8 : decode cX5_peek 8 = .ok (.ifCond .eq 7, 3) := by decide +kernel
theorem dX5_peek_11 : decode cX5_peek 11 = .ok (.iconst 1, 1) := by decide +kernel
theorem dX5_peek_12 : decode cX5_peek 12 = .ok (.goto 4, 3) := by decide +kernel
theorem dX5_peek_15 : decode cX5_peek 15 = .ok (.iconst 0, 1) := by decide +kernel
theorem dX5_peek_16 : decode cX5_peek 16 = .ok (.putfield 82, 3) := by decide +kernel
theorem dX5_peek_19 : decode cX5_peek 19 = .ok (.aload_n 0, 1) := by decide +kernel
theorem dX5_peek_20 : decode cX5_peek 20 = .ok (.getfield 82, 3) := by decide +kernel
theorem dX5_peek_23 : decode cX5_peek 23 = .ok (.ifCond .ne 12, 3) := by decide +kernel
theorem dX5_peek_26 : decode cX5_peek 26 = .ok (.aload_n 0, 1) := by decide +kernel
theorem dX5_peek_27 : decode cX5_peek 27 = .ok (.getfield 44, 3) := by decide +kernel
theorem dX5_peek_30 : decode cX5_peek 30 = .ok (.iload_n 1, 1) := by decide +kernel
theorem dX5_peek_31 : decode cX5_peek 31 = .ok (.iaload, 1) := by decide +kernel
theorem dX5_peek_32 : decode cX5_peek 32 = .ok (.goto 4, 3) := by decide +kernel
theorem dX5_peek_35 : decode cX5_peek 35 = .ok (.iconst 0, 1) := by decide +kernel
theorem dX5_peek_36 : decode cX5_peek 36 = .ok (.ireturn, 1) := by decide +kernel
theorem dX5_bitAt_0 : decode cX5_bitAt 0 = .ok (.aload_n 0, 1) := by decide +kernel
theorem dX5_bitAt_1 : decode cX5_bitAt 1 = .ok (.getfield 44, 3) := by decide +kernel
theorem dX5_bitAt_4 : decode cX5_bitAt 4 = .ok (.iload_n 1, 1) := by decide +kernel
theorem dX5_bitAt_5 : decode cX5_bitAt 5 = .ok (.iload_n 2, 1) := by decide +kernel
theorem dX5_bitAt_6 : decode cX5_bitAt 6 = .ok (.bipush 8, 2) := by decide +kernel
theorem dX5_bitAt_8 : decode cX5_bitAt 8 = .ok (.idiv, 1) := by decide +kernel
theorem dX5_bitAt_9 : decode cX5_bitAt 9 = .ok (.iadd, 1) := by decide +kernel
theorem dX5_bitAt_10 : decode cX5_bitAt 10 = .ok (.iaload, 1) := by decide +kernel
theorem dX5_bitAt_11 : decode cX5_bitAt 11 = .ok (.bipush 7, 2) := by decide +kernel
theorem dX5_bitAt_13 : decode cX5_bitAt 13 = .ok (.iload_n 2, 1) := by decide +kernel
theorem dX5_bitAt_14 : decode cX5_bitAt 14 = .ok (.bipush 8, 2) := by decide +kernel
theorem dX5_bitAt_16 : decode cX5_bitAt 16 = .ok (.irem, 1) := by decide +kernel
theorem dX5_bitAt_17 : decode cX5_bitAt 17 = .ok (.isub, 1) := by decide +kernel
theorem dX5_bitAt_18 : decode cX5_bitAt 18 = .ok (.ishr, 1) := by decide +kernel
theorem dX5_bitAt_19 : decode cX5_bitAt 19 = .ok (.iconst 1, 1) := by decide +kernel
theorem dX5_bitAt_20 : decode cX5_bitAt 20 = .ok (.iand, 1) := by decide +kernel
theorem dX5_bitAt_21 : decode cX5_bitAt 21 = .ok (.ireturn, 1) := by decide +kernel
theorem dX5_matches_0 : decode cX5_matches 0 = .ok (.iload_n 2, 1) := by decide +kernel
theorem dX5_matches_1 : decode cX5_matches 1 = .ok (.aload_n 0, 1) := by decide +kernel
theorem dX5_matches_2 : decode cX5_matches 2 = .ok (.getfield 17, 3) := by decide +kernel
theorem dX5_matches_5 : decode cX5_matches 5 = .ok (.iload_n 1, 1) := by decide +kernel
theorem dX5_matches_6 : decode cX5_matches 6 = .ok (.iaload, 1) := by decide +kernel
theorem dX5_matches_7 : decode cX5_matches 7 = .ok (.bipush 8, 2) := by decide +kernel
theorem dX5_matches_9 : decode cX5_matches 9 = .ok (.idiv, 1) := by decide +kernel
theorem dX5_matches_10 : decode cX5_matches 10 = .ok (.iadd, 1) := by decide +kernel
theorem dX5_matches_11 : decode cX5_matches 11 = .ok (.bipush 64, 2) := by decide +kernel
theorem dX5_matches_13 : decode cX5_matches 13 = .ok (.if_icmp .le 5, 3) := by decide +kernel
theorem dX5_matches_16 : decode cX5_matches 16 = .ok (.iconst 0, 1) := by decide +kernel
theorem dX5_matches_17 : decode cX5_matches 17 = .ok (.ireturn, 1) := by decide +kernel
theorem dX5_matches_18 : decode cX5_matches 18 = .ok (.iconst 0, 1) := by decide +kernel
theorem dX5_matches_19 : decode cX5_matches 19 = .ok (.istore_n 3, 1) := by decide +kernel
theorem dX5_matches_20 : decode cX5_matches 20 = .ok (.iload_n 3, 1) := by decide +kernel
theorem dX5_matches_21 : decode cX5_matches 21 = .ok (.aload_n 0, 1) := by decide +kernel
theorem dX5_matches_22 : decode cX5_matches 22 = .ok (.getfield 17, 3) := by decide +kernel
theorem dX5_matches_25 : decode cX5_matches 25 = .ok (.iload_n 1, 1) := by decide +kernel
theorem dX5_matches_26 : decode cX5_matches 26 = .ok (.iaload, 1) := by decide +kernel
theorem dX5_matches_27 : decode cX5_matches 27 = .ok (.if_icmp .ge 35, 3) := by decide +kernel
theorem dX5_matches_30 : decode cX5_matches 30 = .ok (.aload_n 0, 1) := by decide +kernel
theorem dX5_matches_31 : decode cX5_matches 31 = .ok (.iload_n 1, 1) := by decide +kernel
theorem dX5_matches_32 : decode cX5_matches 32 = .ok (.iload_n 3, 1) := by decide +kernel
theorem dX5_matches_33 : decode cX5_matches 33 = .ok (.invokevirtual 131, 3) := by decide +kernel
theorem dX5_matches_36 : decode cX5_matches 36 = .ok (.ifCond .lt 20, 3) := by decide +kernel
theorem dX5_matches_39 : decode cX5_matches 39 = .ok (.aload_n 0, 1) := by decide +kernel
theorem dX5_matches_40 : decode cX5_matches 40 = .ok (.iload_n 1, 1) := by decide +kernel
theorem dX5_matches_41 : decode cX5_matches 41 = .ok (.iload_n 3, 1) := by decide +kernel
theorem dX5_matches_42 : decode cX5_matches 42 = .ok (.invokevirtual 131, 3) := by decide +kernel
theorem dX5_matches_45 : decode cX5_matches 45 = .ok (.aload_n 0, 1) := by decide +kernel
theorem dX5_matches_46 : decode cX5_matches 46 = .ok (.iload_n 2, 1) := by decide +kernel
theorem dX5_matches_47 : decode cX5_matches 47 = .ok (.iload_n 3, 1) := by decide +kernel
theorem dX5_matches_48 : decode cX5_matches 48 = .ok (.invokevirtual 141, 3) := by decide +kernel
theorem dX5_matches_51 : decode cX5_matches 51 = .ok (.if_icmp .eq 5, 3) := by decide +kernel
theorem dX5_matches_54 : decode cX5_matches 54 = .ok (.iconst 0, 1) := by decide +kernel
theorem dX5_matches_55 : decode cX5_matches 55 = .ok (.ireturn, 1) := by decide +kernel
theorem dX5_matches_56 : decode cX5_matches 56 = .ok (.iinc 3 1, 3) := by decide +kernel
theorem dX5_matches_59 : decode cX5_matches 59 = .ok (.goto (-39), 3) := by decide +kernel
theorem dX5_matches_62 : decode cX5_matches 62 = .ok (.iconst 1, 1) := by decide +kernel
theorem dX5_matches_63 : decode cX5_matches 63 = .ok (.ireturn, 1) := by decide +kernel
theorem dX5_decoded_0 : decode cX5_decoded 0 = .ok (.iconst (-1), 1) := by decide +kernel
theorem dX5_decoded_1 : decode cX5_decoded 1 = .ok (.istore_n 2, 1) := by decide +kernel
theorem dX5_decoded_2 : decode cX5_decoded 2 = .ok (.iconst 0, 1) := by decide +kernel
theorem dX5_decoded_3 : decode cX5_decoded 3 = .ok (.istore_n 3, 1) := by decide +kernel
theorem dX5_decoded_4 : decode cX5_decoded 4 = .ok (.iload_n 3, 1) := by decide +kernel
theorem dX5_decoded_5 : decode cX5_decoded 5 = .ok (.aload_n 0, 1) := by decide +kernel
theorem dX5_decoded_6 : decode cX5_decoded 6 = .ok (.getfield 107, 3) := by decide +kernel
theorem dX5_decoded_9 : decode cX5_decoded 9 = .ok (.if_icmp .ge 33, 3) := by decide +kernel
theorem dX5_decoded_12 : decode cX5_decoded 12 = .ok (.aload_n 0, 1) := by decide +kernel
theorem dX5_decoded_13 : decode cX5_decoded 13 = .ok (.iload_n 3, 1) := by decide +kernel
theorem dX5_decoded_14 : decode cX5_decoded 14 = .ok (.iload_n 1, 1) := by decide +kernel
theorem dX5_decoded_15 : decode cX5_decoded 15 = .ok (.invokevirtual 144, 3) := by decide +kernel
theorem dX5_decoded_18 : decode cX5_decoded 18 = .ok (.ifCond .eq 18, 3) := by decide +kernel
theorem dX5_decoded_21 : decode cX5_decoded 21 = .ok (.iload_n 2, 1) := by decide +kernel
theorem dX5_decoded_22 : decode cX5_decoded 22 = .ok (.ifCond .lt 12, 3) := by decide +kernel
theorem dX5_decoded_25 : decode cX5_decoded 25 = .ok (.aload_n 0, 1) := by decide +kernel
theorem dX5_decoded_26 : decode cX5_decoded 26 = .ok (.iload_n 3, 1) := by decide +kernel
theorem dX5_decoded_27 : decode cX5_decoded 27 = .ok (.iload_n 2, 1) := by decide +kernel
theorem dX5_decoded_28 : decode cX5_decoded 28 = .ok (.invokevirtual 134, 3) := by decide +kernel
theorem dX5_decoded_31 : decode cX5_decoded 31 = .ok (.ifCond .eq 5, 3) := by decide +kernel
theorem dX5_decoded_34 : decode cX5_decoded 34 = .ok (.iload_n 3, 1) := by decide +kernel
theorem dX5_decoded_35 : decode cX5_decoded 35 = .ok (.istore_n 2, 1) := by decide +kernel
theorem dX5_decoded_36 : decode cX5_decoded 36 = .ok (.iinc 3 1, 3) := by decide +kernel
theorem dX5_decoded_39 : decode cX5_decoded 39 = .ok (.goto (-35), 3) := by decide +kernel
theorem dX5_decoded_42 : decode cX5_decoded 42 = .ok (.iload_n 2, 1) := by decide +kernel
theorem dX5_decoded_43 : decode cX5_decoded 43 = .ok (.ireturn, 1) := by decide +kernel
theorem dX5_wrongAddress_0 : decode cX5_wrongAddress 0 = .ok (.aload_n 0, 1) := by decide +kernel
theorem dX5_wrongAddress_1 : decode cX5_wrongAddress 1 = .ok (.getfield 124, 3) := by decide +kernel
theorem dX5_wrongAddress_4 : decode cX5_wrongAddress 4 = .ok (.ifCond .ne 7, 3) := by decide +kernel
theorem dX5_wrongAddress_7 : decode cX5_wrongAddress 7 = .ok (.iconst 1, 1) := by decide +kernel
theorem dX5_wrongAddress_8 : decode cX5_wrongAddress 8 = .ok (.goto 18, 3) := by decide +kernel
theorem dX5_wrongAddress_11 : decode cX5_wrongAddress 11 = .ok (.iload_n 1, 1) := by decide +kernel
theorem dX5_wrongAddress_12 : decode cX5_wrongAddress 12 = .ok (.iconst 0, 1) := by decide +kernel
theorem dX5_wrongAddress_13 : decode cX5_wrongAddress 13 = .ok (.bipush 63, 2) := by decide +kernel
theorem dX5_wrongAddress_15 : decode cX5_wrongAddress 15 = .ok (.invokestatic 127, 3) := by decide +kernel
theorem dX5_wrongAddress_18 : decode cX5_wrongAddress 18 = .ok (.ifCond .eq 7, 3) := by decide +kernel
theorem dX5_wrongAddress_21 : decode cX5_wrongAddress 21 = .ok (.iconst 2, 1) := by decide +kernel
theorem dX5_wrongAddress_22 : decode cX5_wrongAddress 22 = .ok (.goto 4, 3) := by decide +kernel
theorem dX5_wrongAddress_25 : decode cX5_wrongAddress 25 = .ok (.iconst 0, 1) := by decide +kernel
theorem dX5_wrongAddress_26 : decode cX5_wrongAddress 26 = .ok (.ireturn, 1) := by decide +kernel
theorem dX5_decode_0 : decode cX5_decode 0 = .ok (.aload_n 0, 1) := by decide +kernel
theorem dX5_decode_1 : decode cX5_decode 1 = .ok (.aload_n 0, 1) := by decide +kernel
theorem dX5_decode_2 : decode cX5_decode 2 = .ok (.iload_n 1, 1) := by decide +kernel
theorem dX5_decode_3 : decode cX5_decode 3 = .ok (.invokevirtual 147, 3) := by decide +kernel
theorem dX5_decode_6 : decode cX5_decode 6 = .ok (.putfield 82, 3) := by decide +kernel
theorem dX5_decode_9 : decode cX5_decode 9 = .ok (.aload_n 0, 1) := by decide +kernel
theorem dX5_decode_10 : decode cX5_decode 10 = .ok (.getfield 82, 3) := by decide +kernel
theorem dX5_decode_13 : decode cX5_decode 13 = .ok (.ifCond .ne 11, 3) := by decide +kernel
theorem dX5_decode_16 : decode cX5_decode 16 = .ok (.aload_n 0, 1) := by decide +kernel
theorem dX5_decode_17 : decode cX5_decode 17 = .ok (.iload_n 1, 1) := by decide +kernel
theorem dX5_decode_18 : decode cX5_decode 18 = .ok (.invokevirtual 150, 3) := by decide +kernel
theorem dX5_decode_21 : decode cX5_decode 21 = .ok (.goto 4, 3) := by decide +kernel
theorem dX5_decode_24 : decode cX5_decode 24 = .ok (.iconst 0, 1) := by decide +kernel
theorem dX5_decode_25 : decode cX5_decode 25 = .ok (.ireturn, 1) := by decide +kernel
theorem dX5_valueOf_0 : decode cX5_valueOf 0 = .ok (.iconst 0, 1) := by decide +kernel
theorem dX5_valueOf_1 : decode cX5_valueOf 1 = .ok (.istore 4, 2) := by decide +kernel
theorem dX5_valueOf_3 : decode cX5_valueOf 3 = .ok (.iconst (-1), 1) := by decide +kernel
theorem dX5_valueOf_4 : decode cX5_valueOf 4 = .ok (.istore 5, 2) := by decide +kernel
theorem dX5_valueOf_6 : decode cX5_valueOf 6 = .ok (.iconst 0, 1) := by decide +kernel
theorem dX5_valueOf_7 : decode cX5_valueOf 7 = .ok (.istore 6, 2) := by decide +kernel
theorem dX5_valueOf_9 : decode cX5_valueOf 9 = .ok (.iload 6, 2) := by decide +kernel
theorem dX5_valueOf_11 : decode cX5_valueOf 11 = .ok (.aload_n 0, 1) := by decide +kernel
theorem dX5_valueOf_12 : decode cX5_valueOf 12 = .ok (.getfield 17, 3) := by decide +kernel
theorem dX5_valueOf_15 : decode cX5_valueOf 15 = .ok (.iload_n 1, 1) := by decide +kernel
theorem dX5_valueOf_16 : decode cX5_valueOf 16 = .ok (.iaload, 1) := by decide +kernel
theorem dX5_valueOf_17 : decode cX5_valueOf 17 = .ok (.if_icmp .ge 59, 3) := by decide +kernel
theorem dX5_valueOf_20 : decode cX5_valueOf 20 = .ok (.aload_n 0, 1) := by decide +kernel
theorem dX5_valueOf_21 : decode cX5_valueOf 21 = .ok (.getfield 20, 3) := by decide +kernel
theorem dX5_valueOf_24 : decode cX5_valueOf 24 = .ok (.bipush 24, 2) := by decide +kernel
theorem dX5_valueOf_26 : decode cX5_valueOf 26 = .ok (.iload_n 1, 1) := by decide +kernel
theorem dX5_valueOf_27 : decode cX5_valueOf 27 = .ok (.imul, 1) := by decide +kernel
theorem dX5_valueOf_28 : decode cX5_valueOf 28 = .ok (.iload 6, 2) := by decide +kernel
theorem dX5_valueOf_30 : decode cX5_valueOf 30 = .ok (.iadd, 1) := by decide +kernel
theorem dX5_valueOf_31 : decode cX5_valueOf 31 = .ok (.iaload, 1) := by decide +kernel
theorem dX5_valueOf_32 : decode cX5_valueOf 32 = .ok (.iconst 2, 1) := by decide +kernel
theorem dX5_valueOf_33 : decode cX5_valueOf 33 = .ok (.iload_n 3, 1) := by decide +kernel
theorem dX5_valueOf_34 : decode cX5_valueOf 34 = .ok (.iadd, 1) := by decide +kernel
theorem dX5_valueOf_35 : decode cX5_valueOf 35 = .ok (.if_icmp .ne 35, 3) := by decide +kernel
theorem dX5_valueOf_38 : decode cX5_valueOf 38 = .ok (.aload_n 0, 1) := by decide +kernel
theorem dX5_valueOf_39 : decode cX5_valueOf 39 = .ok (.iload_n 2, 1) := by decide +kernel
theorem dX5_valueOf_40 : decode cX5_valueOf 40 = .ok (.iload 6, 2) := by decide +kernel
theorem dX5_valueOf_42 : decode cX5_valueOf 42 = .ok (.invokevirtual 141, 3) := by decide +kernel
theorem dX5_valueOf_45 : decode cX5_valueOf 45 = .ok (.istore 7, 2) := by decide +kernel
theorem dX5_valueOf_47 : decode cX5_valueOf 47 = .ok (.iload 5, 2) := by decide +kernel
theorem dX5_valueOf_49 : decode cX5_valueOf 49 = .ok (.ifCond .ge 8, 3) := by decide +kernel
theorem dX5_valueOf_52 : decode cX5_valueOf 52 = .ok (.iload 7, 2) := by decide +kernel
theorem dX5_valueOf_54 : decode cX5_valueOf 54 = .ok (.goto 5, 3) := by decide +kernel
theorem dX5_valueOf_57 : decode cX5_valueOf 57 = .ok (.iload 5, 2) := by decide +kernel
theorem dX5_valueOf_59 : decode cX5_valueOf 59 = .ok (.istore 5, 2) := by decide +kernel
theorem dX5_valueOf_61 : decode cX5_valueOf 61 = .ok (.iconst 2, 1) := by decide +kernel
theorem dX5_valueOf_62 : decode cX5_valueOf 62 = .ok (.iload 4, 2) := by decide +kernel
theorem dX5_valueOf_64 : decode cX5_valueOf 64 = .ok (.imul, 1) := by decide +kernel
theorem dX5_valueOf_65 : decode cX5_valueOf 65 = .ok (.iload 7, 2) := by decide +kernel
theorem dX5_valueOf_67 : decode cX5_valueOf 67 = .ok (.iadd, 1) := by decide +kernel
theorem dX5_valueOf_68 : decode cX5_valueOf 68 = .ok (.istore 4, 2) := by decide +kernel
theorem dX5_valueOf_70 : decode cX5_valueOf 70 = .ok (.iinc 6 1, 3) := by decide +kernel
theorem dX5_valueOf_73 : decode cX5_valueOf 73 = .ok (.goto (-64), 3) := by decide +kernel
theorem dX5_valueOf_76 : decode cX5_valueOf 76 = .ok (.iconst 3, 1) := by decide +kernel
theorem dX5_valueOf_77 : decode cX5_valueOf 77 = .ok (.iload_n 1, 1) := by decide +kernel
theorem dX5_valueOf_78 : decode cX5_valueOf 78 = .ok (.imul, 1) := by decide +kernel
theorem dX5_valueOf_79 : decode cX5_valueOf 79 = .ok (.iload_n 3, 1) := by decide +kernel
theorem dX5_valueOf_80 : decode cX5_valueOf 80 = .ok (.iadd, 1) := by decide +kernel
theorem dX5_valueOf_81 : decode cX5_valueOf 81 = .ok (.istore 6, 2) := by decide +kernel
theorem dX5_valueOf_83 : decode cX5_valueOf 83 = .ok (.aload_n 0, 1) := by decide +kernel
theorem dX5_valueOf_84 : decode cX5_valueOf 84 = .ok (.getfield 29, 3) := by decide +kernel
theorem dX5_valueOf_87 : decode cX5_valueOf 87 = .ok (.iload 6, 2) := by decide +kernel
theorem dX5_valueOf_89 : decode cX5_valueOf 89 = .ok (.iaload, 1) := by decide +kernel
theorem dX5_valueOf_90 : decode cX5_valueOf 90 = .ok (.ifCond .le 24, 3) := by decide +kernel
theorem dX5_valueOf_93 : decode cX5_valueOf 93 = .ok (.iload 5, 2) := by decide +kernel
theorem dX5_valueOf_95 : decode cX5_valueOf 95 = .ok (.iconst 1, 1) := by decide +kernel
theorem dX5_valueOf_96 : decode cX5_valueOf 96 = .ok (.if_icmp .ne 18, 3) := by decide +kernel
theorem dX5_valueOf_99 : decode cX5_valueOf 99 = .ok (.iload 4, 2) := by decide +kernel
theorem dX5_valueOf_101 : decode cX5_valueOf 101 = .ok (.iconst 1, 1) := by decide +kernel
theorem dX5_valueOf_102 : decode cX5_valueOf 102 = .ok (.aload_n 0, 1) := by decide +kernel
theorem dX5_valueOf_103 : decode cX5_valueOf 103 = .ok (.getfield 26, 3) := by decide +kernel
theorem dX5_valueOf_106 : decode cX5_valueOf 106 = .ok (.iload 6, 2) := by decide +kernel
theorem dX5_valueOf_108 : decode cX5_valueOf 108 = .ok (.iaload, 1) := by decide +kernel
theorem dX5_valueOf_109 : decode cX5_valueOf 109 = .ok (.ishl, 1) := by decide +kernel
theorem dX5_valueOf_110 : decode cX5_valueOf 110 = .ok (.isub, 1) := by decide +kernel
theorem dX5_valueOf_111 : decode cX5_valueOf 111 = .ok (.goto 5, 3) := by decide +kernel
theorem dX5_valueOf_114 : decode cX5_valueOf 114 = .ok (.iload 4, 2) := by decide +kernel
theorem dX5_valueOf_116 : decode cX5_valueOf 116 = .ok (.istore 4, 2) := by decide +kernel
theorem dX5_valueOf_118 : decode cX5_valueOf 118 = .ok (.iload 4, 2) := by decide +kernel
theorem dX5_valueOf_120 : decode cX5_valueOf 120 = .ok (.aload_n 0, 1) := by decide +kernel
theorem dX5_valueOf_121 : decode cX5_valueOf 121 = .ok (.getfield 32, 3) := by decide +kernel
theorem dX5_valueOf_124 : decode cX5_valueOf 124 = .ok (.iload 6, 2) := by decide +kernel
theorem dX5_valueOf_126 : decode cX5_valueOf 126 = .ok (.iaload, 1) := by decide +kernel
theorem dX5_valueOf_127 : decode cX5_valueOf 127 = .ok (.imul, 1) := by decide +kernel
theorem dX5_valueOf_128 : decode cX5_valueOf 128 = .ok (.aload_n 0, 1) := by decide +kernel
theorem dX5_valueOf_129 : decode cX5_valueOf 129 = .ok (.getfield 35, 3) := by decide +kernel
theorem dX5_valueOf_132 : decode cX5_valueOf 132 = .ok (.iload 6, 2) := by decide +kernel
theorem dX5_valueOf_134 : decode cX5_valueOf 134 = .ok (.iaload, 1) := by decide +kernel
theorem dX5_valueOf_135 : decode cX5_valueOf 135 = .ok (.iadd, 1) := by decide +kernel
theorem dX5_valueOf_136 : decode cX5_valueOf 136 = .ok (.aload_n 0, 1) := by decide +kernel
theorem dX5_valueOf_137 : decode cX5_valueOf 137 = .ok (.getfield 29, 3) := by decide +kernel
theorem dX5_valueOf_140 : decode cX5_valueOf 140 = .ok (.iload 6, 2) := by decide +kernel
theorem dX5_valueOf_142 : decode cX5_valueOf 142 = .ok (.iaload, 1) := by decide +kernel
theorem dX5_valueOf_143 : decode cX5_valueOf 143 = .ok (.iconst 2, 1) := by decide +kernel
theorem dX5_valueOf_144 : decode cX5_valueOf 144 = .ok (.if_icmp .ne 17, 3) := by decide +kernel
theorem dX5_valueOf_147 : decode cX5_valueOf 147 = .ok (.iload_n 2, 1) := by decide +kernel
theorem dX5_valueOf_148 : decode cX5_valueOf 148 = .ok (.aload_n 0, 1) := by decide +kernel
theorem dX5_valueOf_149 : decode cX5_valueOf 149 = .ok (.getfield 17, 3) := by decide +kernel
theorem dX5_valueOf_152 : decode cX5_valueOf 152 = .ok (.iload_n 1, 1) := by decide +kernel
theorem dX5_valueOf_153 : decode cX5_valueOf 153 = .ok (.iaload, 1) := by decide +kernel
theorem dX5_valueOf_154 : decode cX5_valueOf 154 = .ok (.bipush 8, 2) := by decide +kernel
theorem dX5_valueOf_156 : decode cX5_valueOf 156 = .ok (.idiv, 1) := by decide +kernel
theorem dX5_valueOf_157 : decode cX5_valueOf 157 = .ok (.iadd, 1) := by decide +kernel
theorem dX5_valueOf_158 : decode cX5_valueOf 158 = .ok (.goto 4, 3) := by decide +kernel
theorem dX5_valueOf_161 : decode cX5_valueOf 161 = .ok (.iconst 0, 1) := by decide +kernel
theorem dX5_valueOf_162 : decode cX5_valueOf 162 = .ok (.iadd, 1) := by decide +kernel
theorem dX5_valueOf_163 : decode cX5_valueOf 163 = .ok (.ireturn, 1) := by decide +kernel
theorem dX5_value_0 : decode cX5_value 0 = .ok (.aload_n 0, 1) := by decide +kernel
theorem dX5_value_1 : decode cX5_value 1 = .ok (.aload_n 0, 1) := by decide +kernel
theorem dX5_value_2 : decode cX5_value 2 = .ok (.iload_n 1, 1) := by decide +kernel
theorem dX5_value_3 : decode cX5_value 3 = .ok (.invokevirtual 147, 3) := by decide +kernel
theorem dX5_value_6 : decode cX5_value 6 = .ok (.putfield 82, 3) := by decide +kernel
theorem dX5_value_9 : decode cX5_value 9 = .ok (.aload_n 0, 1) := by decide +kernel
theorem dX5_value_10 : decode cX5_value 10 = .ok (.getfield 82, 3) := by decide +kernel
theorem dX5_value_13 : decode cX5_value 13 = .ok (.ifCond .ne 11, 3) := by decide +kernel
theorem dX5_value_16 : decode cX5_value 16 = .ok (.aload_n 0, 1) := by decide +kernel
theorem dX5_value_17 : decode cX5_value 17 = .ok (.iload_n 1, 1) := by decide +kernel
theorem dX5_value_18 : decode cX5_value 18 = .ok (.invokevirtual 150, 3) := by decide +kernel
theorem dX5_value_21 : decode cX5_value 21 = .ok (.goto 4, 3) := by decide +kernel
theorem dX5_value_24 : decode cX5_value 24 = .ok (.iconst (-1), 1) := by decide +kernel
theorem dX5_value_25 : decode cX5_value 25 = .ok (.istore_n 3, 1) := by decide +kernel
theorem dX5_value_26 : decode cX5_value 26 = .ok (.aload_n 0, 1) := by decide +kernel
theorem dX5_value_27 : decode cX5_value 27 = .ok (.aload_n 0, 1) := by decide +kernel
theorem dX5_value_28 : decode cX5_value 28 = .ok (.getfield 82, 3) := by decide +kernel
theorem dX5_value_31 : decode cX5_value 31 = .ok (.ifCond .ne 25, 3) := by decide +kernel
theorem dX5_value_34 : decode cX5_value 34 = .ok (.iload_n 3, 1) := by decide +kernel
theorem dX5_value_35 : decode cX5_value 35 = .ok (.ifCond .lt 17, 3) := by decide +kernel
theorem dX5_value_38 : decode cX5_value 38 = .ok (.iload_n 2, 1) := by decide +kernel
theorem dX5_value_39 : decode cX5_value 39 = .ok (.ifCond .lt 13, 3) := by decide +kernel
theorem dX5_value_42 : decode cX5_value 42 = .ok (.iload_n 2, 1) := by decide +kernel
theorem dX5_value_43 : decode cX5_value 43 = .ok (.aload_n 0, 1) := by decide +kernel
theorem dX5_value_44 : decode cX5_value 44 = .ok (.getfield 23, 3) := by decide +kernel
theorem dX5_value_47 : decode cX5_value 47 = .ok (.iload_n 3, 1) := by decide +kernel
theorem dX5_value_48 : decode cX5_value 48 = .ok (.iaload, 1) := by decide +kernel
theorem dX5_value_49 : decode cX5_value 49 = .ok (.if_icmp .lt 7, 3) := by decide +kernel
theorem dX5_value_52 : decode cX5_value 52 = .ok (.iconst 2, 1) := by decide +kernel
theorem dX5_value_53 : decode cX5_value 53 = .ok (.goto 7, 3) := by decide +kernel
theorem dX5_value_56 : decode cX5_value 56 = .ok (.aload_n 0, 1) := by decide +kernel
theorem dX5_value_57 : decode cX5_value 57 = .ok (.getfield 82, 3) := by decide +kernel
theorem dX5_value_60 : decode cX5_value 60 = .ok (.putfield 82, 3) := by decide +kernel
theorem dX5_value_63 : decode cX5_value 63 = .ok (.aload_n 0, 1) := by decide +kernel
theorem dX5_value_64 : decode cX5_value 64 = .ok (.getfield 82, 3) := by decide +kernel
theorem dX5_value_67 : decode cX5_value 67 = .ok (.ifCond .ne 13, 3) := by decide +kernel
theorem dX5_value_70 : decode cX5_value 70 = .ok (.aload_n 0, 1) := by decide +kernel
theorem dX5_value_71 : decode cX5_value 71 = .ok (.iload_n 3, 1) := by decide +kernel
theorem dX5_value_72 : decode cX5_value 72 = .ok (.iload_n 1, 1) := by decide +kernel
theorem dX5_value_73 : decode cX5_value 73 = .ok (.iload_n 2, 1) := by decide +kernel
theorem dX5_value_74 : decode cX5_value 74 = .ok (.invokevirtual 153, 3) := by decide +kernel
theorem dX5_value_77 : decode cX5_value 77 = .ok (.goto 4, 3) := by decide +kernel
theorem dX5_value_80 : decode cX5_value 80 = .ok (.iconst 0, 1) := by decide +kernel
theorem dX5_value_81 : decode cX5_value 81 = .ok (.ireturn, 1) := by decide +kernel
theorem dX5_add_0 : decode cX5_add 0 = .ok (.aload_n 0, 1) := by decide +kernel
theorem dX5_add_1 : decode cX5_add 1 = .ok (.getfield 79, 3) := by decide +kernel
theorem dX5_add_4 : decode cX5_add 4 = .ok (.aload_n 0, 1) := by decide +kernel
theorem dX5_add_5 : decode cX5_add 5 = .ok (.getfield 157, 3) := by decide +kernel
theorem dX5_add_8 : decode cX5_add 8 = .ok (.iload_n 1, 1) := by decide +kernel
theorem dX5_add_9 : decode cX5_add 9 = .ok (.i2c, 1) := by decide +kernel
theorem dX5_add_10 : decode cX5_add 10 = .ok (.castore, 1) := by decide +kernel
theorem dX5_add_11 : decode cX5_add 11 = .ok (.aload_n 0, 1) := by decide +kernel
theorem dX5_add_12 : decode cX5_add 12 = .ok (.dup, 1) := by decide +kernel
theorem dX5_add_13 : decode cX5_add 13 = .ok (.getfield 157, 3) := by decide +kernel
theorem dX5_add_16 : decode cX5_add 16 = .ok (.iconst 1, 1) := by decide +kernel
theorem dX5_add_17 : decode cX5_add 17 = .ok (.iadd, 1) := by decide +kernel
theorem dX5_add_18 : decode cX5_add 18 = .ok (.putfield 157, 3) := by decide +kernel
theorem dX5_add_21 : decode cX5_add 21 = .ok (.return_, 1) := by decide +kernel
theorem dX5_addNumber_0 : decode cX5_addNumber 0 = .ok (.iload_n 1, 1) := by decide +kernel
theorem dX5_addNumber_1 : decode cX5_addNumber 1 = .ok (.ifCond .ge 8, 3) := by decide +kernel
theorem dX5_addNumber_4 : decode cX5_addNumber 4 = .ok (.iload_n 1, 1) := by decide +kernel
theorem dX5_addNumber_5 : decode cX5_addNumber 5 = .ok (.ineg, 1) := by decide +kernel
theorem dX5_addNumber_6 : decode cX5_addNumber 6 = .ok (.goto 4, 3) := by decide +kernel
theorem dX5_addNumber_9 : decode cX5_addNumber 9 = .ok (.iload_n 1, 1) := by decide +kernel
theorem dX5_addNumber_10 : decode cX5_addNumber 10 = .ok (.istore_n 2, 1) := by decide +kernel
theorem dX5_addNumber_11 : decode cX5_addNumber 11 = .ok (.iconst 1, 1) := by decide +kernel
theorem dX5_addNumber_12 : decode cX5_addNumber 12 = .ok (.istore_n 3, 1) := by decide +kernel
theorem dX5_addNumber_13 : decode cX5_addNumber 13 = .ok (.iload_n 2, 1) := by decide +kernel
theorem dX5_addNumber_14 : decode cX5_addNumber 14 = .ok (.iload_n 3, 1) := by decide +kernel
theorem dX5_addNumber_15 : decode cX5_addNumber 15 = .ok (.idiv, 1) := by decide +kernel
theorem dX5_addNumber_16 : decode cX5_addNumber 16 = .ok (.bipush 9, 2) := by decide +kernel
theorem dX5_addNumber_18 : decode cX5_addNumber 18 = .ok (.if_icmp .le 11, 3) := by decide +kernel
theorem dX5_addNumber_21 : decode cX5_addNumber 21 = .ok (.iload_n 3, 1) := by decide +kernel
theorem dX5_addNumber_22 : decode cX5_addNumber 22 = .ok (.bipush 10, 2) := by decide +kernel
theorem dX5_addNumber_24 : decode cX5_addNumber 24 = .ok (.imul, 1) := by decide +kernel
theorem dX5_addNumber_25 : decode cX5_addNumber 25 = .ok (.istore_n 3, 1) := by decide +kernel
theorem dX5_addNumber_26 : decode cX5_addNumber 26 = .ok (.goto (-13), 3) := by decide +kernel
theorem dX5_addNumber_29 : decode cX5_addNumber 29 = .ok (.iload_n 1, 1) := by decide +kernel
theorem dX5_addNumber_30 : decode cX5_addNumber 30 = .ok (.ifCond .ge 9, 3) := by decide +kernel
theorem dX5_addNumber_33 : decode cX5_addNumber 33 = .ok (.aload_n 0, 1) := by decide +kernel
theorem dX5_addNumber_34 : decode cX5_addNumber 34 = .ok (.bipush 45, 2) := by decide +kernel
theorem dX5_addNumber_36 : decode cX5_addNumber 36 = .ok (.invokevirtual 160, 3) := by decide +kernel
theorem dX5_addNumber_39 : decode cX5_addNumber 39 = .ok (.iload_n 3, 1) := by decide +kernel
theorem dX5_addNumber_40 : decode cX5_addNumber 40 = .ok (.ifCond .le 24, 3) := by decide +kernel
theorem dX5_addNumber_43 : decode cX5_addNumber 43 = .ok (.aload_n 0, 1) := by decide +kernel
theorem dX5_addNumber_44 : decode cX5_addNumber 44 = .ok (.bipush 48, 2) := by decide +kernel
theorem dX5_addNumber_46 : decode cX5_addNumber 46 = .ok (.iload_n 2, 1) := by decide +kernel
theorem dX5_addNumber_47 : decode cX5_addNumber 47 = .ok (.iload_n 3, 1) := by decide +kernel
theorem dX5_addNumber_48 : decode cX5_addNumber 48 = .ok (.idiv, 1) := by decide +kernel
theorem dX5_addNumber_49 : decode cX5_addNumber 49 = .ok (.bipush 10, 2) := by decide +kernel
theorem dX5_addNumber_51 : decode cX5_addNumber 51 = .ok (.irem, 1) := by decide +kernel
theorem dX5_addNumber_52 : decode cX5_addNumber 52 = .ok (.iadd, 1) := by decide +kernel
theorem dX5_addNumber_53 : decode cX5_addNumber 53 = .ok (.invokevirtual 160, 3) := by decide +kernel
theorem dX5_addNumber_56 : decode cX5_addNumber 56 = .ok (.iload_n 3, 1) := by decide +kernel
theorem dX5_addNumber_57 : decode cX5_addNumber 57 = .ok (.bipush 10, 2) := by decide +kernel
theorem dX5_addNumber_59 : decode cX5_addNumber 59 = .ok (.idiv, 1) := by decide +kernel
theorem dX5_addNumber_60 : decode cX5_addNumber 60 = .ok (.istore_n 3, 1) := by decide +kernel
theorem dX5_addNumber_61 : decode cX5_addNumber 61 = .ok (.goto (-22), 3) := by decide +kernel
theorem dX5_addNumber_64 : decode cX5_addNumber 64 = .ok (.return_, 1) := by decide +kernel
theorem dX5_addName_0 : decode cX5_addName 0 = .ok (.sipush 19683, 3) := by decide +kernel
theorem dX5_addName_3 : decode cX5_addName 3 = .ok (.istore_n 2, 1) := by decide +kernel
theorem dX5_addName_4 : decode cX5_addName 4 = .ok (.iload_n 2, 1) := by decide +kernel
theorem dX5_addName_5 : decode cX5_addName 5 = .ok (.ifCond .le 32, 3) := by decide +kernel
theorem dX5_addName_8 : decode cX5_addName 8 = .ok (.iload_n 1, 1) := by decide +kernel
theorem dX5_addName_9 : decode cX5_addName 9 = .ok (.iload_n 2, 1) := by decide +kernel
theorem dX5_addName_10 : decode cX5_addName 10 = .ok (.idiv, 1) := by decide +kernel
theorem dX5_addName_11 : decode cX5_addName 11 = .ok (.ifCond .le 18, 3) := by decide +kernel
theorem dX5_addName_14 : decode cX5_addName 14 = .ok (.aload_n 0, 1) := by decide +kernel
theorem dX5_addName_15 : decode cX5_addName 15 = .ok (.bipush 97, 2) := by decide +kernel
theorem dX5_addName_17 : decode cX5_addName 17 = .ok (.iload_n 1, 1) := by decide +kernel
theorem dX5_addName_18 : decode cX5_addName 18 = .ok (.iload_n 2, 1) := by decide +kernel
theorem dX5_addName_19 : decode cX5_addName 19 = .ok (.idiv, 1) := by decide +kernel
theorem dX5_addName_20 : decode cX5_addName 20 = .ok (.bipush 27, 2) := by decide +kernel
theorem dX5_addName_22 : decode cX5_addName 22 = .ok (.irem, 1) := by decide +kernel
theorem dX5_addName_23 : decode cX5_addName 23 = .ok (.iadd, 1) := by decide +kernel
theorem dX5_addName_24 : decode cX5_addName 24 = .ok (.iconst 1, 1) := by decide +kernel
theorem dX5_addName_25 : decode cX5_addName 25 = .ok (.isub, 1) := by decide +kernel
theorem dX5_addName_26 : decode cX5_addName 26 = .ok (.invokevirtual 160, 3) := by decide +kernel
theorem dX5_addName_29 : decode cX5_addName 29 = .ok (.iload_n 2, 1) := by decide +kernel
theorem dX5_addName_30 : decode cX5_addName 30 = .ok (.bipush 27, 2) := by decide +kernel
theorem dX5_addName_32 : decode cX5_addName 32 = .ok (.idiv, 1) := by decide +kernel
theorem dX5_addName_33 : decode cX5_addName 33 = .ok (.istore_n 2, 1) := by decide +kernel
theorem dX5_addName_34 : decode cX5_addName 34 = .ok (.goto (-30), 3) := by decide +kernel
theorem dX5_addName_37 : decode cX5_addName 37 = .ok (.return_, 1) := by decide +kernel
theorem dX5_write_0 : decode cX5_write 0 = .ok (.aload_n 0, 1) := by decide +kernel
theorem dX5_write_1 : decode cX5_write 1 = .ok (.aload_n 0, 1) := by decide +kernel
theorem dX5_write_2 : decode cX5_write 2 = .ok (.iload_n 1, 1) := by decide +kernel
theorem dX5_write_3 : decode cX5_write 3 = .ok (.invokevirtual 147, 3) := by decide +kernel
theorem dX5_write_6 : decode cX5_write 6 = .ok (.putfield 82, 3) := by decide +kernel
theorem dX5_write_9 : decode cX5_write 9 = .ok (.aload_n 0, 1) := by decide +kernel
theorem dX5_write_10 : decode cX5_write 10 = .ok (.getfield 82, 3) := by decide +kernel
theorem dX5_write_13 : decode cX5_write 13 = .ok (.ifCond .eq 5, 3) := by decide +kernel
theorem dX5_write_16 : decode cX5_write 16 = .ok (.iconst 0, 1) := by decide +kernel
theorem dX5_write_17 : decode cX5_write 17 = .ok (.ireturn, 1) := by decide +kernel
theorem dX5_write_18 : decode cX5_write 18 = .ok (.aload_n 0, 1) := by decide +kernel
theorem dX5_write_19 : decode cX5_write 19 = .ok (.iconst 0, 1) := by decide +kernel
theorem dX5_write_20 : decode cX5_write 20 = .ok (.putfield 157, 3) := by decide +kernel
theorem dX5_write_23 : decode cX5_write 23 = .ok (.aload_n 0, 1) := by decide +kernel
theorem dX5_write_24 : decode cX5_write 24 = .ok (.iload_n 1, 1) := by decide +kernel
theorem dX5_write_25 : decode cX5_write 25 = .ok (.invokevirtual 150, 3) := by decide +kernel
theorem dX5_write_28 : decode cX5_write 28 = .ok (.istore_n 2, 1) := by decide +kernel
theorem dX5_write_29 : decode cX5_write 29 = .ok (.iload_n 2, 1) := by decide +kernel
theorem dX5_write_30 : decode cX5_write 30 = .ok (.ifCond .ge 14, 3) := by decide +kernel
theorem dX5_write_33 : decode cX5_write 33 = .ok (.aload_n 0, 1) := by decide +kernel
theorem dX5_write_34 : decode cX5_write 34 = .ok (.bipush 63, 2) := by decide +kernel
theorem dX5_write_36 : decode cX5_write 36 = .ok (.invokevirtual 160, 3) := by decide +kernel
theorem dX5_write_39 : decode cX5_write 39 = .ok (.aload_n 0, 1) := by decide +kernel
theorem dX5_write_40 : decode cX5_write 40 = .ok (.getfield 157, 3) := by decide +kernel
theorem dX5_write_43 : decode cX5_write 43 = .ok (.ireturn, 1) := by decide +kernel
theorem dX5_write_44 : decode cX5_write 44 = .ok (.aload_n 0, 1) := by decide +kernel
theorem dX5_write_45 : decode cX5_write 45 = .ok (.aload_n 0, 1) := by decide +kernel
theorem dX5_write_46 : decode cX5_write 46 = .ok (.getfield 13, 3) := by decide +kernel
theorem dX5_write_49 : decode cX5_write 49 = .ok (.iload_n 2, 1) := by decide +kernel
theorem dX5_write_50 : decode cX5_write 50 = .ok (.iaload, 1) := by decide +kernel
theorem dX5_write_51 : decode cX5_write 51 = .ok (.invokevirtual 163, 3) := by decide +kernel
theorem dX5_write_54 : decode cX5_write 54 = .ok (.iconst 0, 1) := by decide +kernel
theorem dX5_write_55 : decode cX5_write 55 = .ok (.istore_n 3, 1) := by decide +kernel
theorem dX5_write_56 : decode cX5_write 56 = .ok (.iload_n 3, 1) := by decide +kernel
theorem dX5_write_57 : decode cX5_write 57 = .ok (.aload_n 0, 1) := by decide +kernel
theorem dX5_write_58 : decode cX5_write 58 = .ok (.getfield 23, 3) := by decide +kernel
theorem dX5_write_61 : decode cX5_write 61 = .ok (.iload_n 2, 1) := by decide +kernel
theorem dX5_write_62 : decode cX5_write 62 = .ok (.iaload, 1) := by decide +kernel
theorem dX5_write_63 : decode cX5_write 63 = .ok (.if_icmp .ge 35, 3) := by decide +kernel
theorem dX5_write_66 : decode cX5_write 66 = .ok (.aload_n 0, 1) := by decide +kernel
theorem dX5_write_67 : decode cX5_write 67 = .ok (.iload_n 3, 1) := by decide +kernel
theorem dX5_write_68 : decode cX5_write 68 = .ok (.ifCond .ne 8, 3) := by decide +kernel
theorem dX5_write_71 : decode cX5_write 71 = .ok (.bipush 32, 2) := by decide +kernel
theorem dX5_write_73 : decode cX5_write 73 = .ok (.goto 5, 3) := by decide +kernel
theorem dX5_write_76 : decode cX5_write 76 = .ok (.bipush 44, 2) := by decide +kernel
theorem dX5_write_78 : decode cX5_write 78 = .ok (.invokevirtual 160, 3) := by decide +kernel
theorem dX5_write_81 : decode cX5_write 81 = .ok (.aload_n 0, 1) := by decide +kernel
theorem dX5_write_82 : decode cX5_write 82 = .ok (.aload_n 0, 1) := by decide +kernel
theorem dX5_write_83 : decode cX5_write 83 = .ok (.iload_n 2, 1) := by decide +kernel
theorem dX5_write_84 : decode cX5_write 84 = .ok (.iload_n 1, 1) := by decide +kernel
theorem dX5_write_85 : decode cX5_write 85 = .ok (.iload_n 3, 1) := by decide +kernel
theorem dX5_write_86 : decode cX5_write 86 = .ok (.invokevirtual 153, 3) := by decide +kernel
theorem dX5_write_89 : decode cX5_write 89 = .ok (.invokevirtual 166, 3) := by decide +kernel
theorem dX5_write_92 : decode cX5_write 92 = .ok (.iinc 3 1, 3) := by decide +kernel
theorem dX5_write_95 : decode cX5_write 95 = .ok (.goto (-39), 3) := by decide +kernel
theorem dX5_write_98 : decode cX5_write 98 = .ok (.aload_n 0, 1) := by decide +kernel
theorem dX5_write_99 : decode cX5_write 99 = .ok (.getfield 157, 3) := by decide +kernel
theorem dX5_write_102 : decode cX5_write 102 = .ok (.ireturn, 1) := by decide +kernel
theorem dX5_written_0 : decode cX5_written 0 = .ok (.aload_n 0, 1) := by decide +kernel
theorem dX5_written_1 : decode cX5_written 1 = .ok (.iconst 0, 1) := by decide +kernel
theorem dX5_written_2 : decode cX5_written 2 = .ok (.putfield 82, 3) := by decide +kernel
theorem dX5_written_5 : decode cX5_written 5 = .ok (.iload_n 1, 1) := by decide +kernel
theorem dX5_written_6 : decode cX5_written 6 = .ok (.ifCond .lt 11, 3) := by decide +kernel
theorem dX5_written_9 : decode cX5_written 9 = .ok (.iload_n 1, 1) := by decide +kernel
theorem dX5_written_10 : decode cX5_written 10 = .ok (.aload_n 0, 1) := by decide +kernel
theorem dX5_written_11 : decode cX5_written 11 = .ok (.getfield 157, 3) := by decide +kernel
theorem dX5_written_14 : decode cX5_written 14 = .ok (.if_icmp .lt 7, 3) := by decide +kernel
theorem dX5_written_17 : decode cX5_written 17 = .ok (.iconst 0, 1) := by decide +kernel
theorem dX5_written_18 : decode cX5_written 18 = .ok (.goto 9, 3) := by decide +kernel
theorem dX5_written_21 : decode cX5_written 21 = .ok (.aload_n 0, 1) := by decide +kernel
theorem dX5_written_22 : decode cX5_written 22 = .ok (.getfield 79, 3) := by decide +kernel
theorem dX5_written_25 : decode cX5_written 25 = .ok (.iload_n 1, 1) := by decide +kernel
theorem dX5_written_26 : decode cX5_written 26 = .ok (.caload, 1) := by decide +kernel
theorem dX5_written_27 : decode cX5_written 27 = .ok (.ireturn, 1) := by decide +kernel
theorem dX5_isLabelLetter_0 : decode cX5_isLabelLetter 0 = .ok (.iload_n 0, 1) := by decide +kernel
theorem dX5_isLabelLetter_1 : decode cX5_isLabelLetter 1 = .ok (.bipush 65, 2) := by decide +kernel
theorem dX5_isLabelLetter_3 : decode cX5_isLabelLetter 3 = .ok (.if_icmp .lt 13, 3) := by decide +kernel
theorem dX5_isLabelLetter_6 : decode cX5_isLabelLetter 6 = .ok (.iload_n 0, 1) := by decide +kernel
theorem dX5_isLabelLetter_7 : decode cX5_isLabelLetter 7 = .ok (.bipush 70, 2) := by decide +kernel
theorem dX5_isLabelLetter_9 : decode cX5_isLabelLetter 9 = .ok (.if_icmp .gt 7, 3) := by decide +kernel
theorem dX5_isLabelLetter_12 : decode cX5_isLabelLetter 12 = .ok (.iconst 1, 1) := by decide +kernel
theorem dX5_isLabelLetter_13 : decode cX5_isLabelLetter 13 = .ok (.goto 4, 3) := by decide +kernel
theorem dX5_isLabelLetter_16 : decode cX5_isLabelLetter 16 = .ok (.iconst 0, 1) := by decide +kernel
theorem dX5_isLabelLetter_17 : decode cX5_isLabelLetter 17 = .ok (.ireturn, 1) := by decide +kernel
theorem dX5_readOperand_0 : decode cX5_readOperand 0 = .ok (.aload_n 0, 1) := by decide +kernel
theorem dX5_readOperand_1 : decode cX5_readOperand 1 = .ok (.getfield 66, 3) := by decide +kernel
theorem dX5_readOperand_4 : decode cX5_readOperand 4 = .ok (.iload_n 1, 1) := by decide +kernel
theorem dX5_readOperand_5 : decode cX5_readOperand 5 = .ok (.aload_n 0, 1) := by decide +kernel
theorem dX5_readOperand_6 : decode cX5_readOperand 6 = .ok (.invokevirtual 95, 3) := by decide +kernel
theorem dX5_readOperand_9 : decode cX5_readOperand 9 = .ok (.invokestatic 169, 3) := by decide +kernel
theorem dX5_readOperand_12 : decode cX5_readOperand 12 = .ok (.bastore, 1) := by decide +kernel
theorem dX5_readOperand_13 : decode cX5_readOperand 13 = .ok (.aload_n 0, 1) := by decide +kernel
theorem dX5_readOperand_14 : decode cX5_readOperand 14 = .ok (.getfield 66, 3) := by decide +kernel
theorem dX5_readOperand_17 : decode cX5_readOperand 17 = .ok (.iload_n 1, 1) := by decide +kernel
theorem dX5_readOperand_18 : decode cX5_readOperand 18 = .ok (.baload, 1) := by decide +kernel
theorem dX5_readOperand_19 : decode cX5_readOperand 19 = .ok (.ifCond .eq 27, 3) := by decide +kernel
theorem dX5_readOperand_22 : decode cX5_readOperand 22 = .ok (.aload_n 0, 1) := by decide +kernel
theorem dX5_readOperand_23 : decode cX5_readOperand 23 = .ok (.getfield 63, 3) := by decide +kernel
theorem dX5_readOperand_26 : decode cX5_readOperand 26 = .ok (.iload_n 1, 1) := by decide +kernel
theorem dX5_readOperand_27 : decode cX5_readOperand 27 = .ok (.aload_n 0, 1) := by decide +kernel
theorem dX5_readOperand_28 : decode cX5_readOperand 28 = .ok (.invokevirtual 95, 3) := by decide +kernel
theorem dX5_readOperand_31 : decode cX5_readOperand 31 = .ok (.bipush 65, 2) := by decide +kernel
theorem dX5_readOperand_33 : decode cX5_readOperand 33 = .ok (.isub, 1) := by decide +kernel
theorem dX5_readOperand_34 : decode cX5_readOperand 34 = .ok (.iastore, 1) := by decide +kernel
theorem dX5_readOperand_35 : decode cX5_readOperand 35 = .ok (.aload_n 0, 1) := by decide +kernel
theorem dX5_readOperand_36 : decode cX5_readOperand 36 = .ok (.dup, 1) := by decide +kernel
theorem dX5_readOperand_37 : decode cX5_readOperand 37 = .ok (.getfield 88, 3) := by decide +kernel
theorem dX5_readOperand_40 : decode cX5_readOperand 40 = .ok (.iconst 1, 1) := by decide +kernel
theorem dX5_readOperand_41 : decode cX5_readOperand 41 = .ok (.iadd, 1) := by decide +kernel
theorem dX5_readOperand_42 : decode cX5_readOperand 42 = .ok (.putfield 88, 3) := by decide +kernel
theorem dX5_readOperand_45 : decode cX5_readOperand 45 = .ok (.return_, 1) := by decide +kernel
theorem dX5_readOperand_46 : decode cX5_readOperand 46 = .ok (.aload_n 0, 1) := by decide +kernel
theorem dX5_readOperand_47 : decode cX5_readOperand 47 = .ok (.invokevirtual 95, 3) := by decide +kernel
theorem dX5_readOperand_50 : decode cX5_readOperand 50 = .ok (.bipush 45, 2) := by decide +kernel
theorem dX5_readOperand_52 : decode cX5_readOperand 52 = .ok (.if_icmp .ne 7, 3) := by decide +kernel
theorem dX5_readOperand_55 : decode cX5_readOperand 55 = .ok (.iconst 1, 1) := by decide +kernel
theorem dX5_readOperand_56 : decode cX5_readOperand 56 = .ok (.goto 4, 3) := by decide +kernel
theorem dX5_readOperand_59 : decode cX5_readOperand 59 = .ok (.iconst 0, 1) := by decide +kernel
theorem dX5_readOperand_60 : decode cX5_readOperand 60 = .ok (.istore_n 2, 1) := by decide +kernel
theorem dX5_readOperand_61 : decode cX5_readOperand 61 = .ok (.aload_n 0, 1) := by decide +kernel
theorem dX5_readOperand_62 : decode cX5_readOperand 62 = .ok (.iload_n 2, 1) := by decide +kernel
theorem dX5_readOperand_63 : decode cX5_readOperand 63 = .ok (.ifCond .eq 12, 3) := by decide +kernel
theorem dX5_readOperand_66 : decode cX5_readOperand 66 = .ok (.aload_n 0, 1) := by decide +kernel
theorem dX5_readOperand_67 : decode cX5_readOperand 67 = .ok (.getfield 88, 3) := by decide +kernel
theorem dX5_readOperand_70 : decode cX5_readOperand 70 = .ok (.iconst 1, 1) := by decide +kernel
theorem dX5_readOperand_71 : decode cX5_readOperand 71 = .ok (.iadd, 1) := by decide +kernel
theorem dX5_readOperand_72 : decode cX5_readOperand 72 = .ok (.goto 7, 3) := by decide +kernel
theorem dX5_readOperand_75 : decode cX5_readOperand 75 = .ok (.aload_n 0, 1) := by decide +kernel
theorem dX5_readOperand_76 : decode cX5_readOperand 76 = .ok (.getfield 88, 3) := by decide +kernel
theorem dX5_readOperand_79 : decode cX5_readOperand 79 = .ok (.putfield 88, 3) := by decide +kernel
theorem dX5_readOperand_82 : decode cX5_readOperand 82 = .ok (.iconst 0, 1) := by decide +kernel
theorem dX5_readOperand_83 : decode cX5_readOperand 83 = .ok (.istore_n 3, 1) := by decide +kernel
theorem dX5_readOperand_84 : decode cX5_readOperand 84 = .ok (.iconst 0, 1) := by decide +kernel
theorem dX5_readOperand_85 : decode cX5_readOperand 85 = .ok (.istore 4, 2) := by decide +kernel
theorem dX5_readOperand_87 : decode cX5_readOperand 87 = .ok (.aload_n 0, 1) := by decide +kernel
theorem dX5_readOperand_88 : decode cX5_readOperand 88 = .ok (.invokevirtual 95, 3) := by decide +kernel
theorem dX5_readOperand_91 : decode cX5_readOperand 91 = .ok (.invokestatic 172, 3) := by decide +kernel
theorem dX5_readOperand_94 : decode cX5_readOperand 94 = .ok (.ifCond .eq 39, 3) := by decide +kernel
theorem dX5_readOperand_97 : decode cX5_readOperand 97 = .ok (.iload 4, 2) := by decide +kernel
theorem dX5_readOperand_99 : decode cX5_readOperand 99 = .ok (.bipush 6, 2) := by decide +kernel
theorem dX5_readOperand_101 : decode cX5_readOperand 101 = .ok (.if_icmp .ge 32, 3) := by decide +kernel
theorem dX5_readOperand_104 : decode cX5_readOperand 104 = .ok (.bipush 10, 2) := by decide +kernel
theorem dX5_readOperand_106 : decode cX5_readOperand 106 = .ok (.iload_n 3, 1) := by decide +kernel
theorem dX5_readOperand_107 : decode cX5_readOperand 107 = .ok (.imul, 1) := by decide +kernel
theorem dX5_readOperand_108 : decode cX5_readOperand 108 = .ok (.aload_n 0, 1) := by decide +kernel
theorem dX5_readOperand_109 : decode cX5_readOperand 109 = .ok (.invokevirtual 95, 3) := by decide +kernel
theorem dX5_readOperand_112 : decode cX5_readOperand 112 = .ok (.iadd, 1) := by decide +kernel
theorem dX5_readOperand_113 : decode cX5_readOperand 113 = .ok (.bipush 48, 2) := by decide +kernel
theorem dX5_readOperand_115 : decode cX5_readOperand 115 = .ok (.isub, 1) := by decide +kernel
theorem dX5_readOperand_116 : decode cX5_readOperand 116 = .ok (.istore_n 3, 1) := by decide +kernel
theorem dX5_readOperand_117 : decode cX5_readOperand 117 = .ok (.iinc 4 1, 3) := by decide +kernel
theorem dX5_readOperand_120 : decode cX5_readOperand 120 = .ok (.aload_n 0, 1) := by decide +kernel
theorem dX5_readOperand_121 : decode cX5_readOperand 121 = .ok (.dup, 1) := by decide +kernel
theorem dX5_readOperand_122 : decode cX5_readOperand 122 = .ok (.getfield 88, 3) := by decide +kernel
theorem dX5_readOperand_125 : decode cX5_readOperand 125 = .ok (.iconst 1, 1) := by decide +kernel
theorem dX5_readOperand_126 : decode cX5_readOperand 126 = .ok (.iadd, 1) := by decide +kernel
theorem dX5_readOperand_127 : decode cX5_readOperand 127 = .ok (.putfield 88, 3) := by decide +kernel
theorem dX5_readOperand_130 : decode cX5_readOperand 130 = .ok (.goto (-43), 3) := by decide +kernel
theorem dX5_readOperand_133 : decode cX5_readOperand 133 = .ok (.aload_n 0, 1) := by decide +kernel
theorem dX5_readOperand_134 : decode cX5_readOperand 134 = .ok (.aload_n 0, 1) := by decide +kernel
theorem dX5_readOperand_135 : decode cX5_readOperand 135 = .ok (.getfield 91, 3) := by decide +kernel
theorem dX5_readOperand_138 : decode cX5_readOperand 138 = .ok (.ifCond .ne 15, 3) := by decide +kernel
theorem dX5_readOperand_141 : decode cX5_readOperand 141 = .ok (.iload 4, 2) := by decide +kernel
theorem dX5_readOperand_143 : decode cX5_readOperand 143 = .ok (.iconst 1, 1) := by decide +kernel
theorem dX5_readOperand_144 : decode cX5_readOperand 144 = .ok (.if_icmp .lt 9, 3) := by decide +kernel
theorem dX5_readOperand_147 : decode cX5_readOperand 147 = .ok (.iload 4, 2) := by decide +kernel
theorem dX5_readOperand_149 : decode cX5_readOperand 149 = .ok (.iconst 5, 1) := by decide +kernel
theorem dX5_readOperand_150 : decode cX5_readOperand 150 = .ok (.if_icmp .le 7, 3) := by decide +kernel
theorem dX5_readOperand_153 : decode cX5_readOperand 153 = .ok (.iconst 1, 1) := by decide +kernel
theorem dX5_readOperand_154 : decode cX5_readOperand 154 = .ok (.goto 4, 3) := by decide +kernel
theorem dX5_readOperand_157 : decode cX5_readOperand 157 = .ok (.iconst 0, 1) := by decide +kernel
theorem dX5_readOperand_158 : decode cX5_readOperand 158 = .ok (.putfield 91, 3) := by decide +kernel
theorem dX5_readOperand_161 : decode cX5_readOperand 161 = .ok (.aload_n 0, 1) := by decide +kernel
theorem dX5_readOperand_162 : decode cX5_readOperand 162 = .ok (.getfield 63, 3) := by decide +kernel
theorem dX5_readOperand_165 : decode cX5_readOperand 165 = .ok (.iload_n 1, 1) := by decide +kernel
theorem dX5_readOperand_166 : decode cX5_readOperand 166 = .ok (.iload_n 2, 1) := by decide +kernel
theorem dX5_readOperand_167 : decode cX5_readOperand 167 = .ok (.ifCond .eq 8, 3) := by decide +kernel
theorem dX5_readOperand_170 : decode cX5_readOperand 170 = .ok (.iload_n 3, 1) := by decide +kernel
theorem dX5_readOperand_171 : decode cX5_readOperand 171 = .ok (.ineg, 1) := by decide +kernel
theorem dX5_readOperand_172 : decode cX5_readOperand 172 = .ok (.goto 4, 3) := by decide +kernel
theorem dX5_readOperand_175 : decode cX5_readOperand 175 = .ok (.iload_n 3, 1) := by decide +kernel
theorem dX5_readOperand_176 : decode cX5_readOperand 176 = .ok (.iastore, 1) := by decide +kernel
theorem dX5_readOperand_177 : decode cX5_readOperand 177 = .ok (.return_, 1) := by decide +kernel
theorem dX5_readOperands_0 : decode cX5_readOperands 0 = .ok (.iconst 0, 1) := by decide +kernel
theorem dX5_readOperands_1 : decode cX5_readOperands 1 = .ok (.istore_n 1, 1) := by decide +kernel
theorem dX5_readOperands_2 : decode cX5_readOperands 2 = .ok (.aload_n 0, 1) := by decide +kernel
theorem dX5_readOperands_3 : decode cX5_readOperands 3 = .ok (.invokevirtual 95, 3) := by decide +kernel
theorem dX5_readOperands_6 : decode cX5_readOperands 6 = .ok (.bipush 32, 2) := by decide +kernel
theorem dX5_readOperands_8 : decode cX5_readOperands 8 = .ok (.if_icmp .ne 7, 3) := by decide +kernel
theorem dX5_readOperands_11 : decode cX5_readOperands 11 = .ok (.iconst 1, 1) := by decide +kernel
theorem dX5_readOperands_12 : decode cX5_readOperands 12 = .ok (.goto 4, 3) := by decide +kernel
theorem dX5_readOperands_15 : decode cX5_readOperands 15 = .ok (.iconst 0, 1) := by decide +kernel
theorem dX5_readOperands_16 : decode cX5_readOperands 16 = .ok (.istore_n 2, 1) := by decide +kernel
theorem dX5_readOperands_17 : decode cX5_readOperands 17 = .ok (.iload_n 2, 1) := by decide +kernel
theorem dX5_readOperands_18 : decode cX5_readOperands 18 = .ok (.ifCond .eq 74, 3) := by decide +kernel
theorem dX5_readOperands_21 : decode cX5_readOperands 21 = .ok (.aload_n 0, 1) := by decide +kernel
theorem dX5_readOperands_22 : decode cX5_readOperands 22 = .ok (.dup, 1) := by decide +kernel
theorem dX5_readOperands_23 : decode cX5_readOperands 23 = .ok (.getfield 88, 3) := by decide +kernel
theorem dX5_readOperands_26 : decode cX5_readOperands 26 = .ok (.iconst 1, 1) := by decide +kernel
theorem dX5_readOperands_27 : decode cX5_readOperands 27 = .ok (.iadd, 1) := by decide +kernel
theorem dX5_readOperands_28 : decode cX5_readOperands 28 = .ok (.putfield 88, 3) := by decide +kernel
theorem dX5_readOperands_31 : decode cX5_readOperands 31 = .ok (.aload_n 0, 1) := by decide +kernel
theorem dX5_readOperands_32 : decode cX5_readOperands 32 = .ok (.aload_n 0, 1) := by decide +kernel
theorem dX5_readOperands_33 : decode cX5_readOperands 33 = .ok (.getfield 91, 3) := by decide +kernel
theorem dX5_readOperands_36 : decode cX5_readOperands 36 = .ok (.ifCond .ne 8, 3) := by decide +kernel
theorem dX5_readOperands_39 : decode cX5_readOperands 39 = .ok (.iload_n 1, 1) := by decide +kernel
theorem dX5_readOperands_40 : decode cX5_readOperands 40 = .ok (.iconst 3, 1) := by decide +kernel
theorem dX5_readOperands_41 : decode cX5_readOperands 41 = .ok (.if_icmp .ne 7, 3) := by decide +kernel
theorem dX5_readOperands_44 : decode cX5_readOperands 44 = .ok (.iconst 1, 1) := by decide +kernel
theorem dX5_readOperands_45 : decode cX5_readOperands 45 = .ok (.goto 4, 3) := by decide +kernel
theorem dX5_readOperands_48 : decode cX5_readOperands 48 = .ok (.iconst 0, 1) := by decide +kernel
theorem dX5_readOperands_49 : decode cX5_readOperands 49 = .ok (.putfield 91, 3) := by decide +kernel
theorem dX5_readOperands_52 : decode cX5_readOperands 52 = .ok (.aload_n 0, 1) := by decide +kernel
theorem dX5_readOperands_53 : decode cX5_readOperands 53 = .ok (.getfield 91, 3) := by decide +kernel
theorem dX5_readOperands_56 : decode cX5_readOperands 56 = .ok (.ifCond .ne 11, 3) := by decide +kernel
theorem dX5_readOperands_59 : decode cX5_readOperands 59 = .ok (.aload_n 0, 1) := by decide +kernel
theorem dX5_readOperands_60 : decode cX5_readOperands 60 = .ok (.iload_n 1, 1) := by decide +kernel
theorem dX5_readOperands_61 : decode cX5_readOperands 61 = .ok (.invokevirtual 175, 3) := by decide +kernel
theorem dX5_readOperands_64 : decode cX5_readOperands 64 = .ok (.iinc 1 1, 3) := by decide +kernel
theorem dX5_readOperands_67 : decode cX5_readOperands 67 = .ok (.aload_n 0, 1) := by decide +kernel
theorem dX5_readOperands_68 : decode cX5_readOperands 68 = .ok (.getfield 91, 3) := by decide +kernel
theorem dX5_readOperands_71 : decode cX5_readOperands 71 = .ok (.ifCond .ne 16, 3) := by decide +kernel
theorem dX5_readOperands_74 : decode cX5_readOperands 74 = .ok (.aload_n 0, 1) := by decide +kernel
theorem dX5_readOperands_75 : decode cX5_readOperands 75 = .ok (.invokevirtual 95, 3) := by decide +kernel
theorem dX5_readOperands_78 : decode cX5_readOperands 78 = .ok (.bipush 44, 2) := by decide +kernel
theorem dX5_readOperands_80 : decode cX5_readOperands 80 = .ok (.if_icmp .ne 7, 3) := by decide +kernel
theorem dX5_readOperands_83 : decode cX5_readOperands 83 = .ok (.iconst 1, 1) := by decide +kernel
theorem dX5_readOperands_84 : decode cX5_readOperands 84 = .ok (.goto 4, 3) := by decide +kernel
theorem dX5_readOperands_87 : decode cX5_readOperands 87 = .ok (.iconst 0, 1) := by decide +kernel
theorem dX5_readOperands_88 : decode cX5_readOperands 88 = .ok (.istore_n 2, 1) := by decide +kernel
theorem dX5_readOperands_89 : decode cX5_readOperands 89 = .ok (.goto (-72), 3) := by decide +kernel
theorem dX5_readOperands_92 : decode cX5_readOperands 92 = .ok (.iload_n 1, 1) := by decide +kernel
theorem dX5_readOperands_93 : decode cX5_readOperands 93 = .ok (.ireturn, 1) := by decide +kernel
theorem dX5_line_0 : decode cX5_line 0 = .ok (.aload_n 0, 1) := by decide +kernel
theorem dX5_line_1 : decode cX5_line 1 = .ok (.iconst 0, 1) := by decide +kernel
theorem dX5_line_2 : decode cX5_line 2 = .ok (.putfield 88, 3) := by decide +kernel
theorem dX5_line_5 : decode cX5_line 5 = .ok (.aload_n 0, 1) := by decide +kernel
theorem dX5_line_6 : decode cX5_line 6 = .ok (.iconst 0, 1) := by decide +kernel
theorem dX5_line_7 : decode cX5_line 7 = .ok (.putfield 91, 3) := by decide +kernel
theorem dX5_line_10 : decode cX5_line 10 = .ok (.iconst (-1), 1) := by decide +kernel
theorem dX5_line_11 : decode cX5_line 11 = .ok (.istore_n 1, 1) := by decide +kernel
theorem dX5_line_12 : decode cX5_line 12 = .ok (.aload_n 0, 1) := by decide +kernel
theorem dX5_line_13 : decode cX5_line 13 = .ok (.invokevirtual 95, 3) := by decide +kernel
theorem dX5_line_16 : decode cX5_line 16 = .ok (.invokestatic 169, 3) := by decide +kernel
theorem dX5_line_19 : decode cX5_line 19 = .ok (.ifCond .eq 27, 3) := by decide +kernel
theorem dX5_line_22 : decode cX5_line 22 = .ok (.aload_n 0, 1) := by decide +kernel
theorem dX5_line_23 : decode cX5_line 23 = .ok (.invokevirtual 95, 3) := by decide +kernel
theorem dX5_line_26 : decode cX5_line 26 = .ok (.bipush 65, 2) := by decide +kernel
theorem dX5_line_28 : decode cX5_line 28 = .ok (.isub, 1) := by decide +kernel
theorem dX5_line_29 : decode cX5_line 29 = .ok (.istore_n 1, 1) := by decide +kernel
theorem dX5_line_30 : decode cX5_line 30 = .ok (.aload_n 0, 1) := by decide +kernel
theorem dX5_line_31 : decode cX5_line 31 = .ok (.dup, 1) := by decide +kernel
theorem dX5_line_32 : decode cX5_line 32 = .ok (.getfield 88, 3) := by decide +kernel
theorem dX5_line_35 : decode cX5_line 35 = .ok (.iconst 1, 1) := by decide +kernel
theorem dX5_line_36 : decode cX5_line 36 = .ok (.iadd, 1) := by decide +kernel
theorem dX5_line_37 : decode cX5_line 37 = .ok (.putfield 88, 3) := by decide +kernel
theorem dX5_line_40 : decode cX5_line 40 = .ok (.aload_n 0, 1) := by decide +kernel
theorem dX5_line_41 : decode cX5_line 41 = .ok (.bipush 58, 2) := by decide +kernel
theorem dX5_line_43 : decode cX5_line 43 = .ok (.invokevirtual 113, 3) := by decide +kernel
theorem dX5_line_46 : decode cX5_line 46 = .ok (.iconst 0, 1) := by decide +kernel
theorem dX5_line_47 : decode cX5_line 47 = .ok (.istore_n 2, 1) := by decide +kernel
theorem dX5_line_48 : decode cX5_line 48 = .ok (.iconst 0, 1) := by decide +kernel
theorem dX5_line_49 : decode cX5_line 49 = .ok (.istore_n 3, 1) := by decide +kernel
theorem dX5_line_50 : decode cX5_line 50 = .ok (.iload_n 1, 1) := by decide +kernel
theorem dX5_line_51 : decode cX5_line 51 = .ok (.ifCond .lt 14, 3) := by decide +kernel
theorem dX5_line_54 : decode cX5_line 54 = .ok (.aload_n 0, 1) := by decide +kernel
theorem dX5_line_55 : decode cX5_line 55 = .ok (.getfield 88, 3) := by decide +kernel
theorem dX5_line_58 : decode cX5_line 58 = .ok (.aload_n 0, 1) := by decide +kernel
theorem dX5_line_59 : decode cX5_line 59 = .ok (.getfield 85, 3) := by decide +kernel
theorem dX5_line_62 : decode cX5_line 62 = .ok (.if_icmp .ge 13, 3) := by decide +kernel
theorem dX5_line_65 : decode cX5_line 65 = .ok (.aload_n 0, 1) := by decide +kernel
theorem dX5_line_66 : decode cX5_line 66 = .ok (.invokevirtual 110, 3) := by decide +kernel
theorem dX5_line_69 : decode cX5_line 69 = .ok (.istore_n 2, 1) := by decide +kernel
theorem dX5_line_70 : decode cX5_line 70 = .ok (.aload_n 0, 1) := by decide +kernel
theorem dX5_line_71 : decode cX5_line 71 = .ok (.invokevirtual 178, 3) := by decide +kernel
theorem dX5_line_74 : decode cX5_line 74 = .ok (.istore_n 3, 1) := by decide +kernel
theorem dX5_line_75 : decode cX5_line 75 = .ok (.aload_n 0, 1) := by decide +kernel
theorem dX5_line_76 : decode cX5_line 76 = .ok (.aload_n 0, 1) := by decide +kernel
theorem dX5_line_77 : decode cX5_line 77 = .ok (.getfield 91, 3) := by decide +kernel
theorem dX5_line_80 : decode cX5_line 80 = .ok (.ifCond .ne 14, 3) := by decide +kernel
theorem dX5_line_83 : decode cX5_line 83 = .ok (.aload_n 0, 1) := by decide +kernel
theorem dX5_line_84 : decode cX5_line 84 = .ok (.getfield 88, 3) := by decide +kernel
theorem dX5_line_87 : decode cX5_line 87 = .ok (.aload_n 0, 1) := by decide +kernel
theorem dX5_line_88 : decode cX5_line 88 = .ok (.getfield 85, 3) := by decide +kernel
theorem dX5_line_91 : decode cX5_line 91 = .ok (.if_icmp .ge 7, 3) := by decide +kernel
theorem dX5_line_94 : decode cX5_line 94 = .ok (.iconst 1, 1) := by decide +kernel
theorem dX5_line_95 : decode cX5_line 95 = .ok (.goto 4, 3) := by decide +kernel
theorem dX5_line_98 : decode cX5_line 98 = .ok (.iconst 0, 1) := by decide +kernel
theorem dX5_line_99 : decode cX5_line 99 = .ok (.putfield 91, 3) := by decide +kernel
theorem dX5_line_102 : decode cX5_line 102 = .ok (.iconst 0, 1) := by decide +kernel
theorem dX5_line_103 : decode cX5_line 103 = .ok (.istore 4, 2) := by decide +kernel
theorem dX5_line_105 : decode cX5_line 105 = .ok (.iload 4, 2) := by decide +kernel
theorem dX5_line_107 : decode cX5_line 107 = .ok (.aload_n 0, 1) := by decide +kernel
theorem dX5_line_108 : decode cX5_line 108 = .ok (.getfield 181, 3) := by decide +kernel
theorem dX5_line_111 : decode cX5_line 111 = .ok (.if_icmp .ge 40, 3) := by decide +kernel
theorem dX5_line_114 : decode cX5_line 114 = .ok (.aload_n 0, 1) := by decide +kernel
theorem dX5_line_115 : decode cX5_line 115 = .ok (.aload_n 0, 1) := by decide +kernel
theorem dX5_line_116 : decode cX5_line 116 = .ok (.getfield 91, 3) := by decide +kernel
theorem dX5_line_119 : decode cX5_line 119 = .ok (.ifCond .ne 18, 3) := by decide +kernel
theorem dX5_line_122 : decode cX5_line 122 = .ok (.iload_n 1, 1) := by decide +kernel
theorem dX5_line_123 : decode cX5_line 123 = .ok (.ifCond .lt 18, 3) := by decide +kernel
theorem dX5_line_126 : decode cX5_line 126 = .ok (.aload_n 0, 1) := by decide +kernel
theorem dX5_line_127 : decode cX5_line 127 = .ok (.getfield 47, 3) := by decide +kernel
theorem dX5_line_130 : decode cX5_line 130 = .ok (.iload 4, 2) := by decide +kernel
theorem dX5_line_132 : decode cX5_line 132 = .ok (.iaload, 1) := by decide +kernel
theorem dX5_line_133 : decode cX5_line 133 = .ok (.iload_n 1, 1) := by decide +kernel
theorem dX5_line_134 : decode cX5_line 134 = .ok (.if_icmp .ne 7, 3) := by decide +kernel
theorem dX5_line_137 : decode cX5_line 137 = .ok (.iconst 1, 1) := by decide +kernel
theorem dX5_line_138 : decode cX5_line 138 = .ok (.goto 4, 3) := by decide +kernel
theorem dX5_line_141 : decode cX5_line 141 = .ok (.iconst 0, 1) := by decide +kernel
theorem dX5_line_142 : decode cX5_line 142 = .ok (.putfield 91, 3) := by decide +kernel
theorem dX5_line_145 : decode cX5_line 145 = .ok (.iinc 4 1, 3) := by decide +kernel
theorem dX5_line_148 : decode cX5_line 148 = .ok (.goto (-43), 3) := by decide +kernel
theorem dX5_line_151 : decode cX5_line 151 = .ok (.aload_n 0, 1) := by decide +kernel
theorem dX5_line_152 : decode cX5_line 152 = .ok (.iconst 0, 1) := by decide +kernel
theorem dX5_line_153 : decode cX5_line 153 = .ok (.putfield 85, 3) := by decide +kernel
theorem dX5_line_156 : decode cX5_line 156 = .ok (.aload_n 0, 1) := by decide +kernel
theorem dX5_line_157 : decode cX5_line 157 = .ok (.aload_n 0, 1) := by decide +kernel
theorem dX5_line_158 : decode cX5_line 158 = .ok (.getfield 91, 3) := by decide +kernel
theorem dX5_line_161 : decode cX5_line 161 = .ok (.ifCond .eq 7, 3) := by decide +kernel
theorem dX5_line_164 : decode cX5_line 164 = .ok (.iconst 1, 1) := by decide +kernel
theorem dX5_line_165 : decode cX5_line 165 = .ok (.goto 17, 3) := by decide +kernel
theorem dX5_line_168 : decode cX5_line 168 = .ok (.aload_n 0, 1) := by decide +kernel
theorem dX5_line_169 : decode cX5_line 169 = .ok (.getfield 181, 3) := by decide +kernel
theorem dX5_line_172 : decode cX5_line 172 = .ok (.bipush 20, 2) := by decide +kernel
theorem dX5_line_174 : decode cX5_line 174 = .ok (.if_icmp .ne 7, 3) := by decide +kernel
theorem dX5_line_177 : decode cX5_line 177 = .ok (.iconst 2, 1) := by decide +kernel
theorem dX5_line_178 : decode cX5_line 178 = .ok (.goto 4, 3) := by decide +kernel
theorem dX5_line_181 : decode cX5_line 181 = .ok (.iconst 0, 1) := by decide +kernel
theorem dX5_line_182 : decode cX5_line 182 = .ok (.putfield 82, 3) := by decide +kernel
theorem dX5_line_185 : decode cX5_line 185 = .ok (.aload_n 0, 1) := by decide +kernel
theorem dX5_line_186 : decode cX5_line 186 = .ok (.getfield 82, 3) := by decide +kernel
theorem dX5_line_189 : decode cX5_line 189 = .ok (.ifCond .eq 5, 3) := by decide +kernel
theorem dX5_line_192 : decode cX5_line 192 = .ok (.iconst 0, 1) := by decide +kernel
theorem dX5_line_193 : decode cX5_line 193 = .ok (.ireturn, 1) := by decide +kernel
theorem dX5_line_194 : decode cX5_line 194 = .ok (.aload_n 0, 1) := by decide +kernel
theorem dX5_line_195 : decode cX5_line 195 = .ok (.getfield 47, 3) := by decide +kernel
theorem dX5_line_198 : decode cX5_line 198 = .ok (.aload_n 0, 1) := by decide +kernel
theorem dX5_line_199 : decode cX5_line 199 = .ok (.getfield 181, 3) := by decide +kernel
theorem dX5_line_202 : decode cX5_line 202 = .ok (.iload_n 1, 1) := by decide +kernel
theorem dX5_line_203 : decode cX5_line 203 = .ok (.iastore, 1) := by decide +kernel
theorem dX5_line_204 : decode cX5_line 204 = .ok (.aload_n 0, 1) := by decide +kernel
theorem dX5_line_205 : decode cX5_line 205 = .ok (.getfield 50, 3) := by decide +kernel
theorem dX5_line_208 : decode cX5_line 208 = .ok (.aload_n 0, 1) := by decide +kernel
theorem dX5_line_209 : decode cX5_line 209 = .ok (.getfield 181, 3) := by decide +kernel
theorem dX5_line_212 : decode cX5_line 212 = .ok (.iload_n 2, 1) := by decide +kernel
theorem dX5_line_213 : decode cX5_line 213 = .ok (.iastore, 1) := by decide +kernel
theorem dX5_line_214 : decode cX5_line 214 = .ok (.aload_n 0, 1) := by decide +kernel
theorem dX5_line_215 : decode cX5_line 215 = .ok (.getfield 53, 3) := by decide +kernel
theorem dX5_line_218 : decode cX5_line 218 = .ok (.aload_n 0, 1) := by decide +kernel
theorem dX5_line_219 : decode cX5_line 219 = .ok (.getfield 181, 3) := by decide +kernel
theorem dX5_line_222 : decode cX5_line 222 = .ok (.iload_n 3, 1) := by decide +kernel
theorem dX5_line_223 : decode cX5_line 223 = .ok (.iastore, 1) := by decide +kernel
theorem dX5_line_224 : decode cX5_line 224 = .ok (.iconst 0, 1) := by decide +kernel
theorem dX5_line_225 : decode cX5_line 225 = .ok (.istore 4, 2) := by decide +kernel
theorem dX5_line_227 : decode cX5_line 227 = .ok (.iload 4, 2) := by decide +kernel
theorem dX5_line_229 : decode cX5_line 229 = .ok (.iconst 3, 1) := by decide +kernel
theorem dX5_line_230 : decode cX5_line 230 = .ok (.if_icmp .ge 51, 3) := by decide +kernel
theorem dX5_line_233 : decode cX5_line 233 = .ok (.aload_n 0, 1) := by decide +kernel
theorem dX5_line_234 : decode cX5_line 234 = .ok (.getfield 56, 3) := by decide +kernel
theorem dX5_line_237 : decode cX5_line 237 = .ok (.iconst 3, 1) := by decide +kernel
theorem dX5_line_238 : decode cX5_line 238 = .ok (.aload_n 0, 1) := by decide +kernel
theorem dX5_line_239 : decode cX5_line 239 = .ok (.getfield 181, 3) := by decide +kernel
theorem dX5_line_242 : decode cX5_line 242 = .ok (.imul, 1) := by decide +kernel
theorem dX5_line_243 : decode cX5_line 243 = .ok (.iload 4, 2) := by decide +kernel
theorem dX5_line_245 : decode cX5_line 245 = .ok (.iadd, 1) := by decide +kernel
theorem dX5_line_246 : decode cX5_line 246 = .ok (.aload_n 0, 1) := by decide +kernel
theorem dX5_line_247 : decode cX5_line 247 = .ok (.getfield 63, 3) := by decide +kernel
theorem dX5_line_250 : decode cX5_line 250 = .ok (.iload 4, 2) := by decide +kernel
theorem dX5_line_252 : decode cX5_line 252 = .ok (.iaload, 1) := by decide +kernel
theorem dX5_line_253 : decode cX5_line 253 = .ok (.iastore, 1) := by decide +kernel
theorem dX5_line_254 : decode cX5_line 254 = .ok (.aload_n 0, 1) := by decide +kernel
theorem dX5_line_255 : decode cX5_line 255 = .ok (.getfield 59, 3) := by decide +kernel
theorem dX5_line_258 : decode cX5_line 258 = .ok (.iconst 3, 1) := by decide +kernel
theorem dX5_line_259 : decode cX5_line 259 = .ok (.aload_n 0, 1) := by decide +kernel
theorem dX5_line_260 : decode cX5_line 260 = .ok (.getfield 181, 3) := by decide +kernel
theorem dX5_line_263 : decode cX5_line 263 = .ok (.imul, 1) := by decide +kernel
theorem dX5_line_264 : decode cX5_line 264 = .ok (.iload 4, 2) := by decide +kernel
theorem dX5_line_266 : decode cX5_line 266 = .ok (.iadd, 1) := by decide +kernel
theorem dX5_line_267 : decode cX5_line 267 = .ok (.aload_n 0, 1) := by decide +kernel
theorem dX5_line_268 : decode cX5_line 268 = .ok (.getfield 66, 3) := by decide +kernel
theorem dX5_line_271 : decode cX5_line 271 = .ok (.iload 4, 2) := by decide +kernel
theorem dX5_line_273 : decode cX5_line 273 = .ok (.baload, 1) := by decide +kernel
theorem dX5_line_274 : decode cX5_line 274 = .ok (.bastore, 1) := by decide +kernel
theorem dX5_line_275 : decode cX5_line 275 = .ok (.iinc 4 1, 3) := by decide +kernel
theorem dX5_line_278 : decode cX5_line 278 = .ok (.goto (-51), 3) := by decide +kernel
theorem dX5_line_281 : decode cX5_line 281 = .ok (.aload_n 0, 1) := by decide +kernel
theorem dX5_line_282 : decode cX5_line 282 = .ok (.dup, 1) := by decide +kernel
theorem dX5_line_283 : decode cX5_line 283 = .ok (.getfield 181, 3) := by decide +kernel
theorem dX5_line_286 : decode cX5_line 286 = .ok (.iconst 1, 1) := by decide +kernel
theorem dX5_line_287 : decode cX5_line 287 = .ok (.iadd, 1) := by decide +kernel
theorem dX5_line_288 : decode cX5_line 288 = .ok (.putfield 181, 3) := by decide +kernel
theorem dX5_line_291 : decode cX5_line 291 = .ok (.aload_n 0, 1) := by decide +kernel
theorem dX5_line_292 : decode cX5_line 292 = .ok (.getfield 181, 3) := by decide +kernel
theorem dX5_line_295 : decode cX5_line 295 = .ok (.ireturn, 1) := by decide +kernel
theorem dX5_erase_0 : decode cX5_erase 0 = .ok (.aload_n 0, 1) := by decide +kernel
theorem dX5_erase_1 : decode cX5_erase 1 = .ok (.iconst 0, 1) := by decide +kernel
theorem dX5_erase_2 : decode cX5_erase 2 = .ok (.putfield 82, 3) := by decide +kernel
theorem dX5_erase_5 : decode cX5_erase 5 = .ok (.aload_n 0, 1) := by decide +kernel
theorem dX5_erase_6 : decode cX5_erase 6 = .ok (.getfield 181, 3) := by decide +kernel
theorem dX5_erase_9 : decode cX5_erase 9 = .ok (.istore_n 1, 1) := by decide +kernel
theorem dX5_erase_10 : decode cX5_erase 10 = .ok (.aload_n 0, 1) := by decide +kernel
theorem dX5_erase_11 : decode cX5_erase 11 = .ok (.iconst 0, 1) := by decide +kernel
theorem dX5_erase_12 : decode cX5_erase 12 = .ok (.putfield 181, 3) := by decide +kernel
theorem dX5_erase_15 : decode cX5_erase 15 = .ok (.iload_n 1, 1) := by decide +kernel
theorem dX5_erase_16 : decode cX5_erase 16 = .ok (.ireturn, 1) := by decide +kernel
theorem dX5_lineOf_0 : decode cX5_lineOf 0 = .ok (.iconst 0, 1) := by decide +kernel
theorem dX5_lineOf_1 : decode cX5_lineOf 1 = .ok (.istore_n 2, 1) := by decide +kernel
theorem dX5_lineOf_2 : decode cX5_lineOf 2 = .ok (.iload_n 2, 1) := by decide +kernel
theorem dX5_lineOf_3 : decode cX5_lineOf 3 = .ok (.aload_n 0, 1) := by decide +kernel
theorem dX5_lineOf_4 : decode cX5_lineOf 4 = .ok (.getfield 181, 3) := by decide +kernel
theorem dX5_lineOf_7 : decode cX5_lineOf 7 = .ok (.if_icmp .ge 21, 3) := by decide +kernel
theorem dX5_lineOf_10 : decode cX5_lineOf 10 = .ok (.aload_n 0, 1) := by decide +kernel
theorem dX5_lineOf_11 : decode cX5_lineOf 11 = .ok (.getfield 47, 3) := by decide +kernel
theorem dX5_lineOf_14 : decode cX5_lineOf 14 = .ok (.iload_n 2, 1) := by decide +kernel
theorem dX5_lineOf_15 : decode cX5_lineOf 15 = .ok (.iaload, 1) := by decide +kernel
theorem dX5_lineOf_16 : decode cX5_lineOf 16 = .ok (.iload_n 1, 1) := by decide +kernel
theorem dX5_lineOf_17 : decode cX5_lineOf 17 = .ok (.if_icmp .ne 5, 3) := by decide +kernel
theorem dX5_lineOf_20 : decode cX5_lineOf 20 = .ok (.iload_n 2, 1) := by decide +kernel
theorem dX5_lineOf_21 : decode cX5_lineOf 21 = .ok (.ireturn, 1) := by decide +kernel
theorem dX5_lineOf_22 : decode cX5_lineOf 22 = .ok (.iinc 2 1, 3) := by decide +kernel
theorem dX5_lineOf_25 : decode cX5_lineOf 25 = .ok (.goto (-23), 3) := by decide +kernel
theorem dX5_lineOf_28 : decode cX5_lineOf 28 = .ok (.iconst (-1), 1) := by decide +kernel
theorem dX5_lineOf_29 : decode cX5_lineOf 29 = .ok (.ireturn, 1) := by decide +kernel
theorem dX5_missing_0 : decode cX5_missing 0 = .ok (.iconst 0, 1) := by decide +kernel
theorem dX5_missing_1 : decode cX5_missing 1 = .ok (.istore_n 1, 1) := by decide +kernel
theorem dX5_missing_2 : decode cX5_missing 2 = .ok (.iload_n 1, 1) := by decide +kernel
theorem dX5_missing_3 : decode cX5_missing 3 = .ok (.aload_n 0, 1) := by decide +kernel
theorem dX5_missing_4 : decode cX5_missing 4 = .ok (.getfield 181, 3) := by decide +kernel
theorem dX5_missing_7 : decode cX5_missing 7 = .ok (.if_icmp .ge 39, 3) := by decide +kernel
theorem dX5_missing_10 : decode cX5_missing 10 = .ok (.aload_n 0, 1) := by decide +kernel
theorem dX5_missing_11 : decode cX5_missing 11 = .ok (.getfield 50, 3) := by decide +kernel
theorem dX5_missing_14 : decode cX5_missing 14 = .ok (.iload_n 1, 1) := by decide +kernel
theorem dX5_missing_15 : decode cX5_missing 15 = .ok (.iaload, 1) := by decide +kernel
theorem dX5_missing_16 : decode cX5_missing 16 = .ok (.ifCond .le 24, 3) := by decide +kernel
theorem dX5_missing_19 : decode cX5_missing 19 = .ok (.aload_n 0, 1) := by decide +kernel
theorem dX5_missing_20 : decode cX5_missing 20 = .ok (.aload_n 0, 1) := by decide +kernel
theorem dX5_missing_21 : decode cX5_missing 21 = .ok (.getfield 50, 3) := by decide +kernel
theorem dX5_missing_24 : decode cX5_missing 24 = .ok (.iload_n 1, 1) := by decide +kernel
theorem dX5_missing_25 : decode cX5_missing 25 = .ok (.iaload, 1) := by decide +kernel
theorem dX5_missing_26 : decode cX5_missing 26 = .ok (.aload_n 0, 1) := by decide +kernel
theorem dX5_missing_27 : decode cX5_missing 27 = .ok (.getfield 53, 3) := by decide +kernel
theorem dX5_missing_30 : decode cX5_missing 30 = .ok (.iload_n 1, 1) := by decide +kernel
theorem dX5_missing_31 : decode cX5_missing 31 = .ok (.iaload, 1) := by decide +kernel
theorem dX5_missing_32 : decode cX5_missing 32 = .ok (.invokevirtual 120, 3) := by decide +kernel
theorem dX5_missing_35 : decode cX5_missing 35 = .ok (.ifCond .ge 5, 3) := by decide +kernel
theorem dX5_missing_38 : decode cX5_missing 38 = .ok (.iload_n 1, 1) := by decide +kernel
theorem dX5_missing_39 : decode cX5_missing 39 = .ok (.ireturn, 1) := by decide +kernel
theorem dX5_missing_40 : decode cX5_missing 40 = .ok (.iinc 1 1, 3) := by decide +kernel
theorem dX5_missing_43 : decode cX5_missing 43 = .ok (.goto (-41), 3) := by decide +kernel
theorem dX5_missing_46 : decode cX5_missing 46 = .ok (.iconst 0, 1) := by decide +kernel
theorem dX5_missing_47 : decode cX5_missing 47 = .ok (.istore_n 1, 1) := by decide +kernel
theorem dX5_missing_48 : decode cX5_missing 48 = .ok (.iload_n 1, 1) := by decide +kernel
theorem dX5_missing_49 : decode cX5_missing 49 = .ok (.aload_n 0, 1) := by decide +kernel
theorem dX5_missing_50 : decode cX5_missing 50 = .ok (.getfield 181, 3) := by decide +kernel
theorem dX5_missing_53 : decode cX5_missing 53 = .ok (.if_icmp .ge 59, 3) := by decide +kernel
theorem dX5_missing_56 : decode cX5_missing 56 = .ok (.iconst 0, 1) := by decide +kernel
theorem dX5_missing_57 : decode cX5_missing 57 = .ok (.istore_n 2, 1) := by decide +kernel
theorem dX5_missing_58 : decode cX5_missing 58 = .ok (.iload_n 2, 1) := by decide +kernel
theorem dX5_missing_59 : decode cX5_missing 59 = .ok (.aload_n 0, 1) := by decide +kernel
theorem dX5_missing_60 : decode cX5_missing 60 = .ok (.getfield 53, 3) := by decide +kernel
theorem dX5_missing_63 : decode cX5_missing 63 = .ok (.iload_n 1, 1) := by decide +kernel
theorem dX5_missing_64 : decode cX5_missing 64 = .ok (.iaload, 1) := by decide +kernel
theorem dX5_missing_65 : decode cX5_missing 65 = .ok (.if_icmp .ge 41, 3) := by decide +kernel
theorem dX5_missing_68 : decode cX5_missing 68 = .ok (.aload_n 0, 1) := by decide +kernel
theorem dX5_missing_69 : decode cX5_missing 69 = .ok (.getfield 59, 3) := by decide +kernel
theorem dX5_missing_72 : decode cX5_missing 72 = .ok (.iconst 3, 1) := by decide +kernel
theorem dX5_missing_73 : decode cX5_missing 73 = .ok (.iload_n 1, 1) := by decide +kernel
theorem dX5_missing_74 : decode cX5_missing 74 = .ok (.imul, 1) := by decide +kernel
theorem dX5_missing_75 : decode cX5_missing 75 = .ok (.iload_n 2, 1) := by decide +kernel
theorem dX5_missing_76 : decode cX5_missing 76 = .ok (.iadd, 1) := by decide +kernel
theorem dX5_missing_77 : decode cX5_missing 77 = .ok (.baload, 1) := by decide +kernel
theorem dX5_missing_78 : decode cX5_missing 78 = .ok (.ifCond .eq 22, 3) := by decide +kernel
theorem dX5_missing_81 : decode cX5_missing 81 = .ok (.aload_n 0, 1) := by decide +kernel
theorem dX5_missing_82 : decode cX5_missing 82 = .ok (.aload_n 0, 1) := by decide +kernel
theorem dX5_missing_83 : decode cX5_missing 83 = .ok (.getfield 56, 3) := by decide +kernel
theorem dX5_missing_86 : decode cX5_missing 86 = .ok (.iconst 3, 1) := by decide +kernel
theorem dX5_missing_87 : decode cX5_missing 87 = .ok (.iload_n 1, 1) := by decide +kernel
theorem dX5_missing_88 : decode cX5_missing 88 = .ok (.imul, 1) := by decide +kernel
theorem dX5_missing_89 : decode cX5_missing 89 = .ok (.iload_n 2, 1) := by decide +kernel
theorem dX5_missing_90 : decode cX5_missing 90 = .ok (.iadd, 1) := by decide +kernel
theorem dX5_missing_91 : decode cX5_missing 91 = .ok (.iaload, 1) := by decide +kernel
theorem dX5_missing_92 : decode cX5_missing 92 = .ok (.invokevirtual 184, 3) := by decide +kernel
theorem dX5_missing_95 : decode cX5_missing 95 = .ok (.ifCond .ge 5, 3) := by decide +kernel
theorem dX5_missing_98 : decode cX5_missing 98 = .ok (.iload_n 1, 1) := by decide +kernel
theorem dX5_missing_99 : decode cX5_missing 99 = .ok (.ireturn, 1) := by decide +kernel
theorem dX5_missing_100 : decode cX5_missing 100 = .ok (.iinc 2 1, 3) := by decide +kernel
theorem dX5_missing_103 : decode cX5_missing 103 = .ok (.goto (-45), 3) := by decide +kernel
theorem dX5_missing_106 : decode cX5_missing 106 = .ok (.iinc 1 1, 3) := by decide +kernel
theorem dX5_missing_109 : decode cX5_missing 109 = .ok (.goto (-61), 3) := by decide +kernel
theorem dX5_missing_112 : decode cX5_missing 112 = .ok (.iconst (-1), 1) := by decide +kernel
theorem dX5_missing_113 : decode cX5_missing 113 = .ok (.ireturn, 1) := by decide +kernel
theorem dX5_fieldOf_0 : decode cX5_fieldOf 0 = .ok (.iconst 3, 1) := by decide +kernel
theorem dX5_fieldOf_1 : decode cX5_fieldOf 1 = .ok (.iload_n 1, 1) := by decide +kernel
theorem dX5_fieldOf_2 : decode cX5_fieldOf 2 = .ok (.imul, 1) := by decide +kernel
theorem dX5_fieldOf_3 : decode cX5_fieldOf 3 = .ok (.iload_n 2, 1) := by decide +kernel
theorem dX5_fieldOf_4 : decode cX5_fieldOf 4 = .ok (.iadd, 1) := by decide +kernel
theorem dX5_fieldOf_5 : decode cX5_fieldOf 5 = .ok (.istore 5, 2) := by decide +kernel
theorem dX5_fieldOf_7 : decode cX5_fieldOf 7 = .ok (.iload_n 3, 1) := by decide +kernel
theorem dX5_fieldOf_8 : decode cX5_fieldOf 8 = .ok (.aload_n 0, 1) := by decide +kernel
theorem dX5_fieldOf_9 : decode cX5_fieldOf 9 = .ok (.getfield 35, 3) := by decide +kernel
theorem dX5_fieldOf_12 : decode cX5_fieldOf 12 = .ok (.iload 5, 2) := by decide +kernel
theorem dX5_fieldOf_14 : decode cX5_fieldOf 14 = .ok (.iaload, 1) := by decide +kernel
theorem dX5_fieldOf_15 : decode cX5_fieldOf 15 = .ok (.isub, 1) := by decide +kernel
theorem dX5_fieldOf_16 : decode cX5_fieldOf 16 = .ok (.aload_n 0, 1) := by decide +kernel
theorem dX5_fieldOf_17 : decode cX5_fieldOf 17 = .ok (.getfield 29, 3) := by decide +kernel
theorem dX5_fieldOf_20 : decode cX5_fieldOf 20 = .ok (.iload 5, 2) := by decide +kernel
theorem dX5_fieldOf_22 : decode cX5_fieldOf 22 = .ok (.iaload, 1) := by decide +kernel
theorem dX5_fieldOf_23 : decode cX5_fieldOf 23 = .ok (.iconst 2, 1) := by decide +kernel
theorem dX5_fieldOf_24 : decode cX5_fieldOf 24 = .ok (.if_icmp .ne 8, 3) := by decide +kernel
theorem dX5_fieldOf_27 : decode cX5_fieldOf 27 = .ok (.iload 4, 2) := by decide +kernel
theorem dX5_fieldOf_29 : decode cX5_fieldOf 29 = .ok (.goto 4, 3) := by decide +kernel
theorem dX5_fieldOf_32 : decode cX5_fieldOf 32 = .ok (.iconst 0, 1) := by decide +kernel
theorem dX5_fieldOf_33 : decode cX5_fieldOf 33 = .ok (.isub, 1) := by decide +kernel
theorem dX5_fieldOf_34 : decode cX5_fieldOf 34 = .ok (.istore 6, 2) := by decide +kernel
theorem dX5_fieldOf_36 : decode cX5_fieldOf 36 = .ok (.iload 6, 2) := by decide +kernel
theorem dX5_fieldOf_38 : decode cX5_fieldOf 38 = .ok (.aload_n 0, 1) := by decide +kernel
theorem dX5_fieldOf_39 : decode cX5_fieldOf 39 = .ok (.getfield 32, 3) := by decide +kernel
theorem dX5_fieldOf_42 : decode cX5_fieldOf 42 = .ok (.iload 5, 2) := by decide +kernel
theorem dX5_fieldOf_44 : decode cX5_fieldOf 44 = .ok (.iaload, 1) := by decide +kernel
theorem dX5_fieldOf_45 : decode cX5_fieldOf 45 = .ok (.irem, 1) := by decide +kernel
theorem dX5_fieldOf_46 : decode cX5_fieldOf 46 = .ok (.ifCond .eq 5, 3) := by decide +kernel
theorem dX5_fieldOf_49 : decode cX5_fieldOf 49 = .ok (.iconst (-1), 1) := by decide +kernel
theorem dX5_fieldOf_50 : decode cX5_fieldOf 50 = .ok (.ireturn, 1) := by decide +kernel
theorem dX5_fieldOf_51 : decode cX5_fieldOf 51 = .ok (.iload 6, 2) := by decide +kernel
theorem dX5_fieldOf_53 : decode cX5_fieldOf 53 = .ok (.aload_n 0, 1) := by decide +kernel
theorem dX5_fieldOf_54 : decode cX5_fieldOf 54 = .ok (.getfield 32, 3) := by decide +kernel
theorem dX5_fieldOf_57 : decode cX5_fieldOf 57 = .ok (.iload 5, 2) := by decide +kernel
theorem dX5_fieldOf_59 : decode cX5_fieldOf 59 = .ok (.iaload, 1) := by decide +kernel
theorem dX5_fieldOf_60 : decode cX5_fieldOf 60 = .ok (.idiv, 1) := by decide +kernel
theorem dX5_fieldOf_61 : decode cX5_fieldOf 61 = .ok (.istore 6, 2) := by decide +kernel
theorem dX5_fieldOf_63 : decode cX5_fieldOf 63 = .ok (.iconst 1, 1) := by decide +kernel
theorem dX5_fieldOf_64 : decode cX5_fieldOf 64 = .ok (.aload_n 0, 1) := by decide +kernel
theorem dX5_fieldOf_65 : decode cX5_fieldOf 65 = .ok (.getfield 26, 3) := by decide +kernel
theorem dX5_fieldOf_68 : decode cX5_fieldOf 68 = .ok (.iload 5, 2) := by decide +kernel
theorem dX5_fieldOf_70 : decode cX5_fieldOf 70 = .ok (.iaload, 1) := by decide +kernel
theorem dX5_fieldOf_71 : decode cX5_fieldOf 71 = .ok (.ishl, 1) := by decide +kernel
theorem dX5_fieldOf_72 : decode cX5_fieldOf 72 = .ok (.istore 7, 2) := by decide +kernel
theorem dX5_fieldOf_74 : decode cX5_fieldOf 74 = .ok (.aload_n 0, 1) := by decide +kernel
theorem dX5_fieldOf_75 : decode cX5_fieldOf 75 = .ok (.getfield 29, 3) := by decide +kernel
theorem dX5_fieldOf_78 : decode cX5_fieldOf 78 = .ok (.iload 5, 2) := by decide +kernel
theorem dX5_fieldOf_80 : decode cX5_fieldOf 80 = .ok (.iaload, 1) := by decide +kernel
theorem dX5_fieldOf_81 : decode cX5_fieldOf 81 = .ok (.ifCond .le 11, 3) := by decide +kernel
theorem dX5_fieldOf_84 : decode cX5_fieldOf 84 = .ok (.iload 7, 2) := by decide +kernel
theorem dX5_fieldOf_86 : decode cX5_fieldOf 86 = .ok (.ineg, 1) := by decide +kernel
theorem dX5_fieldOf_87 : decode cX5_fieldOf 87 = .ok (.iconst 2, 1) := by decide +kernel
theorem dX5_fieldOf_88 : decode cX5_fieldOf 88 = .ok (.idiv, 1) := by decide +kernel
theorem dX5_fieldOf_89 : decode cX5_fieldOf 89 = .ok (.goto 4, 3) := by decide +kernel
theorem dX5_fieldOf_92 : decode cX5_fieldOf 92 = .ok (.iconst 0, 1) := by decide +kernel
theorem dX5_fieldOf_93 : decode cX5_fieldOf 93 = .ok (.istore 8, 2) := by decide +kernel
theorem dX5_fieldOf_95 : decode cX5_fieldOf 95 = .ok (.iload 6, 2) := by decide +kernel
theorem dX5_fieldOf_97 : decode cX5_fieldOf 97 = .ok (.iload 8, 2) := by decide +kernel
theorem dX5_fieldOf_99 : decode cX5_fieldOf 99 = .ok (.iload 8, 2) := by decide +kernel
theorem dX5_fieldOf_101 : decode cX5_fieldOf 101 = .ok (.iload 7, 2) := by decide +kernel
theorem dX5_fieldOf_103 : decode cX5_fieldOf 103 = .ok (.iadd, 1) := by decide +kernel
theorem dX5_fieldOf_104 : decode cX5_fieldOf 104 = .ok (.iconst 1, 1) := by decide +kernel
theorem dX5_fieldOf_105 : decode cX5_fieldOf 105 = .ok (.isub, 1) := by decide +kernel
theorem dX5_fieldOf_106 : decode cX5_fieldOf 106 = .ok (.invokestatic 127, 3) := by decide +kernel
theorem dX5_fieldOf_109 : decode cX5_fieldOf 109 = .ok (.ifCond .eq 7, 3) := by decide +kernel
theorem dX5_fieldOf_112 : decode cX5_fieldOf 112 = .ok (.iconst (-1), 1) := by decide +kernel
theorem dX5_fieldOf_113 : decode cX5_fieldOf 113 = .ok (.goto 10, 3) := by decide +kernel
theorem dX5_fieldOf_116 : decode cX5_fieldOf 116 = .ok (.iload 6, 2) := by decide +kernel
theorem dX5_fieldOf_118 : decode cX5_fieldOf 118 = .ok (.iload 7, 2) := by decide +kernel
theorem dX5_fieldOf_120 : decode cX5_fieldOf 120 = .ok (.iconst 1, 1) := by decide +kernel
theorem dX5_fieldOf_121 : decode cX5_fieldOf 121 = .ok (.isub, 1) := by decide +kernel
theorem dX5_fieldOf_122 : decode cX5_fieldOf 122 = .ok (.iand, 1) := by decide +kernel
theorem dX5_fieldOf_123 : decode cX5_fieldOf 123 = .ok (.ireturn, 1) := by decide +kernel
theorem dX5_laid_0 : decode cX5_laid 0 = .ok (.aload_n 0, 1) := by decide +kernel
theorem dX5_laid_1 : decode cX5_laid 1 = .ok (.getfield 69, 3) := by decide +kernel
theorem dX5_laid_4 : decode cX5_laid 4 = .ok (.iload_n 1, 1) := by decide +kernel
theorem dX5_laid_5 : decode cX5_laid 5 = .ok (.iaload, 1) := by decide +kernel
theorem dX5_laid_6 : decode cX5_laid 6 = .ok (.istore_n 3, 1) := by decide +kernel
theorem dX5_laid_7 : decode cX5_laid 7 = .ok (.iconst 0, 1) := by decide +kernel
theorem dX5_laid_8 : decode cX5_laid 8 = .ok (.istore 4, 2) := by decide +kernel
theorem dX5_laid_10 : decode cX5_laid 10 = .ok (.iload 4, 2) := by decide +kernel
theorem dX5_laid_12 : decode cX5_laid 12 = .ok (.aload_n 0, 1) := by decide +kernel
theorem dX5_laid_13 : decode cX5_laid 13 = .ok (.getfield 17, 3) := by decide +kernel
theorem dX5_laid_16 : decode cX5_laid 16 = .ok (.iload_n 2, 1) := by decide +kernel
theorem dX5_laid_17 : decode cX5_laid 17 = .ok (.iaload, 1) := by decide +kernel
theorem dX5_laid_18 : decode cX5_laid 18 = .ok (.bipush 8, 2) := by decide +kernel
theorem dX5_laid_20 : decode cX5_laid 20 = .ok (.idiv, 1) := by decide +kernel
theorem dX5_laid_21 : decode cX5_laid 21 = .ok (.if_icmp .ge 19, 3) := by decide +kernel
theorem dX5_laid_24 : decode cX5_laid 24 = .ok (.aload_n 0, 1) := by decide +kernel
theorem dX5_laid_25 : decode cX5_laid 25 = .ok (.getfield 72, 3) := by decide +kernel
theorem dX5_laid_28 : decode cX5_laid 28 = .ok (.iload_n 3, 1) := by decide +kernel
theorem dX5_laid_29 : decode cX5_laid 29 = .ok (.iload 4, 2) := by decide +kernel
theorem dX5_laid_31 : decode cX5_laid 31 = .ok (.iadd, 1) := by decide +kernel
theorem dX5_laid_32 : decode cX5_laid 32 = .ok (.iconst 0, 1) := by decide +kernel
theorem dX5_laid_33 : decode cX5_laid 33 = .ok (.iastore, 1) := by decide +kernel
theorem dX5_laid_34 : decode cX5_laid 34 = .ok (.iinc 4 1, 3) := by decide +kernel
theorem dX5_laid_37 : decode cX5_laid 37 = .ok (.goto (-27), 3) := by decide +kernel
theorem dX5_laid_40 : decode cX5_laid 40 = .ok (.iconst 0, 1) := by decide +kernel
theorem dX5_laid_41 : decode cX5_laid 41 = .ok (.istore 4, 2) := by decide +kernel
theorem dX5_laid_43 : decode cX5_laid 43 = .ok (.iload 4, 2) := by decide +kernel
theorem dX5_laid_45 : decode cX5_laid 45 = .ok (.aload_n 0, 1) := by decide +kernel
theorem dX5_laid_46 : decode cX5_laid 46 = .ok (.getfield 23, 3) := by decide +kernel
theorem dX5_laid_49 : decode cX5_laid 49 = .ok (.iload_n 2, 1) := by decide +kernel
theorem dX5_laid_50 : decode cX5_laid 50 = .ok (.iaload, 1) := by decide +kernel
theorem dX5_laid_51 : decode cX5_laid 51 = .ok (.if_icmp .ge 174, 3) := by decide +kernel
theorem dX5_laid_54 : decode cX5_laid 54 = .ok (.aload_n 0, 1) := by decide +kernel
theorem dX5_laid_55 : decode cX5_laid 55 = .ok (.getfield 59, 3) := by decide +kernel
theorem dX5_laid_58 : decode cX5_laid 58 = .ok (.iconst 3, 1) := by decide +kernel
theorem dX5_laid_59 : decode cX5_laid 59 = .ok (.iload_n 1, 1) := by decide +kernel
theorem dX5_laid_60 : decode cX5_laid 60 = .ok (.imul, 1) := by decide +kernel
theorem dX5_laid_61 : decode cX5_laid 61 = .ok (.iload 4, 2) := by decide +kernel
theorem dX5_laid_63 : decode cX5_laid 63 = .ok (.iadd, 1) := by decide +kernel
theorem dX5_laid_64 : decode cX5_laid 64 = .ok (.baload, 1) := by decide +kernel
theorem dX5_laid_65 : decode cX5_laid 65 = .ok (.ifCond .eq 26, 3) := by decide +kernel
theorem dX5_laid_68 : decode cX5_laid 68 = .ok (.aload_n 0, 1) := by decide +kernel
theorem dX5_laid_69 : decode cX5_laid 69 = .ok (.getfield 69, 3) := by decide +kernel
theorem dX5_laid_72 : decode cX5_laid 72 = .ok (.aload_n 0, 1) := by decide +kernel
theorem dX5_laid_73 : decode cX5_laid 73 = .ok (.aload_n 0, 1) := by decide +kernel
theorem dX5_laid_74 : decode cX5_laid 74 = .ok (.getfield 56, 3) := by decide +kernel
theorem dX5_laid_77 : decode cX5_laid 77 = .ok (.iconst 3, 1) := by decide +kernel
theorem dX5_laid_78 : decode cX5_laid 78 = .ok (.iload_n 1, 1) := by decide +kernel
theorem dX5_laid_79 : decode cX5_laid 79 = .ok (.imul, 1) := by decide +kernel
theorem dX5_laid_80 : decode cX5_laid 80 = .ok (.iload 4, 2) := by decide +kernel
theorem dX5_laid_82 : decode cX5_laid 82 = .ok (.iadd, 1) := by decide +kernel
theorem dX5_laid_83 : decode cX5_laid 83 = .ok (.iaload, 1) := by decide +kernel
theorem dX5_laid_84 : decode cX5_laid 84 = .ok (.invokevirtual 184, 3) := by decide +kernel
theorem dX5_laid_87 : decode cX5_laid 87 = .ok (.iaload, 1) := by decide +kernel
theorem dX5_laid_88 : decode cX5_laid 88 = .ok (.goto 14, 3) := by decide +kernel
theorem dX5_laid_91 : decode cX5_laid 91 = .ok (.aload_n 0, 1) := by decide +kernel
theorem dX5_laid_92 : decode cX5_laid 92 = .ok (.getfield 56, 3) := by decide +kernel
theorem dX5_laid_95 : decode cX5_laid 95 = .ok (.iconst 3, 1) := by decide +kernel
theorem dX5_laid_96 : decode cX5_laid 96 = .ok (.iload_n 1, 1) := by decide +kernel
theorem dX5_laid_97 : decode cX5_laid 97 = .ok (.imul, 1) := by decide +kernel
theorem dX5_laid_98 : decode cX5_laid 98 = .ok (.iload 4, 2) := by decide +kernel
theorem dX5_laid_100 : decode cX5_laid 100 = .ok (.iadd, 1) := by decide +kernel
theorem dX5_laid_101 : decode cX5_laid 101 = .ok (.iaload, 1) := by decide +kernel
theorem dX5_laid_102 : decode cX5_laid 102 = .ok (.istore 5, 2) := by decide +kernel
theorem dX5_laid_104 : decode cX5_laid 104 = .ok (.aload_n 0, 1) := by decide +kernel
theorem dX5_laid_105 : decode cX5_laid 105 = .ok (.iload_n 2, 1) := by decide +kernel
theorem dX5_laid_106 : decode cX5_laid 106 = .ok (.iload 4, 2) := by decide +kernel
theorem dX5_laid_108 : decode cX5_laid 108 = .ok (.iload 5, 2) := by decide +kernel
theorem dX5_laid_110 : decode cX5_laid 110 = .ok (.iload_n 3, 1) := by decide +kernel
theorem dX5_laid_111 : decode cX5_laid 111 = .ok (.aload_n 0, 1) := by decide +kernel
theorem dX5_laid_112 : decode cX5_laid 112 = .ok (.getfield 17, 3) := by decide +kernel
theorem dX5_laid_115 : decode cX5_laid 115 = .ok (.iload_n 2, 1) := by decide +kernel
theorem dX5_laid_116 : decode cX5_laid 116 = .ok (.iaload, 1) := by decide +kernel
theorem dX5_laid_117 : decode cX5_laid 117 = .ok (.bipush 8, 2) := by decide +kernel
theorem dX5_laid_119 : decode cX5_laid 119 = .ok (.idiv, 1) := by decide +kernel
theorem dX5_laid_120 : decode cX5_laid 120 = .ok (.iadd, 1) := by decide +kernel
theorem dX5_laid_121 : decode cX5_laid 121 = .ok (.invokevirtual 187, 3) := by decide +kernel
theorem dX5_laid_124 : decode cX5_laid 124 = .ok (.istore 6, 2) := by decide +kernel
theorem dX5_laid_126 : decode cX5_laid 126 = .ok (.iload 6, 2) := by decide +kernel
theorem dX5_laid_128 : decode cX5_laid 128 = .ok (.ifCond .ge 5, 3) := by decide +kernel
theorem dX5_laid_131 : decode cX5_laid 131 = .ok (.iconst 0, 1) := by decide +kernel
theorem dX5_laid_132 : decode cX5_laid 132 = .ok (.ireturn, 1) := by decide +kernel
theorem dX5_laid_133 : decode cX5_laid 133 = .ok (.aload_n 0, 1) := by decide +kernel
theorem dX5_laid_134 : decode cX5_laid 134 = .ok (.getfield 26, 3) := by decide +kernel
theorem dX5_laid_137 : decode cX5_laid 137 = .ok (.iconst 3, 1) := by decide +kernel
theorem dX5_laid_138 : decode cX5_laid 138 = .ok (.iload_n 2, 1) := by decide +kernel
theorem dX5_laid_139 : decode cX5_laid 139 = .ok (.imul, 1) := by decide +kernel
theorem dX5_laid_140 : decode cX5_laid 140 = .ok (.iload 4, 2) := by decide +kernel
theorem dX5_laid_142 : decode cX5_laid 142 = .ok (.iadd, 1) := by decide +kernel
theorem dX5_laid_143 : decode cX5_laid 143 = .ok (.iaload, 1) := by decide +kernel
theorem dX5_laid_144 : decode cX5_laid 144 = .ok (.istore 7, 2) := by decide +kernel
theorem dX5_laid_146 : decode cX5_laid 146 = .ok (.iconst 0, 1) := by decide +kernel
theorem dX5_laid_147 : decode cX5_laid 147 = .ok (.istore 8, 2) := by decide +kernel
theorem dX5_laid_149 : decode cX5_laid 149 = .ok (.iload 8, 2) := by decide +kernel
theorem dX5_laid_151 : decode cX5_laid 151 = .ok (.aload_n 0, 1) := by decide +kernel
theorem dX5_laid_152 : decode cX5_laid 152 = .ok (.getfield 17, 3) := by decide +kernel
theorem dX5_laid_155 : decode cX5_laid 155 = .ok (.iload_n 2, 1) := by decide +kernel
theorem dX5_laid_156 : decode cX5_laid 156 = .ok (.iaload, 1) := by decide +kernel
theorem dX5_laid_157 : decode cX5_laid 157 = .ok (.if_icmp .ge 62, 3) := by decide +kernel
theorem dX5_laid_160 : decode cX5_laid 160 = .ok (.aload_n 0, 1) := by decide +kernel
theorem dX5_laid_161 : decode cX5_laid 161 = .ok (.getfield 20, 3) := by decide +kernel
theorem dX5_laid_164 : decode cX5_laid 164 = .ok (.bipush 24, 2) := by decide +kernel
theorem dX5_laid_166 : decode cX5_laid 166 = .ok (.iload_n 2, 1) := by decide +kernel
theorem dX5_laid_167 : decode cX5_laid 167 = .ok (.imul, 1) := by decide +kernel
theorem dX5_laid_168 : decode cX5_laid 168 = .ok (.iload 8, 2) := by decide +kernel
theorem dX5_laid_170 : decode cX5_laid 170 = .ok (.iadd, 1) := by decide +kernel
theorem dX5_laid_171 : decode cX5_laid 171 = .ok (.iaload, 1) := by decide +kernel
theorem dX5_laid_172 : decode cX5_laid 172 = .ok (.iconst 2, 1) := by decide +kernel
theorem dX5_laid_173 : decode cX5_laid 173 = .ok (.iload 4, 2) := by decide +kernel
theorem dX5_laid_175 : decode cX5_laid 175 = .ok (.iadd, 1) := by decide +kernel
theorem dX5_laid_176 : decode cX5_laid 176 = .ok (.if_icmp .ne 37, 3) := by decide +kernel
theorem dX5_laid_179 : decode cX5_laid 179 = .ok (.iinc 7 (-1), 3) := by decide +kernel
theorem dX5_laid_182 : decode cX5_laid 182 = .ok (.aload_n 0, 1) := by decide +kernel
theorem dX5_laid_183 : decode cX5_laid 183 = .ok (.getfield 72, 3) := by decide +kernel
theorem dX5_laid_186 : decode cX5_laid 186 = .ok (.iload_n 3, 1) := by decide +kernel
theorem dX5_laid_187 : decode cX5_laid 187 = .ok (.iload 8, 2) := by decide +kernel
theorem dX5_laid_189 : decode cX5_laid 189 = .ok (.bipush 8, 2) := by decide +kernel
theorem dX5_laid_191 : decode cX5_laid 191 = .ok (.idiv, 1) := by decide +kernel
theorem dX5_laid_192 : decode cX5_laid 192 = .ok (.iadd, 1) := by decide +kernel
theorem dX5_laid_193 : decode cX5_laid 193 = .ok (.dup2, 1) := by decide +kernel
theorem dX5_laid_194 : decode cX5_laid 194 = .ok (.iaload, 1) := by decide +kernel
theorem dX5_laid_195 : decode cX5_laid 195 = .ok (.iload 6, 2) := by decide +kernel
theorem dX5_laid_197 : decode cX5_laid 197 = .ok (.iload 7, 2) := by decide +kernel
theorem dX5_laid_199 : decode cX5_laid 199 = .ok (.ishr, 1) := by decide +kernel
theorem dX5_laid_200 : decode cX5_laid 200 = .ok (.iconst 1, 1) := by decide +kernel
theorem dX5_laid_201 : decode cX5_laid 201 = .ok (.iand, 1) := by decide +kernel
theorem dX5_laid_202 : decode cX5_laid 202 = .ok (.bipush 7, 2) := by decide +kernel
theorem dX5_laid_204 : decode cX5_laid 204 = .ok (.iload 8, 2) := by decide +kernel
theorem dX5_laid_206 : decode cX5_laid 206 = .ok (.bipush 8, 2) := by decide +kernel
theorem dX5_laid_208 : decode cX5_laid 208 = .ok (.irem, 1) := by decide +kernel
theorem dX5_laid_209 : decode cX5_laid 209 = .ok (.isub, 1) := by decide +kernel
theorem dX5_laid_210 : decode cX5_laid 210 = .ok (.ishl, 1) := by decide +kernel
theorem dX5_laid_211 : decode cX5_laid 211 = .ok (.ior, 1) := by decide +kernel
theorem dX5_laid_212 : decode cX5_laid 212 = .ok (.iastore, 1) := by decide +kernel
theorem dX5_laid_213 : decode cX5_laid 213 = .ok (.iinc 8 1, 3) := by decide +kernel
theorem dX5_laid_216 : decode cX5_laid 216 = .ok (.goto (-67), 3) := by decide +kernel
theorem dX5_laid_219 : decode cX5_laid 219 = .ok (.iinc 4 1, 3) := by decide +kernel
theorem dX5_laid_222 : decode cX5_laid 222 = .ok (.goto (-179), 3) := by decide +kernel
theorem dX5_laid_225 : decode cX5_laid 225 = .ok (.iconst 0, 1) := by decide +kernel
theorem dX5_laid_226 : decode cX5_laid 226 = .ok (.istore 4, 2) := by decide +kernel
theorem dX5_laid_228 : decode cX5_laid 228 = .ok (.iload 4, 2) := by decide +kernel
theorem dX5_laid_230 : decode cX5_laid 230 = .ok (.aload_n 0, 1) := by decide +kernel
theorem dX5_laid_231 : decode cX5_laid 231 = .ok (.getfield 17, 3) := by decide +kernel
theorem dX5_laid_234 : decode cX5_laid 234 = .ok (.iload_n 2, 1) := by decide +kernel
theorem dX5_laid_235 : decode cX5_laid 235 = .ok (.iaload, 1) := by decide +kernel
theorem dX5_laid_236 : decode cX5_laid 236 = .ok (.if_icmp .ge 49, 3) := by decide +kernel
theorem dX5_laid_239 : decode cX5_laid 239 = .ok (.aload_n 0, 1) := by decide +kernel
theorem dX5_laid_240 : decode cX5_laid 240 = .ok (.getfield 72, 3) := by decide +kernel
theorem dX5_laid_243 : decode cX5_laid 243 = .ok (.iload_n 3, 1) := by decide +kernel
theorem dX5_laid_244 : decode cX5_laid 244 = .ok (.iload 4, 2) := by decide +kernel
theorem dX5_laid_246 : decode cX5_laid 246 = .ok (.bipush 8, 2) := by decide +kernel
theorem dX5_laid_248 : decode cX5_laid 248 = .ok (.idiv, 1) := by decide +kernel
theorem dX5_laid_249 : decode cX5_laid 249 = .ok (.iadd, 1) := by decide +kernel
theorem dX5_laid_250 : decode cX5_laid 250 = .ok (.dup2, 1) := by decide +kernel
theorem dX5_laid_251 : decode cX5_laid 251 = .ok (.iaload, 1) := by decide +kernel
theorem dX5_laid_252 : decode cX5_laid 252 = .ok (.aload_n 0, 1) := by decide +kernel
theorem dX5_laid_253 : decode cX5_laid 253 = .ok (.iload_n 2, 1) := by decide +kernel
theorem dX5_laid_254 : decode cX5_laid 254 = .ok (.iload 4, 2) := by decide +kernel
theorem dX5_laid_256 : decode cX5_laid 256 = .ok (.invokevirtual 131, 3) := by decide +kernel
theorem dX5_laid_259 : decode cX5_laid 259 = .ok (.iconst 1, 1) := by decide +kernel
theorem dX5_laid_260 : decode cX5_laid 260 = .ok (.if_icmp .ne 16, 3) := by decide +kernel
theorem dX5_laid_263 : decode cX5_laid 263 = .ok (.iconst 1, 1) := by decide +kernel
theorem dX5_laid_264 : decode cX5_laid 264 = .ok (.bipush 7, 2) := by decide +kernel
theorem dX5_laid_266 : decode cX5_laid 266 = .ok (.iload 4, 2) := by decide +kernel
theorem dX5_laid_268 : decode cX5_laid 268 = .ok (.bipush 8, 2) := by decide +kernel
theorem dX5_laid_270 : decode cX5_laid 270 = .ok (.irem, 1) := by decide +kernel
theorem dX5_laid_271 : decode cX5_laid 271 = .ok (.isub, 1) := by decide +kernel
theorem dX5_laid_272 : decode cX5_laid 272 = .ok (.ishl, 1) := by decide +kernel
theorem dX5_laid_273 : decode cX5_laid 273 = .ok (.goto 4, 3) := by decide +kernel
theorem dX5_laid_276 : decode cX5_laid 276 = .ok (.iconst 0, 1) := by decide +kernel
theorem dX5_laid_277 : decode cX5_laid 277 = .ok (.ior, 1) := by decide +kernel
theorem dX5_laid_278 : decode cX5_laid 278 = .ok (.iastore, 1) := by decide +kernel
theorem dX5_laid_279 : decode cX5_laid 279 = .ok (.iinc 4 1, 3) := by decide +kernel
theorem dX5_laid_282 : decode cX5_laid 282 = .ok (.goto (-54), 3) := by decide +kernel
theorem dX5_laid_285 : decode cX5_laid 285 = .ok (.iconst 1, 1) := by decide +kernel
theorem dX5_laid_286 : decode cX5_laid 286 = .ok (.ireturn, 1) := by decide +kernel
theorem dX5_assemble_0 : decode cX5_assemble 0 = .ok (.aload_n 0, 1) := by decide +kernel
theorem dX5_assemble_1 : decode cX5_assemble 1 = .ok (.aload_n 0, 1) := by decide +kernel
theorem dX5_assemble_2 : decode cX5_assemble 2 = .ok (.getfield 124, 3) := by decide +kernel
theorem dX5_assemble_5 : decode cX5_assemble 5 = .ok (.ifCond .eq 7, 3) := by decide +kernel
theorem dX5_assemble_8 : decode cX5_assemble 8 = .ok (.iconst 0, 1) := by decide +kernel
theorem dX5_assemble_9 : decode cX5_assemble 9 = .ok (.goto 4, 3) := by decide +kernel
theorem dX5_assemble_12 : decode cX5_assemble 12 = .ok (.iconst 1, 1) := by decide +kernel
theorem dX5_assemble_13 : decode cX5_assemble 13 = .ok (.putfield 82, 3) := by decide +kernel
theorem dX5_assemble_16 : decode cX5_assemble 16 = .ok (.aload_n 0, 1) := by decide +kernel
theorem dX5_assemble_17 : decode cX5_assemble 17 = .ok (.getfield 82, 3) := by decide +kernel
theorem dX5_assemble_20 : decode cX5_assemble 20 = .ok (.ifCond .eq 5, 3) := by decide +kernel
theorem dX5_assemble_23 : decode cX5_assemble 23 = .ok (.iconst 0, 1) := by decide +kernel
theorem dX5_assemble_24 : decode cX5_assemble 24 = .ok (.ireturn, 1) := by decide +kernel
theorem dX5_assemble_25 : decode cX5_assemble 25 = .ok (.aload_n 0, 1) := by decide +kernel
theorem dX5_assemble_26 : decode cX5_assemble 26 = .ok (.invokevirtual 191, 3) := by decide +kernel
theorem dX5_assemble_29 : decode cX5_assemble 29 = .ok (.istore_n 2, 1) := by decide +kernel
theorem dX5_assemble_30 : decode cX5_assemble 30 = .ok (.iload_n 2, 1) := by decide +kernel
theorem dX5_assemble_31 : decode cX5_assemble 31 = .ok (.ifCond .lt 15, 3) := by decide +kernel
theorem dX5_assemble_34 : decode cX5_assemble 34 = .ok (.aload_n 0, 1) := by decide +kernel
theorem dX5_assemble_35 : decode cX5_assemble 35 = .ok (.iload_n 2, 1) := by decide +kernel
theorem dX5_assemble_36 : decode cX5_assemble 36 = .ok (.putfield 75, 3) := by decide +kernel
theorem dX5_assemble_39 : decode cX5_assemble 39 = .ok (.aload_n 0, 1) := by decide +kernel
theorem dX5_assemble_40 : decode cX5_assemble 40 = .ok (.iconst 2, 1) := by decide +kernel
theorem dX5_assemble_41 : decode cX5_assemble 41 = .ok (.putfield 82, 3) := by decide +kernel
theorem dX5_assemble_44 : decode cX5_assemble 44 = .ok (.iconst 0, 1) := by decide +kernel
theorem dX5_assemble_45 : decode cX5_assemble 45 = .ok (.ireturn, 1) := by decide +kernel
theorem dX5_assemble_46 : decode cX5_assemble 46 = .ok (.iconst 0, 1) := by decide +kernel
theorem dX5_assemble_47 : decode cX5_assemble 47 = .ok (.istore_n 3, 1) := by decide +kernel
theorem dX5_assemble_48 : decode cX5_assemble 48 = .ok (.iconst 0, 1) := by decide +kernel
theorem dX5_assemble_49 : decode cX5_assemble 49 = .ok (.istore 4, 2) := by decide +kernel
theorem dX5_assemble_51 : decode cX5_assemble 51 = .ok (.iload 4, 2) := by decide +kernel
theorem dX5_assemble_53 : decode cX5_assemble 53 = .ok (.aload_n 0, 1) := by decide +kernel
theorem dX5_assemble_54 : decode cX5_assemble 54 = .ok (.getfield 181, 3) := by decide +kernel
theorem dX5_assemble_57 : decode cX5_assemble 57 = .ok (.if_icmp .ge 60, 3) := by decide +kernel
theorem dX5_assemble_60 : decode cX5_assemble 60 = .ok (.aload_n 0, 1) := by decide +kernel
theorem dX5_assemble_61 : decode cX5_assemble 61 = .ok (.getfield 69, 3) := by decide +kernel
theorem dX5_assemble_64 : decode cX5_assemble 64 = .ok (.iload 4, 2) := by decide +kernel
theorem dX5_assemble_66 : decode cX5_assemble 66 = .ok (.iload_n 3, 1) := by decide +kernel
theorem dX5_assemble_67 : decode cX5_assemble 67 = .ok (.iastore, 1) := by decide +kernel
theorem dX5_assemble_68 : decode cX5_assemble 68 = .ok (.iload_n 3, 1) := by decide +kernel
theorem dX5_assemble_69 : decode cX5_assemble 69 = .ok (.aload_n 0, 1) := by decide +kernel
theorem dX5_assemble_70 : decode cX5_assemble 70 = .ok (.getfield 50, 3) := by decide +kernel
theorem dX5_assemble_73 : decode cX5_assemble 73 = .ok (.iload 4, 2) := by decide +kernel
theorem dX5_assemble_75 : decode cX5_assemble 75 = .ok (.iaload, 1) := by decide +kernel
theorem dX5_assemble_76 : decode cX5_assemble 76 = .ok (.ifCond .le 32, 3) := by decide +kernel
theorem dX5_assemble_79 : decode cX5_assemble 79 = .ok (.aload_n 0, 1) := by decide +kernel
theorem dX5_assemble_80 : decode cX5_assemble 80 = .ok (.getfield 17, 3) := by decide +kernel
theorem dX5_assemble_83 : decode cX5_assemble 83 = .ok (.aload_n 0, 1) := by decide +kernel
theorem dX5_assemble_84 : decode cX5_assemble 84 = .ok (.aload_n 0, 1) := by decide +kernel
theorem dX5_assemble_85 : decode cX5_assemble 85 = .ok (.getfield 50, 3) := by decide +kernel
theorem dX5_assemble_88 : decode cX5_assemble 88 = .ok (.iload 4, 2) := by decide +kernel
theorem dX5_assemble_90 : decode cX5_assemble 90 = .ok (.iaload, 1) := by decide +kernel
theorem dX5_assemble_91 : decode cX5_assemble 91 = .ok (.aload_n 0, 1) := by decide +kernel
theorem dX5_assemble_92 : decode cX5_assemble 92 = .ok (.getfield 53, 3) := by decide +kernel
theorem dX5_assemble_95 : decode cX5_assemble 95 = .ok (.iload 4, 2) := by decide +kernel
theorem dX5_assemble_97 : decode cX5_assemble 97 = .ok (.iaload, 1) := by decide +kernel
theorem dX5_assemble_98 : decode cX5_assemble 98 = .ok (.invokevirtual 120, 3) := by decide +kernel
theorem dX5_assemble_101 : decode cX5_assemble 101 = .ok (.iaload, 1) := by decide +kernel
theorem dX5_assemble_102 : decode cX5_assemble 102 = .ok (.bipush 8, 2) := by decide +kernel
theorem dX5_assemble_104 : decode cX5_assemble 104 = .ok (.idiv, 1) := by decide +kernel
theorem dX5_assemble_105 : decode cX5_assemble 105 = .ok (.goto 4, 3) := by decide +kernel
theorem dX5_assemble_108 : decode cX5_assemble 108 = .ok (.iconst 0, 1) := by decide +kernel
theorem dX5_assemble_109 : decode cX5_assemble 109 = .ok (.iadd, 1) := by decide +kernel
theorem dX5_assemble_110 : decode cX5_assemble 110 = .ok (.istore_n 3, 1) := by decide +kernel
theorem dX5_assemble_111 : decode cX5_assemble 111 = .ok (.iinc 4 1, 3) := by decide +kernel
theorem dX5_assemble_114 : decode cX5_assemble 114 = .ok (.goto (-63), 3) := by decide +kernel
theorem dX5_assemble_117 : decode cX5_assemble 117 = .ok (.aload_n 0, 1) := by decide +kernel
theorem dX5_assemble_118 : decode cX5_assemble 118 = .ok (.iload_n 1, 1) := by decide +kernel
theorem dX5_assemble_119 : decode cX5_assemble 119 = .ok (.iconst 0, 1) := by decide +kernel
theorem dX5_assemble_120 : decode cX5_assemble 120 = .ok (.bipush 63, 2) := by decide +kernel
theorem dX5_assemble_122 : decode cX5_assemble 122 = .ok (.invokestatic 127, 3) := by decide +kernel
theorem dX5_assemble_125 : decode cX5_assemble 125 = .ok (.ifCond .ne 11, 3) := by decide +kernel
theorem dX5_assemble_128 : decode cX5_assemble 128 = .ok (.iload_n 1, 1) := by decide +kernel
theorem dX5_assemble_129 : decode cX5_assemble 129 = .ok (.iload_n 3, 1) := by decide +kernel
theorem dX5_assemble_130 : decode cX5_assemble 130 = .ok (.iadd, 1) := by decide +kernel
theorem dX5_assemble_131 : decode cX5_assemble 131 = .ok (.bipush 64, 2) := by decide +kernel
theorem dX5_assemble_133 : decode cX5_assemble 133 = .ok (.if_icmp .le 7, 3) := by decide +kernel
theorem dX5_assemble_136 : decode cX5_assemble 136 = .ok (.iconst 3, 1) := by decide +kernel
theorem dX5_assemble_137 : decode cX5_assemble 137 = .ok (.goto 4, 3) := by decide +kernel
theorem dX5_assemble_140 : decode cX5_assemble 140 = .ok (.iconst 0, 1) := by decide +kernel
theorem dX5_assemble_141 : decode cX5_assemble 141 = .ok (.putfield 82, 3) := by decide +kernel
theorem dX5_assemble_144 : decode cX5_assemble 144 = .ok (.aload_n 0, 1) := by decide +kernel
theorem dX5_assemble_145 : decode cX5_assemble 145 = .ok (.getfield 82, 3) := by decide +kernel
theorem dX5_assemble_148 : decode cX5_assemble 148 = .ok (.ifCond .eq 5, 3) := by decide +kernel
theorem dX5_assemble_151 : decode cX5_assemble 151 = .ok (.iconst 0, 1) := by decide +kernel
theorem dX5_assemble_152 : decode cX5_assemble 152 = .ok (.ireturn, 1) := by decide +kernel
theorem dX5_assemble_153 : decode cX5_assemble 153 = .ok (.iconst 0, 1) := by decide +kernel
theorem dX5_assemble_154 : decode cX5_assemble 154 = .ok (.istore 4, 2) := by decide +kernel
theorem dX5_assemble_156 : decode cX5_assemble 156 = .ok (.iload 4, 2) := by decide +kernel
theorem dX5_assemble_158 : decode cX5_assemble 158 = .ok (.aload_n 0, 1) := by decide +kernel
theorem dX5_assemble_159 : decode cX5_assemble 159 = .ok (.getfield 181, 3) := by decide +kernel
theorem dX5_assemble_162 : decode cX5_assemble 162 = .ok (.if_icmp .ge 20, 3) := by decide +kernel
theorem dX5_assemble_165 : decode cX5_assemble 165 = .ok (.aload_n 0, 1) := by decide +kernel
theorem dX5_assemble_166 : decode cX5_assemble 166 = .ok (.getfield 69, 3) := by decide +kernel
theorem dX5_assemble_169 : decode cX5_assemble 169 = .ok (.iload 4, 2) := by decide +kernel
theorem dX5_assemble_171 : decode cX5_assemble 171 = .ok (.dup2, 1) := by decide +kernel
theorem dX5_assemble_172 : decode cX5_assemble 172 = .ok (.iaload, 1) := by decide +kernel
theorem dX5_assemble_173 : decode cX5_assemble 173 = .ok (.iload_n 1, 1) := by decide +kernel
theorem dX5_assemble_174 : decode cX5_assemble 174 = .ok (.iadd, 1) := by decide +kernel
theorem dX5_assemble_175 : decode cX5_assemble 175 = .ok (.iastore, 1) := by decide +kernel
theorem dX5_assemble_176 : decode cX5_assemble 176 = .ok (.iinc 4 1, 3) := by decide +kernel
theorem dX5_assemble_179 : decode cX5_assemble 179 = .ok (.goto (-23), 3) := by decide +kernel
theorem dX5_assemble_182 : decode cX5_assemble 182 = .ok (.iconst 0, 1) := by decide +kernel
theorem dX5_assemble_183 : decode cX5_assemble 183 = .ok (.istore 4, 2) := by decide +kernel
theorem dX5_assemble_185 : decode cX5_assemble 185 = .ok (.iload 4, 2) := by decide +kernel
theorem dX5_assemble_187 : decode cX5_assemble 187 = .ok (.aload_n 0, 1) := by decide +kernel
theorem dX5_assemble_188 : decode cX5_assemble 188 = .ok (.getfield 181, 3) := by decide +kernel
theorem dX5_assemble_191 : decode cX5_assemble 191 = .ok (.if_icmp .ge 59, 3) := by decide +kernel
theorem dX5_assemble_194 : decode cX5_assemble 194 = .ok (.aload_n 0, 1) := by decide +kernel
theorem dX5_assemble_195 : decode cX5_assemble 195 = .ok (.getfield 50, 3) := by decide +kernel
theorem dX5_assemble_198 : decode cX5_assemble 198 = .ok (.iload 4, 2) := by decide +kernel
theorem dX5_assemble_200 : decode cX5_assemble 200 = .ok (.iaload, 1) := by decide +kernel
theorem dX5_assemble_201 : decode cX5_assemble 201 = .ok (.ifCond .le 43, 3) := by decide +kernel
theorem dX5_assemble_204 : decode cX5_assemble 204 = .ok (.aload_n 0, 1) := by decide +kernel
theorem dX5_assemble_205 : decode cX5_assemble 205 = .ok (.iload 4, 2) := by decide +kernel
theorem dX5_assemble_207 : decode cX5_assemble 207 = .ok (.aload_n 0, 1) := by decide +kernel
theorem dX5_assemble_208 : decode cX5_assemble 208 = .ok (.aload_n 0, 1) := by decide +kernel
theorem dX5_assemble_209 : decode cX5_assemble 209 = .ok (.getfield 50, 3) := by decide +kernel
theorem dX5_assemble_212 : decode cX5_assemble 212 = .ok (.iload 4, 2) := by decide +kernel
theorem dX5_assemble_214 : decode cX5_assemble 214 = .ok (.iaload, 1) := by decide +kernel
theorem dX5_assemble_215 : decode cX5_assemble 215 = .ok (.aload_n 0, 1) := by decide +kernel
theorem dX5_assemble_216 : decode cX5_assemble 216 = .ok (.getfield 53, 3) := by decide +kernel
theorem dX5_assemble_219 : decode cX5_assemble 219 = .ok (.iload 4, 2) := by decide +kernel
theorem dX5_assemble_221 : decode cX5_assemble 221 = .ok (.iaload, 1) := by decide +kernel
theorem dX5_assemble_222 : decode cX5_assemble 222 = .ok (.invokevirtual 120, 3) := by decide +kernel
theorem dX5_assemble_225 : decode cX5_assemble 225 = .ok (.invokevirtual 194, 3) := by decide +kernel
theorem dX5_assemble_228 : decode cX5_assemble 228 = .ok (.ifCond .ne 16, 3) := by decide +kernel
theorem dX5_assemble_231 : decode cX5_assemble 231 = .ok (.aload_n 0, 1) := by decide +kernel
theorem dX5_assemble_232 : decode cX5_assemble 232 = .ok (.iload 4, 2) := by decide +kernel
theorem dX5_assemble_234 : decode cX5_assemble 234 = .ok (.putfield 75, 3) := by decide +kernel
theorem dX5_assemble_237 : decode cX5_assemble 237 = .ok (.aload_n 0, 1) := by decide +kernel
theorem dX5_assemble_238 : decode cX5_assemble 238 = .ok (.iconst 4, 1) := by decide +kernel
theorem dX5_assemble_239 : decode cX5_assemble 239 = .ok (.putfield 82, 3) := by decide +kernel
theorem dX5_assemble_242 : decode cX5_assemble 242 = .ok (.iconst 0, 1) := by decide +kernel
theorem dX5_assemble_243 : decode cX5_assemble 243 = .ok (.ireturn, 1) := by decide +kernel
theorem dX5_assemble_244 : decode cX5_assemble 244 = .ok (.iinc 4 1, 3) := by decide +kernel
theorem dX5_assemble_247 : decode cX5_assemble 247 = .ok (.goto (-62), 3) := by decide +kernel
theorem dX5_assemble_250 : decode cX5_assemble 250 = .ok (.iload_n 1, 1) := by decide +kernel
theorem dX5_assemble_251 : decode cX5_assemble 251 = .ok (.istore 4, 2) := by decide +kernel
theorem dX5_assemble_253 : decode cX5_assemble 253 = .ok (.iload 4, 2) := by decide +kernel
theorem dX5_assemble_255 : decode cX5_assemble 255 = .ok (.iload_n 1, 1) := by decide +kernel
theorem dX5_assemble_256 : decode cX5_assemble 256 = .ok (.iload_n 3, 1) := by decide +kernel
theorem dX5_assemble_257 : decode cX5_assemble 257 = .ok (.iadd, 1) := by decide +kernel
theorem dX5_assemble_258 : decode cX5_assemble 258 = .ok (.if_icmp .ge 23, 3) := by decide +kernel
theorem dX5_assemble_261 : decode cX5_assemble 261 = .ok (.aload_n 0, 1) := by decide +kernel
theorem dX5_assemble_262 : decode cX5_assemble 262 = .ok (.getfield 44, 3) := by decide +kernel
theorem dX5_assemble_265 : decode cX5_assemble 265 = .ok (.iload 4, 2) := by decide +kernel
theorem dX5_assemble_267 : decode cX5_assemble 267 = .ok (.aload_n 0, 1) := by decide +kernel
theorem dX5_assemble_268 : decode cX5_assemble 268 = .ok (.getfield 72, 3) := by decide +kernel
theorem dX5_assemble_271 : decode cX5_assemble 271 = .ok (.iload 4, 2) := by decide +kernel
theorem dX5_assemble_273 : decode cX5_assemble 273 = .ok (.iaload, 1) := by decide +kernel
theorem dX5_assemble_274 : decode cX5_assemble 274 = .ok (.iastore, 1) := by decide +kernel
theorem dX5_assemble_275 : decode cX5_assemble 275 = .ok (.iinc 4 1, 3) := by decide +kernel
theorem dX5_assemble_278 : decode cX5_assemble 278 = .ok (.goto (-25), 3) := by decide +kernel
theorem dX5_assemble_281 : decode cX5_assemble 281 = .ok (.iload_n 3, 1) := by decide +kernel
theorem dX5_assemble_282 : decode cX5_assemble 282 = .ok (.ireturn, 1) := by decide +kernel
theorem dX5_fault_0 : decode cX5_fault 0 = .ok (.aload_n 0, 1) := by decide +kernel
theorem dX5_fault_1 : decode cX5_fault 1 = .ok (.iconst 0, 1) := by decide +kernel
theorem dX5_fault_2 : decode cX5_fault 2 = .ok (.putfield 82, 3) := by decide +kernel
theorem dX5_fault_5 : decode cX5_fault 5 = .ok (.aload_n 0, 1) := by decide +kernel
theorem dX5_fault_6 : decode cX5_fault 6 = .ok (.getfield 75, 3) := by decide +kernel
theorem dX5_fault_9 : decode cX5_fault 9 = .ok (.ireturn, 1) := by decide +kernel
theorem dX5_count_0 : decode cX5_count 0 = .ok (.aload_n 0, 1) := by decide +kernel
theorem dX5_count_1 : decode cX5_count 1 = .ok (.iconst 0, 1) := by decide +kernel
theorem dX5_count_2 : decode cX5_count 2 = .ok (.putfield 82, 3) := by decide +kernel
theorem dX5_count_5 : decode cX5_count 5 = .ok (.iload_n 1, 1) := by decide +kernel
theorem dX5_count_6 : decode cX5_count 6 = .ok (.ifCond .ne 10, 3) := by decide +kernel
theorem dX5_count_9 : decode cX5_count 9 = .ok (.aload_n 0, 1) := by decide +kernel
theorem dX5_count_10 : decode cX5_count 10 = .ok (.getfield 107, 3) := by decide +kernel
theorem dX5_count_13 : decode cX5_count 13 = .ok (.goto 48, 3) := by decide +kernel
theorem dX5_count_16 : decode cX5_count 16 = .ok (.iload_n 1, 1) := by decide +kernel
theorem dX5_count_17 : decode cX5_count 17 = .ok (.iconst 1, 1) := by decide +kernel
theorem dX5_count_18 : decode cX5_count 18 = .ok (.if_icmp .ne 10, 3) := by decide +kernel
theorem dX5_count_21 : decode cX5_count 21 = .ok (.aload_n 0, 1) := by decide +kernel
theorem dX5_count_22 : decode cX5_count 22 = .ok (.getfield 181, 3) := by decide +kernel
theorem dX5_count_25 : decode cX5_count 25 = .ok (.goto 36, 3) := by decide +kernel
theorem dX5_count_28 : decode cX5_count 28 = .ok (.iload_n 1, 1) := by decide +kernel
theorem dX5_count_29 : decode cX5_count 29 = .ok (.iconst 2, 1) := by decide +kernel
theorem dX5_count_30 : decode cX5_count 30 = .ok (.if_icmp .ne 18, 3) := by decide +kernel
theorem dX5_count_33 : decode cX5_count 33 = .ok (.aload_n 0, 1) := by decide +kernel
theorem dX5_count_34 : decode cX5_count 34 = .ok (.getfield 124, 3) := by decide +kernel
theorem dX5_count_37 : decode cX5_count 37 = .ok (.ifCond .eq 7, 3) := by decide +kernel
theorem dX5_count_40 : decode cX5_count 40 = .ok (.iconst 1, 1) := by decide +kernel
theorem dX5_count_41 : decode cX5_count 41 = .ok (.goto 20, 3) := by decide +kernel
theorem dX5_count_44 : decode cX5_count 44 = .ok (.iconst 0, 1) := by decide +kernel
theorem dX5_count_45 : decode cX5_count 45 = .ok (.goto 16, 3) := by decide +kernel
theorem dX5_count_48 : decode cX5_count 48 = .ok (.iload_n 1, 1) := by decide +kernel
theorem dX5_count_49 : decode cX5_count 49 = .ok (.iconst 3, 1) := by decide +kernel
theorem dX5_count_50 : decode cX5_count 50 = .ok (.if_icmp .ne 10, 3) := by decide +kernel
theorem dX5_count_53 : decode cX5_count 53 = .ok (.aload_n 0, 1) := by decide +kernel
theorem dX5_count_54 : decode cX5_count 54 = .ok (.getfield 85, 3) := by decide +kernel
theorem dX5_count_57 : decode cX5_count 57 = .ok (.goto 4, 3) := by decide +kernel
theorem dX5_count_60 : decode cX5_count 60 = .ok (.iconst (-1), 1) := by decide +kernel
theorem dX5_count_61 : decode cX5_count 61 = .ok (.ireturn, 1) := by decide +kernel
