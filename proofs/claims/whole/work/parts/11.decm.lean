/-! the instructions of each method, decoded (laid by program out of the printed names) -/
theorem dX12_init_0 : decode cX12_init 0 = .ok (.aload_n 0, 1) := by decide +kernel
theorem dX12_init_1 : decode cX12_init 1 = .ok (.invokespecial 1, 3) := by decide +kernel
theorem dX12_init_4 : decode cX12_init 4 = .ok (.aload_n 0, 1) := by decide +kernel
theorem dX12_init_5 : decode cX12_init 5 = .ok (.bipush 50, 2) := by decide +kernel
theorem dX12_init_7 : decode cX12_init 7 = .ok (.newarray .int, 2) := by decide +kernel
theorem dX12_init_9 : decode cX12_init 9 = .ok (.putfield 7, 3) := by decide +kernel
theorem dX12_init_12 : decode cX12_init 12 = .ok (.aload_n 0, 1) := by decide +kernel
theorem dX12_init_13 : decode cX12_init 13 = .ok (.bipush 50, 2) := by decide +kernel
theorem dX12_init_15 : decode cX12_init 15 = .ok (.newarray .int, 2) := by decide +kernel
theorem dX12_init_17 : decode cX12_init 17 = .ok (.putfield 13, 3) := by decide +kernel
theorem dX12_init_20 : decode cX12_init 20 = .ok (.aload_n 0, 1) := by decide +kernel
theorem dX12_init_21 : decode cX12_init 21 = .ok (.bipush 10, 2) := by decide +kernel
theorem dX12_init_23 : decode cX12_init 23 = .ok (.newarray .int, 2) := by decide +kernel
theorem dX12_init_25 : decode cX12_init 25 = .ok (.putfield 16, 3) := by decide +kernel
theorem dX12_init_28 : decode cX12_init 28 = .ok (.aload_n 0, 1) := by decide +kernel
theorem dX12_init_29 : decode cX12_init 29 = .ok (.bipush 10, 2) := by decide +kernel
theorem dX12_init_31 : decode cX12_init 31 = .ok (.newarray .int, 2) := by decide +kernel
theorem dX12_init_33 : decode cX12_init 33 = .ok (.putfield 19, 3) := by decide +kernel
theorem dX12_init_36 : decode cX12_init 36 = .ok (.aload_n 0, 1) := by decide +kernel
theorem dX12_init_37 : decode cX12_init 37 = .ok (.bipush 10, 2) := by decide +kernel
theorem dX12_init_39 : decode cX12_init 39 = .ok (.newarray .int, 2) := by decide +kernel
theorem dX12_init_41 : decode cX12_init 41 = .ok (.putfield 22, 3) := by decide +kernel
theorem dX12_init_44 : decode cX12_init 44 = .ok (.aload_n 0, 1) := by decide +kernel
theorem dX12_init_45 : decode cX12_init 45 = .ok (.bipush 10, 2) := by decide +kernel
theorem dX12_init_47 : decode cX12_init 47 = .ok (.newarray .int, 2) := by decide +kernel
theorem dX12_init_49 : decode cX12_init 49 = .ok (.putfield 25, 3) := by decide +kernel
theorem dX12_init_52 : decode cX12_init 52 = .ok (.aload_n 0, 1) := by decide +kernel
theorem dX12_init_53 : decode cX12_init 53 = .ok (.bipush 80, 2) := by decide +kernel
theorem dX12_init_55 : decode cX12_init 55 = .ok (.newarray .int, 2) := by decide +kernel
theorem dX12_init_57 : decode cX12_init 57 = .ok (.putfield 28, 3) := by decide +kernel
theorem dX12_init_60 : decode cX12_init 60 = .ok (.aload_n 0, 1) := by decide +kernel
theorem dX12_init_61 : decode cX12_init 61 = .ok (.iconst 1, 1) := by decide +kernel
theorem dX12_init_62 : decode cX12_init 62 = .ok (.putfield 31, 3) := by decide +kernel
theorem dX12_init_65 : decode cX12_init 65 = .ok (.aload_n 0, 1) := by decide +kernel
theorem dX12_init_66 : decode cX12_init 66 = .ok (.bipush 10, 2) := by decide +kernel
theorem dX12_init_68 : decode cX12_init 68 = .ok (.putfield 35, 3) := by decide +kernel
theorem dX12_init_71 : decode cX12_init 71 = .ok (.aload_n 0, 1) := by decide +kernel
theorem dX12_init_72 : decode cX12_init 72 = .ok (.iconst 1, 1) := by decide +kernel
theorem dX12_init_73 : decode cX12_init 73 = .ok (.putfield 38, 3) := by decide +kernel
theorem dX12_init_76 : decode cX12_init 76 = .ok (.aload_n 0, 1) := by decide +kernel
theorem dX12_init_77 : decode cX12_init 77 = .ok (.sipush 2000, 3) := by decide +kernel
theorem dX12_init_80 : decode cX12_init 80 = .ok (.newarray .long, 2) := by decide +kernel
theorem dX12_init_82 : decode cX12_init 82 = .ok (.putfield 41, 3) := by decide +kernel
theorem dX12_init_85 : decode cX12_init 85 = .ok (.aload_n 0, 1) := by decide +kernel
theorem dX12_init_86 : decode cX12_init 86 = .ok (.bipush 40, 2) := by decide +kernel
theorem dX12_init_88 : decode cX12_init 88 = .ok (.newarray .int, 2) := by decide +kernel
theorem dX12_init_90 : decode cX12_init 90 = .ok (.putfield 45, 3) := by decide +kernel
theorem dX12_init_93 : decode cX12_init 93 = .ok (.aload_n 0, 1) := by decide +kernel
theorem dX12_init_94 : decode cX12_init 94 = .ok (.iconst 4, 1) := by decide +kernel
theorem dX12_init_95 : decode cX12_init 95 = .ok (.newarray .int, 2) := by decide +kernel
theorem dX12_init_97 : decode cX12_init 97 = .ok (.putfield 48, 3) := by decide +kernel
theorem dX12_init_100 : decode cX12_init 100 = .ok (.aload_n 0, 1) := by decide +kernel
theorem dX12_init_101 : decode cX12_init 101 = .ok (.iconst 4, 1) := by decide +kernel
theorem dX12_init_102 : decode cX12_init 102 = .ok (.newarray .int, 2) := by decide +kernel
theorem dX12_init_104 : decode cX12_init 104 = .ok (.putfield 51, 3) := by decide +kernel
theorem dX12_init_107 : decode cX12_init 107 = .ok (.aload_n 0, 1) := by decide +kernel
theorem dX12_init_108 : decode cX12_init 108 = .ok (.sipush 160, 3) := by decide +kernel
theorem dX12_init_111 : decode cX12_init 111 = .ok (.newarray .long, 2) := by decide +kernel
theorem dX12_init_113 : decode cX12_init 113 = .ok (.putfield 54, 3) := by decide +kernel
theorem dX12_init_116 : decode cX12_init 116 = .ok (.aload_n 0, 1) := by decide +kernel
theorem dX12_init_117 : decode cX12_init 117 = .ok (.sipush 4096, 3) := by decide +kernel
theorem dX12_init_120 : decode cX12_init 120 = .ok (.newarray .int, 2) := by decide +kernel
theorem dX12_init_122 : decode cX12_init 122 = .ok (.putfield 57, 3) := by decide +kernel
theorem dX12_init_125 : decode cX12_init 125 = .ok (.aload_n 0, 1) := by decide +kernel
theorem dX12_init_126 : decode cX12_init 126 = .ok (.sipush 4096, 3) := by decide +kernel
theorem dX12_init_129 : decode cX12_init 129 = .ok (.newarray .int, 2) := by decide +kernel
theorem dX12_init_131 : decode cX12_init 131 = .ok (.putfield 60, 3) := by decide +kernel
theorem dX12_init_134 : decode cX12_init 134 = .ok (.aload_n 0, 1) := by decide +kernel
theorem dX12_init_135 : decode cX12_init 135 = .ok (.sipush 4096, 3) := by decide +kernel
theorem dX12_init_138 : decode cX12_init 138 = .ok (.newarray .int, 2) := by decide +kernel
theorem dX12_init_140 : decode cX12_init 140 = .ok (.putfield 63, 3) := by decide +kernel
theorem dX12_init_143 : decode cX12_init 143 = .ok (.aload_n 0, 1) := by decide +kernel
theorem dX12_init_144 : decode cX12_init 144 = .ok (.sipush 500, 3) := by decide +kernel
theorem dX12_init_147 : decode cX12_init 147 = .ok (.newarray .long, 2) := by decide +kernel
theorem dX12_init_149 : decode cX12_init 149 = .ok (.putfield 66, 3) := by decide +kernel
theorem dX12_init_152 : decode cX12_init 152 = .ok (.aload_n 0, 1) := by decide +kernel
theorem dX12_init_153 : decode cX12_init 153 = .ok (.sipush 500, 3) := by decide +kernel
theorem dX12_init_156 : decode cX12_init 156 = .ok (.newarray .long, 2) := by decide +kernel
theorem dX12_init_158 : decode cX12_init 158 = .ok (.putfield 69, 3) := by decide +kernel
theorem dX12_init_161 : decode cX12_init 161 = .ok (.aload_n 0, 1) := by decide +kernel
theorem dX12_init_162 : decode cX12_init 162 = .ok (.sipush 500, 3) := by decide +kernel
theorem dX12_init_165 : decode cX12_init 165 = .ok (.newarray .long, 2) := by decide +kernel
theorem dX12_init_167 : decode cX12_init 167 = .ok (.putfield 72, 3) := by decide +kernel
theorem dX12_init_170 : decode cX12_init 170 = .ok (.aload_n 0, 1) := by decide +kernel
theorem dX12_init_171 : decode cX12_init 171 = .ok (.bipush 40, 2) := by decide +kernel
theorem dX12_init_173 : decode cX12_init 173 = .ok (.newarray .long, 2) := by decide +kernel
theorem dX12_init_175 : decode cX12_init 175 = .ok (.putfield 75, 3) := by decide +kernel
theorem dX12_init_178 : decode cX12_init 178 = .ok (.iconst 0, 1) := by decide +kernel
theorem dX12_init_179 : decode cX12_init 179 = .ok (.istore_n 1, 1) := by decide +kernel
theorem dX12_init_180 : decode cX12_init 180 = .ok (.iload_n 1, 1) := by decide +kernel
theorem dX12_init_181 : decode cX12_init 181 = .ok (.iconst 4, 1) := by decide +kernel
theorem dX12_init_182 : decode cX12_init 182 = .ok (.if_icmp .ge 16, 3) := by decide +kernel
theorem dX12_init_185 : decode cX12_init 185 = .ok (.aload_n 0, 1) := by decide +kernel
theorem dX12_init_186 : decode cX12_init 186 = .ok (.getfield 48, 3) := by decide +kernel
theorem dX12_init_189 : decode cX12_init 189 = .ok (.iload_n 1, 1) := by decide +kernel
theorem dX12_init_190 : decode cX12_init 190 = .ok (.iconst (-1), 1) := by decide +kernel
theorem dX12_init_191 : decode cX12_init 191 = .ok (.iastore, 1) := by decide +kernel
theorem dX12_init_192 : decode cX12_init 192 = .ok (.iinc 1 1, 3) := by decide +kernel
theorem dX12_init_195 : decode cX12_init 195 = .ok (.goto (-15), 3) := by decide +kernel
theorem dX12_init_198 : decode cX12_init 198 = .ok (.return_, 1) := by decide +kernel
theorem dX12_in_0 : decode cX12_in 0 = .ok (.iload_n 0, 1) := by decide +kernel
theorem dX12_in_1 : decode cX12_in 1 = .ok (.iload_n 1, 1) := by decide +kernel
theorem dX12_in_2 : decode cX12_in 2 = .ok (.if_icmp .lt 12, 3) := by decide +kernel
theorem dX12_in_5 : decode cX12_in 5 = .ok (.iload_n 0, 1) := by decide +kernel
theorem dX12_in_6 : decode cX12_in 6 = .ok (.iload_n 2, 1) := by decide +kernel
theorem dX12_in_7 : decode cX12_in 7 = .ok (.if_icmp .gt 7, 3) := by decide +kernel
theorem dX12_in_10 : decode cX12_in 10 = .ok (.iconst 1, 1) := by decide +kernel
theorem dX12_in_11 : decode cX12_in 11 = .ok (.goto 4, 3) := by decide +kernel
theorem dX12_in_14 : decode cX12_in 14 = .ok (.iconst 0, 1) := by decide +kernel
theorem dX12_in_15 : decode cX12_in 15 = .ok (.ireturn, 1) := by decide +kernel
theorem dX12_things_0 : decode cX12_things 0 = .ok (.aload_n 0, 1) := by decide +kernel
theorem dX12_things_1 : decode cX12_things 1 = .ok (.getfield 7, 3) := by decide +kernel
theorem dX12_things_4 : decode cX12_things 4 = .ok (.iconst 0, 1) := by decide +kernel
theorem dX12_things_5 : decode cX12_things 5 = .ok (.iaload, 1) := by decide +kernel
theorem dX12_things_6 : decode cX12_things 6 = .ok (.ireturn, 1) := by decide +kernel
theorem dX12_lines_0 : decode cX12_lines 0 = .ok (.aload_n 0, 1) := by decide +kernel
theorem dX12_lines_1 : decode cX12_lines 1 = .ok (.getfield 7, 3) := by decide +kernel
theorem dX12_lines_4 : decode cX12_lines 4 = .ok (.iconst 1, 1) := by decide +kernel
theorem dX12_lines_5 : decode cX12_lines 5 = .ok (.iaload, 1) := by decide +kernel
theorem dX12_lines_6 : decode cX12_lines 6 = .ok (.ireturn, 1) := by decide +kernel
theorem dX12_from_0 : decode cX12_from 0 = .ok (.aload_n 0, 1) := by decide +kernel
theorem dX12_from_1 : decode cX12_from 1 = .ok (.getfield 7, 3) := by decide +kernel
theorem dX12_from_4 : decode cX12_from 4 = .ok (.iconst 2, 1) := by decide +kernel
theorem dX12_from_5 : decode cX12_from 5 = .ok (.iconst 4, 1) := by decide +kernel
theorem dX12_from_6 : decode cX12_from 6 = .ok (.iload_n 1, 1) := by decide +kernel
theorem dX12_from_7 : decode cX12_from 7 = .ok (.imul, 1) := by decide +kernel
theorem dX12_from_8 : decode cX12_from 8 = .ok (.iadd, 1) := by decide +kernel
theorem dX12_from_9 : decode cX12_from 9 = .ok (.iaload, 1) := by decide +kernel
theorem dX12_from_10 : decode cX12_from 10 = .ok (.ireturn, 1) := by decide +kernel
theorem dX12_to_0 : decode cX12_to 0 = .ok (.aload_n 0, 1) := by decide +kernel
theorem dX12_to_1 : decode cX12_to 1 = .ok (.getfield 7, 3) := by decide +kernel
theorem dX12_to_4 : decode cX12_to 4 = .ok (.iconst 3, 1) := by decide +kernel
theorem dX12_to_5 : decode cX12_to 5 = .ok (.iconst 4, 1) := by decide +kernel
theorem dX12_to_6 : decode cX12_to 6 = .ok (.iload_n 1, 1) := by decide +kernel
theorem dX12_to_7 : decode cX12_to 7 = .ok (.imul, 1) := by decide +kernel
theorem dX12_to_8 : decode cX12_to 8 = .ok (.iadd, 1) := by decide +kernel
theorem dX12_to_9 : decode cX12_to 9 = .ok (.iaload, 1) := by decide +kernel
theorem dX12_to_10 : decode cX12_to 10 = .ok (.ireturn, 1) := by decide +kernel
theorem dX12_startOf_0 : decode cX12_startOf 0 = .ok (.iconst 0, 1) := by decide +kernel
theorem dX12_startOf_1 : decode cX12_startOf 1 = .ok (.istore_n 2, 1) := by decide +kernel
theorem dX12_startOf_2 : decode cX12_startOf 2 = .ok (.iconst 0, 1) := by decide +kernel
theorem dX12_startOf_3 : decode cX12_startOf 3 = .ok (.istore_n 3, 1) := by decide +kernel
theorem dX12_startOf_4 : decode cX12_startOf 4 = .ok (.iload_n 3, 1) := by decide +kernel
theorem dX12_startOf_5 : decode cX12_startOf 5 = .ok (.aload_n 0, 1) := by decide +kernel
theorem dX12_startOf_6 : decode cX12_startOf 6 = .ok (.invokevirtual 78, 3) := by decide +kernel
theorem dX12_startOf_9 : decode cX12_startOf 9 = .ok (.if_icmp .ge 35, 3) := by decide +kernel
theorem dX12_startOf_12 : decode cX12_startOf 12 = .ok (.iload_n 2, 1) := by decide +kernel
theorem dX12_startOf_13 : decode cX12_startOf 13 = .ok (.iload_n 1, 1) := by decide +kernel
theorem dX12_startOf_14 : decode cX12_startOf 14 = .ok (.iload_n 3, 1) := by decide +kernel
theorem dX12_startOf_15 : decode cX12_startOf 15 = .ok (.ishr, 1) := by decide +kernel
theorem dX12_startOf_16 : decode cX12_startOf 16 = .ok (.iconst 1, 1) := by decide +kernel
theorem dX12_startOf_17 : decode cX12_startOf 17 = .ok (.iand, 1) := by decide +kernel
theorem dX12_startOf_18 : decode cX12_startOf 18 = .ok (.iconst 1, 1) := by decide +kernel
theorem dX12_startOf_19 : decode cX12_startOf 19 = .ok (.if_icmp .ne 16, 3) := by decide +kernel
theorem dX12_startOf_22 : decode cX12_startOf 22 = .ok (.aload_n 0, 1) := by decide +kernel
theorem dX12_startOf_23 : decode cX12_startOf 23 = .ok (.getfield 7, 3) := by decide +kernel
theorem dX12_startOf_26 : decode cX12_startOf 26 = .ok (.iconst 4, 1) := by decide +kernel
theorem dX12_startOf_27 : decode cX12_startOf 27 = .ok (.iconst 4, 1) := by decide +kernel
theorem dX12_startOf_28 : decode cX12_startOf 28 = .ok (.iload_n 3, 1) := by decide +kernel
theorem dX12_startOf_29 : decode cX12_startOf 29 = .ok (.imul, 1) := by decide +kernel
theorem dX12_startOf_30 : decode cX12_startOf 30 = .ok (.iadd, 1) := by decide +kernel
theorem dX12_startOf_31 : decode cX12_startOf 31 = .ok (.iaload, 1) := by decide +kernel
theorem dX12_startOf_32 : decode cX12_startOf 32 = .ok (.goto 4, 3) := by decide +kernel
theorem dX12_startOf_35 : decode cX12_startOf 35 = .ok (.iconst 0, 1) := by decide +kernel
theorem dX12_startOf_36 : decode cX12_startOf 36 = .ok (.iadd, 1) := by decide +kernel
theorem dX12_startOf_37 : decode cX12_startOf 37 = .ok (.istore_n 2, 1) := by decide +kernel
theorem dX12_startOf_38 : decode cX12_startOf 38 = .ok (.iinc 3 1, 3) := by decide +kernel
theorem dX12_startOf_41 : decode cX12_startOf 41 = .ok (.goto (-37), 3) := by decide +kernel
theorem dX12_startOf_44 : decode cX12_startOf 44 = .ok (.iload_n 2, 1) := by decide +kernel
theorem dX12_startOf_45 : decode cX12_startOf 45 = .ok (.ireturn, 1) := by decide +kernel
theorem dX12_riseOf_0 : decode cX12_riseOf 0 = .ok (.iconst 0, 1) := by decide +kernel
theorem dX12_riseOf_1 : decode cX12_riseOf 1 = .ok (.istore_n 2, 1) := by decide +kernel
theorem dX12_riseOf_2 : decode cX12_riseOf 2 = .ok (.iconst 0, 1) := by decide +kernel
theorem dX12_riseOf_3 : decode cX12_riseOf 3 = .ok (.istore_n 3, 1) := by decide +kernel
theorem dX12_riseOf_4 : decode cX12_riseOf 4 = .ok (.iload_n 3, 1) := by decide +kernel
theorem dX12_riseOf_5 : decode cX12_riseOf 5 = .ok (.aload_n 0, 1) := by decide +kernel
theorem dX12_riseOf_6 : decode cX12_riseOf 6 = .ok (.invokevirtual 78, 3) := by decide +kernel
theorem dX12_riseOf_9 : decode cX12_riseOf 9 = .ok (.if_icmp .ge 35, 3) := by decide +kernel
theorem dX12_riseOf_12 : decode cX12_riseOf 12 = .ok (.iload_n 2, 1) := by decide +kernel
theorem dX12_riseOf_13 : decode cX12_riseOf 13 = .ok (.iload_n 1, 1) := by decide +kernel
theorem dX12_riseOf_14 : decode cX12_riseOf 14 = .ok (.iload_n 3, 1) := by decide +kernel
theorem dX12_riseOf_15 : decode cX12_riseOf 15 = .ok (.ishr, 1) := by decide +kernel
theorem dX12_riseOf_16 : decode cX12_riseOf 16 = .ok (.iconst 1, 1) := by decide +kernel
theorem dX12_riseOf_17 : decode cX12_riseOf 17 = .ok (.iand, 1) := by decide +kernel
theorem dX12_riseOf_18 : decode cX12_riseOf 18 = .ok (.iconst 1, 1) := by decide +kernel
theorem dX12_riseOf_19 : decode cX12_riseOf 19 = .ok (.if_icmp .ne 16, 3) := by decide +kernel
theorem dX12_riseOf_22 : decode cX12_riseOf 22 = .ok (.aload_n 0, 1) := by decide +kernel
theorem dX12_riseOf_23 : decode cX12_riseOf 23 = .ok (.getfield 7, 3) := by decide +kernel
theorem dX12_riseOf_26 : decode cX12_riseOf 26 = .ok (.iconst 5, 1) := by decide +kernel
theorem dX12_riseOf_27 : decode cX12_riseOf 27 = .ok (.iconst 4, 1) := by decide +kernel
theorem dX12_riseOf_28 : decode cX12_riseOf 28 = .ok (.iload_n 3, 1) := by decide +kernel
theorem dX12_riseOf_29 : decode cX12_riseOf 29 = .ok (.imul, 1) := by decide +kernel
theorem dX12_riseOf_30 : decode cX12_riseOf 30 = .ok (.iadd, 1) := by decide +kernel
theorem dX12_riseOf_31 : decode cX12_riseOf 31 = .ok (.iaload, 1) := by decide +kernel
theorem dX12_riseOf_32 : decode cX12_riseOf 32 = .ok (.goto 4, 3) := by decide +kernel
theorem dX12_riseOf_35 : decode cX12_riseOf 35 = .ok (.iconst 0, 1) := by decide +kernel
theorem dX12_riseOf_36 : decode cX12_riseOf 36 = .ok (.iadd, 1) := by decide +kernel
theorem dX12_riseOf_37 : decode cX12_riseOf 37 = .ok (.istore_n 2, 1) := by decide +kernel
theorem dX12_riseOf_38 : decode cX12_riseOf 38 = .ok (.iinc 3 1, 3) := by decide +kernel
theorem dX12_riseOf_41 : decode cX12_riseOf 41 = .ok (.goto (-37), 3) := by decide +kernel
theorem dX12_riseOf_44 : decode cX12_riseOf 44 = .ok (.iload_n 2, 1) := by decide +kernel
theorem dX12_riseOf_45 : decode cX12_riseOf 45 = .ok (.ireturn, 1) := by decide +kernel
theorem dX12_isThing_0 : decode cX12_isThing 0 = .ok (.iload_n 1, 1) := by decide +kernel
theorem dX12_isThing_1 : decode cX12_isThing 1 = .ok (.iconst 0, 1) := by decide +kernel
theorem dX12_isThing_2 : decode cX12_isThing 2 = .ok (.aload_n 0, 1) := by decide +kernel
theorem dX12_isThing_3 : decode cX12_isThing 3 = .ok (.invokevirtual 82, 3) := by decide +kernel
theorem dX12_isThing_6 : decode cX12_isThing 6 = .ok (.iconst 1, 1) := by decide +kernel
theorem dX12_isThing_7 : decode cX12_isThing 7 = .ok (.isub, 1) := by decide +kernel
theorem dX12_isThing_8 : decode cX12_isThing 8 = .ok (.invokestatic 85, 3) := by decide +kernel
theorem dX12_isThing_11 : decode cX12_isThing 11 = .ok (.ireturn, 1) := by decide +kernel
theorem dX12_isOffer_0 : decode cX12_isOffer 0 = .ok (.iload_n 1, 1) := by decide +kernel
theorem dX12_isOffer_1 : decode cX12_isOffer 1 = .ok (.iconst 0, 1) := by decide +kernel
theorem dX12_isOffer_2 : decode cX12_isOffer 2 = .ok (.aload_n 0, 1) := by decide +kernel
theorem dX12_isOffer_3 : decode cX12_isOffer 3 = .ok (.getfield 89, 3) := by decide +kernel
theorem dX12_isOffer_6 : decode cX12_isOffer 6 = .ok (.iconst 1, 1) := by decide +kernel
theorem dX12_isOffer_7 : decode cX12_isOffer 7 = .ok (.isub, 1) := by decide +kernel
theorem dX12_isOffer_8 : decode cX12_isOffer 8 = .ok (.invokestatic 85, 3) := by decide +kernel
theorem dX12_isOffer_11 : decode cX12_isOffer 11 = .ok (.ireturn, 1) := by decide +kernel
theorem dX12_isPrice_0 : decode cX12_isPrice 0 = .ok (.iload_n 0, 1) := by decide +kernel
theorem dX12_isPrice_1 : decode cX12_isPrice 1 = .ok (.sipush (-10000), 3) := by decide +kernel
theorem dX12_isPrice_4 : decode cX12_isPrice 4 = .ok (.sipush 10000, 3) := by decide +kernel
theorem dX12_isPrice_7 : decode cX12_isPrice 7 = .ok (.invokestatic 85, 3) := by decide +kernel
theorem dX12_isPrice_10 : decode cX12_isPrice 10 = .ok (.ifCond .eq 18, 3) := by decide +kernel
theorem dX12_isPrice_13 : decode cX12_isPrice 13 = .ok (.iload_n 1, 1) := by decide +kernel
theorem dX12_isPrice_14 : decode cX12_isPrice 14 = .ok (.iconst 1, 1) := by decide +kernel
theorem dX12_isPrice_15 : decode cX12_isPrice 15 = .ok (.sipush 1000, 3) := by decide +kernel
theorem dX12_isPrice_18 : decode cX12_isPrice 18 = .ok (.invokestatic 85, 3) := by decide +kernel
theorem dX12_isPrice_21 : decode cX12_isPrice 21 = .ok (.ifCond .eq 7, 3) := by decide +kernel
theorem dX12_isPrice_24 : decode cX12_isPrice 24 = .ok (.iconst 1, 1) := by decide +kernel
theorem dX12_isPrice_25 : decode cX12_isPrice 25 = .ok (.goto 4, 3) := by decide +kernel
theorem dX12_isPrice_28 : decode cX12_isPrice 28 = .ok (.iconst 0, 1) := by decide +kernel
theorem dX12_isPrice_29 : decode cX12_isPrice 29 = .ok (.ireturn, 1) := by decide +kernel
theorem dX12_common_0 : decode cX12_common 0 = .ok (.lload_n 0, 1) := by decide +kernel
theorem dX12_common_1 : decode cX12_common 1 = .ok (.lconst 0, 1) := by decide +kernel
theorem dX12_common_2 : decode cX12_common 2 = .ok (.lcmp, 1) := by decide +kernel
theorem dX12_common_3 : decode cX12_common 3 = .ok (.ifCond .ge 8, 3) := by decide +kernel
theorem dX12_common_6 : decode cX12_common 6 = .ok (.lload_n 0, 1) := by decide +kernel
theorem dX12_common_7 : decode cX12_common 7 = .ok (.lneg, 1) := by decide +kernel
theorem dX12_common_8 : decode cX12_common 8 = .ok (.goto 4, 3) := by decide +kernel
theorem dX12_common_11 : decode cX12_common 11 = .ok (.lload_n 0, 1) := by decide +kernel
theorem dX12_common_12 : decode cX12_common 12 = .ok (.lstore 4, 2) := by decide +kernel
theorem dX12_common_14 : decode cX12_common 14 = .ok (.lload_n 2, 1) := by decide +kernel
theorem dX12_common_15 : decode cX12_common 15 = .ok (.lconst 0, 1) := by decide +kernel
theorem dX12_common_16 : decode cX12_common 16 = .ok (.lcmp, 1) := by decide +kernel
theorem dX12_common_17 : decode cX12_common 17 = .ok (.ifCond .ge 8, 3) := by decide +kernel
theorem dX12_common_20 : decode cX12_common 20 = .ok (.lload_n 2, 1) := by decide +kernel
theorem dX12_common_21 : decode cX12_common 21 = .ok (.lneg, 1) := by decide +kernel
theorem dX12_common_22 : decode cX12_common 22 = .ok (.goto 4, 3) := by decide +kernel
theorem dX12_common_25 : decode cX12_common 25 = .ok (.lload_n 2, 1) := by decide +kernel
theorem dX12_common_26 : decode cX12_common 26 = .ok (.lstore 6, 2) := by decide +kernel
theorem dX12_common_28 : decode cX12_common 28 = .ok (.lload 6, 2) := by decide +kernel
theorem dX12_common_30 : decode cX12_common 30 = .ok (.lconst 0, 1) := by decide +kernel
theorem dX12_common_31 : decode cX12_common 31 = .ok (.lcmp, 1) := by decide +kernel
theorem dX12_common_32 : decode cX12_common 32 = .ok (.ifCond .eq 21, 3) := by decide +kernel
theorem dX12_common_35 : decode cX12_common 35 = .ok (.lload 4, 2) := by decide +kernel
theorem dX12_common_37 : decode cX12_common 37 = .ok (.lload 6, 2) := by decide +kernel
theorem dX12_common_39 : decode cX12_common 39 = .ok (.lrem, 1) := by decide +kernel
theorem dX12_common_40 : decode cX12_common 40 = .ok (.lstore 8, 2) := by decide +kernel
theorem dX12_common_42 : decode cX12_common 42 = .ok (.lload 6, 2) := by decide +kernel
theorem dX12_common_44 : decode cX12_common 44 = .ok (.lstore 4, 2) := by decide +kernel
theorem dX12_common_46 : decode cX12_common 46 = .ok (.lload 8, 2) := by decide +kernel
theorem dX12_common_48 : decode cX12_common 48 = .ok (.lstore 6, 2) := by decide +kernel
theorem dX12_common_50 : decode cX12_common 50 = .ok (.goto (-22), 3) := by decide +kernel
theorem dX12_common_53 : decode cX12_common 53 = .ok (.lload 4, 2) := by decide +kernel
theorem dX12_common_55 : decode cX12_common 55 = .ok (.lreturn, 1) := by decide +kernel
theorem dX12_lowest_0 : decode cX12_lowest 0 = .ok (.lload_n 0, 1) := by decide +kernel
theorem dX12_lowest_1 : decode cX12_lowest 1 = .ok (.lload_n 2, 1) := by decide +kernel
theorem dX12_lowest_2 : decode cX12_lowest 2 = .ok (.invokestatic 92, 3) := by decide +kernel
theorem dX12_lowest_5 : decode cX12_lowest 5 = .ok (.lstore 5, 2) := by decide +kernel
theorem dX12_lowest_7 : decode cX12_lowest 7 = .ok (.iload 4, 2) := by decide +kernel
theorem dX12_lowest_9 : decode cX12_lowest 9 = .ok (.ifCond .ne 10, 3) := by decide +kernel
theorem dX12_lowest_12 : decode cX12_lowest 12 = .ok (.lload_n 0, 1) := by decide +kernel
theorem dX12_lowest_13 : decode cX12_lowest 13 = .ok (.lload 5, 2) := by decide +kernel
theorem dX12_lowest_15 : decode cX12_lowest 15 = .ok (.ldiv, 1) := by decide +kernel
theorem dX12_lowest_16 : decode cX12_lowest 16 = .ok (.goto 7, 3) := by decide +kernel
theorem dX12_lowest_19 : decode cX12_lowest 19 = .ok (.lload_n 2, 1) := by decide +kernel
theorem dX12_lowest_20 : decode cX12_lowest 20 = .ok (.lload 5, 2) := by decide +kernel
theorem dX12_lowest_22 : decode cX12_lowest 22 = .ok (.ldiv, 1) := by decide +kernel
theorem dX12_lowest_23 : decode cX12_lowest 23 = .ok (.lreturn, 1) := by decide +kernel
theorem dX12_keeps_0 : decode cX12_keeps 0 = .ok (.iconst 0, 1) := by decide +kernel
theorem dX12_keeps_1 : decode cX12_keeps 1 = .ok (.istore_n 1, 1) := by decide +kernel
theorem dX12_keeps_2 : decode cX12_keeps 2 = .ok (.iload_n 1, 1) := by decide +kernel
theorem dX12_keeps_3 : decode cX12_keeps 3 = .ok (.bipush 50, 2) := by decide +kernel
theorem dX12_keeps_5 : decode cX12_keeps 5 = .ok (.if_icmp .ge 21, 3) := by decide +kernel
theorem dX12_keeps_8 : decode cX12_keeps 8 = .ok (.aload_n 0, 1) := by decide +kernel
theorem dX12_keeps_9 : decode cX12_keeps 9 = .ok (.getfield 13, 3) := by decide +kernel
theorem dX12_keeps_12 : decode cX12_keeps 12 = .ok (.iload_n 1, 1) := by decide +kernel
theorem dX12_keeps_13 : decode cX12_keeps 13 = .ok (.aload_n 0, 1) := by decide +kernel
theorem dX12_keeps_14 : decode cX12_keeps 14 = .ok (.getfield 7, 3) := by decide +kernel
theorem dX12_keeps_17 : decode cX12_keeps 17 = .ok (.iload_n 1, 1) := by decide +kernel
theorem dX12_keeps_18 : decode cX12_keeps 18 = .ok (.iaload, 1) := by decide +kernel
theorem dX12_keeps_19 : decode cX12_keeps 19 = .ok (.iastore, 1) := by decide +kernel
theorem dX12_keeps_20 : decode cX12_keeps 20 = .ok (.iinc 1 1, 3) := by decide +kernel
theorem dX12_keeps_23 : decode cX12_keeps 23 = .ok (.goto (-21), 3) := by decide +kernel
theorem dX12_keeps_26 : decode cX12_keeps 26 = .ok (.aload_n 0, 1) := by decide +kernel
theorem dX12_keeps_27 : decode cX12_keeps 27 = .ok (.iconst 1, 1) := by decide +kernel
theorem dX12_keeps_28 : decode cX12_keeps 28 = .ok (.putfield 96, 3) := by decide +kernel
theorem dX12_keeps_31 : decode cX12_keeps 31 = .ok (.return_, 1) := by decide +kernel
theorem dX12_thing_0 : decode cX12_thing 0 = .ok (.aload_n 0, 1) := by decide +kernel
theorem dX12_thing_1 : decode cX12_thing 1 = .ok (.invokevirtual 82, 3) := by decide +kernel
theorem dX12_thing_4 : decode cX12_thing 4 = .ok (.bipush 7, 2) := by decide +kernel
theorem dX12_thing_6 : decode cX12_thing 6 = .ok (.if_icmp .ne 6, 3) := by decide +kernel
theorem dX12_thing_9 : decode cX12_thing 9 = .ok (.bipush (-4), 2) := by decide +kernel
theorem dX12_thing_11 : decode cX12_thing 11 = .ok (.ireturn, 1) := by decide +kernel
theorem dX12_thing_12 : decode cX12_thing 12 = .ok (.aload_n 0, 1) := by decide +kernel
theorem dX12_thing_13 : decode cX12_thing 13 = .ok (.invokevirtual 100, 3) := by decide +kernel
theorem dX12_thing_16 : decode cX12_thing 16 = .ok (.aload_n 0, 1) := by decide +kernel
theorem dX12_thing_17 : decode cX12_thing 17 = .ok (.getfield 7, 3) := by decide +kernel
theorem dX12_thing_20 : decode cX12_thing 20 = .ok (.iconst 0, 1) := by decide +kernel
theorem dX12_thing_21 : decode cX12_thing 21 = .ok (.dup2, 1) := by decide +kernel
theorem dX12_thing_22 : decode cX12_thing 22 = .ok (.iaload, 1) := by decide +kernel
theorem dX12_thing_23 : decode cX12_thing 23 = .ok (.iconst 1, 1) := by decide +kernel
theorem dX12_thing_24 : decode cX12_thing 24 = .ok (.iadd, 1) := by decide +kernel
theorem dX12_thing_25 : decode cX12_thing 25 = .ok (.iastore, 1) := by decide +kernel
theorem dX12_thing_26 : decode cX12_thing 26 = .ok (.aload_n 0, 1) := by decide +kernel
theorem dX12_thing_27 : decode cX12_thing 27 = .ok (.getfield 7, 3) := by decide +kernel
theorem dX12_thing_30 : decode cX12_thing 30 = .ok (.iconst 0, 1) := by decide +kernel
theorem dX12_thing_31 : decode cX12_thing 31 = .ok (.iaload, 1) := by decide +kernel
theorem dX12_thing_32 : decode cX12_thing 32 = .ok (.iconst 1, 1) := by decide +kernel
theorem dX12_thing_33 : decode cX12_thing 33 = .ok (.isub, 1) := by decide +kernel
theorem dX12_thing_34 : decode cX12_thing 34 = .ok (.ireturn, 1) := by decide +kernel
theorem dX12_areTold_0 : decode cX12_areTold 0 = .ok (.iload_n 0, 1) := by decide +kernel
theorem dX12_areTold_1 : decode cX12_areTold 1 = .ok (.bipush (-100), 2) := by decide +kernel
theorem dX12_areTold_3 : decode cX12_areTold 3 = .ok (.bipush 100, 2) := by decide +kernel
theorem dX12_areTold_5 : decode cX12_areTold 5 = .ok (.invokestatic 85, 3) := by decide +kernel
theorem dX12_areTold_8 : decode cX12_areTold 8 = .ok (.ifCond .eq 18, 3) := by decide +kernel
theorem dX12_areTold_11 : decode cX12_areTold 11 = .ok (.iload_n 1, 1) := by decide +kernel
theorem dX12_areTold_12 : decode cX12_areTold 12 = .ok (.bipush (-20), 2) := by decide +kernel
theorem dX12_areTold_14 : decode cX12_areTold 14 = .ok (.bipush 20, 2) := by decide +kernel
theorem dX12_areTold_16 : decode cX12_areTold 16 = .ok (.invokestatic 85, 3) := by decide +kernel
theorem dX12_areTold_19 : decode cX12_areTold 19 = .ok (.ifCond .eq 7, 3) := by decide +kernel
theorem dX12_areTold_22 : decode cX12_areTold 22 = .ok (.iconst 1, 1) := by decide +kernel
theorem dX12_areTold_23 : decode cX12_areTold 23 = .ok (.goto 4, 3) := by decide +kernel
theorem dX12_areTold_26 : decode cX12_areTold 26 = .ok (.iconst 0, 1) := by decide +kernel
theorem dX12_areTold_27 : decode cX12_areTold 27 = .ok (.ireturn, 1) := by decide +kernel
theorem dX12_line_0 : decode cX12_line 0 = .ok (.aload_n 0, 1) := by decide +kernel
theorem dX12_line_1 : decode cX12_line 1 = .ok (.iload_n 1, 1) := by decide +kernel
theorem dX12_line_2 : decode cX12_line 2 = .ok (.invokevirtual 103, 3) := by decide +kernel
theorem dX12_line_5 : decode cX12_line 5 = .ok (.ifCond .eq 25, 3) := by decide +kernel
theorem dX12_line_8 : decode cX12_line 8 = .ok (.aload_n 0, 1) := by decide +kernel
theorem dX12_line_9 : decode cX12_line 9 = .ok (.iload_n 2, 1) := by decide +kernel
theorem dX12_line_10 : decode cX12_line 10 = .ok (.invokevirtual 103, 3) := by decide +kernel
theorem dX12_line_13 : decode cX12_line 13 = .ok (.ifCond .eq 17, 3) := by decide +kernel
theorem dX12_line_16 : decode cX12_line 16 = .ok (.iload_n 1, 1) := by decide +kernel
theorem dX12_line_17 : decode cX12_line 17 = .ok (.iload_n 2, 1) := by decide +kernel
theorem dX12_line_18 : decode cX12_line 18 = .ok (.if_icmp .eq 12, 3) := by decide +kernel
theorem dX12_line_21 : decode cX12_line 21 = .ok (.iload_n 3, 1) := by decide +kernel
theorem dX12_line_22 : decode cX12_line 22 = .ok (.iload 4, 2) := by decide +kernel
theorem dX12_line_24 : decode cX12_line 24 = .ok (.invokestatic 107, 3) := by decide +kernel
theorem dX12_line_27 : decode cX12_line 27 = .ok (.ifCond .ne 6, 3) := by decide +kernel
theorem dX12_line_30 : decode cX12_line 30 = .ok (.bipush (-2), 2) := by decide +kernel
theorem dX12_line_32 : decode cX12_line 32 = .ok (.ireturn, 1) := by decide +kernel
theorem dX12_line_33 : decode cX12_line 33 = .ok (.aload_n 0, 1) := by decide +kernel
theorem dX12_line_34 : decode cX12_line 34 = .ok (.invokevirtual 78, 3) := by decide +kernel
theorem dX12_line_37 : decode cX12_line 37 = .ok (.bipush 12, 2) := by decide +kernel
theorem dX12_line_39 : decode cX12_line 39 = .ok (.if_icmp .ne 6, 3) := by decide +kernel
theorem dX12_line_42 : decode cX12_line 42 = .ok (.bipush (-4), 2) := by decide +kernel
theorem dX12_line_44 : decode cX12_line 44 = .ok (.ireturn, 1) := by decide +kernel
theorem dX12_line_45 : decode cX12_line 45 = .ok (.aload_n 0, 1) := by decide +kernel
theorem dX12_line_46 : decode cX12_line 46 = .ok (.invokevirtual 100, 3) := by decide +kernel
theorem dX12_line_49 : decode cX12_line 49 = .ok (.iconst 2, 1) := by decide +kernel
theorem dX12_line_50 : decode cX12_line 50 = .ok (.iconst 4, 1) := by decide +kernel
theorem dX12_line_51 : decode cX12_line 51 = .ok (.aload_n 0, 1) := by decide +kernel
theorem dX12_line_52 : decode cX12_line 52 = .ok (.invokevirtual 78, 3) := by decide +kernel
theorem dX12_line_55 : decode cX12_line 55 = .ok (.imul, 1) := by decide +kernel
theorem dX12_line_56 : decode cX12_line 56 = .ok (.iadd, 1) := by decide +kernel
theorem dX12_line_57 : decode cX12_line 57 = .ok (.istore 5, 2) := by decide +kernel
theorem dX12_line_59 : decode cX12_line 59 = .ok (.aload_n 0, 1) := by decide +kernel
theorem dX12_line_60 : decode cX12_line 60 = .ok (.getfield 7, 3) := by decide +kernel
theorem dX12_line_63 : decode cX12_line 63 = .ok (.iload 5, 2) := by decide +kernel
theorem dX12_line_65 : decode cX12_line 65 = .ok (.iload_n 1, 1) := by decide +kernel
theorem dX12_line_66 : decode cX12_line 66 = .ok (.iastore, 1) := by decide +kernel
theorem dX12_line_67 : decode cX12_line 67 = .ok (.aload_n 0, 1) := by decide +kernel
theorem dX12_line_68 : decode cX12_line 68 = .ok (.getfield 7, 3) := by decide +kernel
theorem dX12_line_71 : decode cX12_line 71 = .ok (.iload 5, 2) := by decide +kernel
theorem dX12_line_73 : decode cX12_line 73 = .ok (.iconst 1, 1) := by decide +kernel
theorem dX12_line_74 : decode cX12_line 74 = .ok (.iadd, 1) := by decide +kernel
theorem dX12_line_75 : decode cX12_line 75 = .ok (.iload_n 2, 1) := by decide +kernel
theorem dX12_line_76 : decode cX12_line 76 = .ok (.iastore, 1) := by decide +kernel
theorem dX12_line_77 : decode cX12_line 77 = .ok (.aload_n 0, 1) := by decide +kernel
theorem dX12_line_78 : decode cX12_line 78 = .ok (.getfield 7, 3) := by decide +kernel
theorem dX12_line_81 : decode cX12_line 81 = .ok (.iload 5, 2) := by decide +kernel
theorem dX12_line_83 : decode cX12_line 83 = .ok (.iconst 2, 1) := by decide +kernel
theorem dX12_line_84 : decode cX12_line 84 = .ok (.iadd, 1) := by decide +kernel
theorem dX12_line_85 : decode cX12_line 85 = .ok (.iload_n 3, 1) := by decide +kernel
theorem dX12_line_86 : decode cX12_line 86 = .ok (.iastore, 1) := by decide +kernel
theorem dX12_line_87 : decode cX12_line 87 = .ok (.aload_n 0, 1) := by decide +kernel
theorem dX12_line_88 : decode cX12_line 88 = .ok (.getfield 7, 3) := by decide +kernel
theorem dX12_line_91 : decode cX12_line 91 = .ok (.iload 5, 2) := by decide +kernel
theorem dX12_line_93 : decode cX12_line 93 = .ok (.iconst 3, 1) := by decide +kernel
theorem dX12_line_94 : decode cX12_line 94 = .ok (.iadd, 1) := by decide +kernel
theorem dX12_line_95 : decode cX12_line 95 = .ok (.iload 4, 2) := by decide +kernel
theorem dX12_line_97 : decode cX12_line 97 = .ok (.iastore, 1) := by decide +kernel
theorem dX12_line_98 : decode cX12_line 98 = .ok (.aload_n 0, 1) := by decide +kernel
theorem dX12_line_99 : decode cX12_line 99 = .ok (.getfield 7, 3) := by decide +kernel
theorem dX12_line_102 : decode cX12_line 102 = .ok (.iconst 1, 1) := by decide +kernel
theorem dX12_line_103 : decode cX12_line 103 = .ok (.dup2, 1) := by decide +kernel
theorem dX12_line_104 : decode cX12_line 104 = .ok (.iaload, 1) := by decide +kernel
theorem dX12_line_105 : decode cX12_line 105 = .ok (.iconst 1, 1) := by decide +kernel
theorem dX12_line_106 : decode cX12_line 106 = .ok (.iadd, 1) := by decide +kernel
theorem dX12_line_107 : decode cX12_line 107 = .ok (.iastore, 1) := by decide +kernel
theorem dX12_line_108 : decode cX12_line 108 = .ok (.aload_n 0, 1) := by decide +kernel
theorem dX12_line_109 : decode cX12_line 109 = .ok (.getfield 7, 3) := by decide +kernel
theorem dX12_line_112 : decode cX12_line 112 = .ok (.iconst 1, 1) := by decide +kernel
theorem dX12_line_113 : decode cX12_line 113 = .ok (.iaload, 1) := by decide +kernel
theorem dX12_line_114 : decode cX12_line 114 = .ok (.iconst 1, 1) := by decide +kernel
theorem dX12_line_115 : decode cX12_line 115 = .ok (.isub, 1) := by decide +kernel
theorem dX12_line_116 : decode cX12_line 116 = .ok (.ireturn, 1) := by decide +kernel
theorem dX12_alter_0 : decode cX12_alter 0 = .ok (.iload_n 1, 1) := by decide +kernel
theorem dX12_alter_1 : decode cX12_alter 1 = .ok (.iconst 0, 1) := by decide +kernel
theorem dX12_alter_2 : decode cX12_alter 2 = .ok (.aload_n 0, 1) := by decide +kernel
theorem dX12_alter_3 : decode cX12_alter 3 = .ok (.invokevirtual 78, 3) := by decide +kernel
theorem dX12_alter_6 : decode cX12_alter 6 = .ok (.iconst 1, 1) := by decide +kernel
theorem dX12_alter_7 : decode cX12_alter 7 = .ok (.isub, 1) := by decide +kernel
theorem dX12_alter_8 : decode cX12_alter 8 = .ok (.invokestatic 85, 3) := by decide +kernel
theorem dX12_alter_11 : decode cX12_alter 11 = .ok (.ifCond .eq 11, 3) := by decide +kernel
theorem dX12_alter_14 : decode cX12_alter 14 = .ok (.iload_n 2, 1) := by decide +kernel
theorem dX12_alter_15 : decode cX12_alter 15 = .ok (.iload_n 3, 1) := by decide +kernel
theorem dX12_alter_16 : decode cX12_alter 16 = .ok (.invokestatic 107, 3) := by decide +kernel
theorem dX12_alter_19 : decode cX12_alter 19 = .ok (.ifCond .ne 6, 3) := by decide +kernel
theorem dX12_alter_22 : decode cX12_alter 22 = .ok (.bipush (-2), 2) := by decide +kernel
theorem dX12_alter_24 : decode cX12_alter 24 = .ok (.ireturn, 1) := by decide +kernel
theorem dX12_alter_25 : decode cX12_alter 25 = .ok (.aload_n 0, 1) := by decide +kernel
theorem dX12_alter_26 : decode cX12_alter 26 = .ok (.invokevirtual 100, 3) := by decide +kernel
theorem dX12_alter_29 : decode cX12_alter 29 = .ok (.aload_n 0, 1) := by decide +kernel
theorem dX12_alter_30 : decode cX12_alter 30 = .ok (.getfield 7, 3) := by decide +kernel
theorem dX12_alter_33 : decode cX12_alter 33 = .ok (.iconst 4, 1) := by decide +kernel
theorem dX12_alter_34 : decode cX12_alter 34 = .ok (.iconst 4, 1) := by decide +kernel
theorem dX12_alter_35 : decode cX12_alter 35 = .ok (.iload_n 1, 1) := by decide +kernel
theorem dX12_alter_36 : decode cX12_alter 36 = .ok (.imul, 1) := by decide +kernel
theorem dX12_alter_37 : decode cX12_alter 37 = .ok (.iadd, 1) := by decide +kernel
theorem dX12_alter_38 : decode cX12_alter 38 = .ok (.iload_n 2, 1) := by decide +kernel
theorem dX12_alter_39 : decode cX12_alter 39 = .ok (.iastore, 1) := by decide +kernel
theorem dX12_alter_40 : decode cX12_alter 40 = .ok (.aload_n 0, 1) := by decide +kernel
theorem dX12_alter_41 : decode cX12_alter 41 = .ok (.getfield 7, 3) := by decide +kernel
theorem dX12_alter_44 : decode cX12_alter 44 = .ok (.iconst 5, 1) := by decide +kernel
theorem dX12_alter_45 : decode cX12_alter 45 = .ok (.iconst 4, 1) := by decide +kernel
theorem dX12_alter_46 : decode cX12_alter 46 = .ok (.iload_n 1, 1) := by decide +kernel
theorem dX12_alter_47 : decode cX12_alter 47 = .ok (.imul, 1) := by decide +kernel
theorem dX12_alter_48 : decode cX12_alter 48 = .ok (.iadd, 1) := by decide +kernel
theorem dX12_alter_49 : decode cX12_alter 49 = .ok (.iload_n 3, 1) := by decide +kernel
theorem dX12_alter_50 : decode cX12_alter 50 = .ok (.iastore, 1) := by decide +kernel
theorem dX12_alter_51 : decode cX12_alter 51 = .ok (.iconst 1, 1) := by decide +kernel
theorem dX12_alter_52 : decode cX12_alter 52 = .ok (.ireturn, 1) := by decide +kernel
theorem dX12_close_0 : decode cX12_close 0 = .ok (.aload_n 0, 1) := by decide +kernel
theorem dX12_close_1 : decode cX12_close 1 = .ok (.invokevirtual 78, 3) := by decide +kernel
theorem dX12_close_4 : decode cX12_close 4 = .ok (.ifCond .ne 6, 3) := by decide +kernel
theorem dX12_close_7 : decode cX12_close 7 = .ok (.bipush (-3), 2) := by decide +kernel
theorem dX12_close_9 : decode cX12_close 9 = .ok (.ireturn, 1) := by decide +kernel
theorem dX12_close_10 : decode cX12_close 10 = .ok (.aload_n 0, 1) := by decide +kernel
theorem dX12_close_11 : decode cX12_close 11 = .ok (.invokevirtual 100, 3) := by decide +kernel
theorem dX12_close_14 : decode cX12_close 14 = .ok (.aload_n 0, 1) := by decide +kernel
theorem dX12_close_15 : decode cX12_close 15 = .ok (.getfield 7, 3) := by decide +kernel
theorem dX12_close_18 : decode cX12_close 18 = .ok (.iconst 1, 1) := by decide +kernel
theorem dX12_close_19 : decode cX12_close 19 = .ok (.dup2, 1) := by decide +kernel
theorem dX12_close_20 : decode cX12_close 20 = .ok (.iaload, 1) := by decide +kernel
theorem dX12_close_21 : decode cX12_close 21 = .ok (.iconst 1, 1) := by decide +kernel
theorem dX12_close_22 : decode cX12_close 22 = .ok (.isub, 1) := by decide +kernel
theorem dX12_close_23 : decode cX12_close 23 = .ok (.iastore, 1) := by decide +kernel
theorem dX12_close_24 : decode cX12_close 24 = .ok (.aload_n 0, 1) := by decide +kernel
theorem dX12_close_25 : decode cX12_close 25 = .ok (.getfield 7, 3) := by decide +kernel
theorem dX12_close_28 : decode cX12_close 28 = .ok (.iconst 1, 1) := by decide +kernel
theorem dX12_close_29 : decode cX12_close 29 = .ok (.iaload, 1) := by decide +kernel
theorem dX12_close_30 : decode cX12_close 30 = .ok (.ireturn, 1) := by decide +kernel
theorem dX12_undo_0 : decode cX12_undo 0 = .ok (.aload_n 0, 1) := by decide +kernel
theorem dX12_undo_1 : decode cX12_undo 1 = .ok (.getfield 96, 3) := by decide +kernel
theorem dX12_undo_4 : decode cX12_undo 4 = .ok (.istore_n 1, 1) := by decide +kernel
theorem dX12_undo_5 : decode cX12_undo 5 = .ok (.iconst 0, 1) := by decide +kernel
theorem dX12_undo_6 : decode cX12_undo 6 = .ok (.istore_n 2, 1) := by decide +kernel
theorem dX12_undo_7 : decode cX12_undo 7 = .ok (.iload_n 2, 1) := by decide +kernel
theorem dX12_undo_8 : decode cX12_undo 8 = .ok (.aload_n 0, 1) := by decide +kernel
theorem dX12_undo_9 : decode cX12_undo 9 = .ok (.getfield 89, 3) := by decide +kernel
theorem dX12_undo_12 : decode cX12_undo 12 = .ok (.if_icmp .ge 100, 3) := by decide +kernel
theorem dX12_undo_15 : decode cX12_undo 15 = .ok (.iload_n 1, 1) := by decide +kernel
theorem dX12_undo_16 : decode cX12_undo 16 = .ok (.ifCond .eq 96, 3) := by decide +kernel
theorem dX12_undo_19 : decode cX12_undo 19 = .ok (.aload_n 0, 1) := by decide +kernel
theorem dX12_undo_20 : decode cX12_undo 20 = .ok (.getfield 16, 3) := by decide +kernel
theorem dX12_undo_23 : decode cX12_undo 23 = .ok (.iload_n 2, 1) := by decide +kernel
theorem dX12_undo_24 : decode cX12_undo 24 = .ok (.iaload, 1) := by decide +kernel
theorem dX12_undo_25 : decode cX12_undo 25 = .ok (.iconst 2, 1) := by decide +kernel
theorem dX12_undo_26 : decode cX12_undo 26 = .ok (.if_icmp .ne 36, 3) := by decide +kernel
theorem dX12_undo_29 : decode cX12_undo 29 = .ok (.aload_n 0, 1) := by decide +kernel
theorem dX12_undo_30 : decode cX12_undo 30 = .ok (.getfield 19, 3) := by decide +kernel
theorem dX12_undo_33 : decode cX12_undo 33 = .ok (.iload_n 2, 1) := by decide +kernel
theorem dX12_undo_34 : decode cX12_undo 34 = .ok (.iaload, 1) := by decide +kernel
theorem dX12_undo_35 : decode cX12_undo 35 = .ok (.aload_n 0, 1) := by decide +kernel
theorem dX12_undo_36 : decode cX12_undo 36 = .ok (.getfield 22, 3) := by decide +kernel
theorem dX12_undo_39 : decode cX12_undo 39 = .ok (.iload_n 2, 1) := by decide +kernel
theorem dX12_undo_40 : decode cX12_undo 40 = .ok (.iaload, 1) := by decide +kernel
theorem dX12_undo_41 : decode cX12_undo 41 = .ok (.if_icmp .le 12, 3) := by decide +kernel
theorem dX12_undo_44 : decode cX12_undo 44 = .ok (.aload_n 0, 1) := by decide +kernel
theorem dX12_undo_45 : decode cX12_undo 45 = .ok (.getfield 19, 3) := by decide +kernel
theorem dX12_undo_48 : decode cX12_undo 48 = .ok (.iload_n 2, 1) := by decide +kernel
theorem dX12_undo_49 : decode cX12_undo 49 = .ok (.iaload, 1) := by decide +kernel
theorem dX12_undo_50 : decode cX12_undo 50 = .ok (.goto 13, 3) := by decide +kernel
theorem dX12_undo_53 : decode cX12_undo 53 = .ok (.aload_n 0, 1) := by decide +kernel
theorem dX12_undo_54 : decode cX12_undo 54 = .ok (.getfield 22, 3) := by decide +kernel
theorem dX12_undo_57 : decode cX12_undo 57 = .ok (.iload_n 2, 1) := by decide +kernel
theorem dX12_undo_58 : decode cX12_undo 58 = .ok (.iaload, 1) := by decide +kernel
theorem dX12_undo_59 : decode cX12_undo 59 = .ok (.goto 4, 3) := by decide +kernel
theorem dX12_undo_62 : decode cX12_undo 62 = .ok (.iconst (-1), 1) := by decide +kernel
theorem dX12_undo_63 : decode cX12_undo 63 = .ok (.istore_n 3, 1) := by decide +kernel
theorem dX12_undo_64 : decode cX12_undo 64 = .ok (.iload_n 3, 1) := by decide +kernel
theorem dX12_undo_65 : decode cX12_undo 65 = .ok (.aload_n 0, 1) := by decide +kernel
theorem dX12_undo_66 : decode cX12_undo 66 = .ok (.getfield 13, 3) := by decide +kernel
theorem dX12_undo_69 : decode cX12_undo 69 = .ok (.iconst 0, 1) := by decide +kernel
theorem dX12_undo_70 : decode cX12_undo 70 = .ok (.iaload, 1) := by decide +kernel
theorem dX12_undo_71 : decode cX12_undo 71 = .ok (.if_icmp .ge 33, 3) := by decide +kernel
theorem dX12_undo_74 : decode cX12_undo 74 = .ok (.aload_n 0, 1) := by decide +kernel
theorem dX12_undo_75 : decode cX12_undo 75 = .ok (.getfield 16, 3) := by decide +kernel
theorem dX12_undo_78 : decode cX12_undo 78 = .ok (.iload_n 2, 1) := by decide +kernel
theorem dX12_undo_79 : decode cX12_undo 79 = .ok (.iaload, 1) := by decide +kernel
theorem dX12_undo_80 : decode cX12_undo 80 = .ok (.iconst 3, 1) := by decide +kernel
theorem dX12_undo_81 : decode cX12_undo 81 = .ok (.if_icmp .ne 19, 3) := by decide +kernel
theorem dX12_undo_84 : decode cX12_undo 84 = .ok (.aload_n 0, 1) := by decide +kernel
theorem dX12_undo_85 : decode cX12_undo 85 = .ok (.getfield 19, 3) := by decide +kernel
theorem dX12_undo_88 : decode cX12_undo 88 = .ok (.iload_n 2, 1) := by decide +kernel
theorem dX12_undo_89 : decode cX12_undo 89 = .ok (.iaload, 1) := by decide +kernel
theorem dX12_undo_90 : decode cX12_undo 90 = .ok (.aload_n 0, 1) := by decide +kernel
theorem dX12_undo_91 : decode cX12_undo 91 = .ok (.getfield 13, 3) := by decide +kernel
theorem dX12_undo_94 : decode cX12_undo 94 = .ok (.iconst 0, 1) := by decide +kernel
theorem dX12_undo_95 : decode cX12_undo 95 = .ok (.iaload, 1) := by decide +kernel
theorem dX12_undo_96 : decode cX12_undo 96 = .ok (.ishr, 1) := by decide +kernel
theorem dX12_undo_97 : decode cX12_undo 97 = .ok (.ifCond .ne 7, 3) := by decide +kernel
theorem dX12_undo_100 : decode cX12_undo 100 = .ok (.iconst 1, 1) := by decide +kernel
theorem dX12_undo_101 : decode cX12_undo 101 = .ok (.goto 4, 3) := by decide +kernel
theorem dX12_undo_104 : decode cX12_undo 104 = .ok (.iconst 0, 1) := by decide +kernel
theorem dX12_undo_105 : decode cX12_undo 105 = .ok (.istore_n 1, 1) := by decide +kernel
theorem dX12_undo_106 : decode cX12_undo 106 = .ok (.iinc 2 1, 3) := by decide +kernel
theorem dX12_undo_109 : decode cX12_undo 109 = .ok (.goto (-102), 3) := by decide +kernel
theorem dX12_undo_112 : decode cX12_undo 112 = .ok (.iload_n 1, 1) := by decide +kernel
theorem dX12_undo_113 : decode cX12_undo 113 = .ok (.ifCond .ne 6, 3) := by decide +kernel
theorem dX12_undo_116 : decode cX12_undo 116 = .ok (.bipush (-3), 2) := by decide +kernel
theorem dX12_undo_118 : decode cX12_undo 118 = .ok (.ireturn, 1) := by decide +kernel
theorem dX12_undo_119 : decode cX12_undo 119 = .ok (.iconst 0, 1) := by decide +kernel
theorem dX12_undo_120 : decode cX12_undo 120 = .ok (.istore_n 2, 1) := by decide +kernel
theorem dX12_undo_121 : decode cX12_undo 121 = .ok (.iload_n 2, 1) := by decide +kernel
theorem dX12_undo_122 : decode cX12_undo 122 = .ok (.bipush 50, 2) := by decide +kernel
theorem dX12_undo_124 : decode cX12_undo 124 = .ok (.if_icmp .ge 21, 3) := by decide +kernel
theorem dX12_undo_127 : decode cX12_undo 127 = .ok (.aload_n 0, 1) := by decide +kernel
theorem dX12_undo_128 : decode cX12_undo 128 = .ok (.getfield 7, 3) := by decide +kernel
theorem dX12_undo_131 : decode cX12_undo 131 = .ok (.iload_n 2, 1) := by decide +kernel
theorem dX12_undo_132 : decode cX12_undo 132 = .ok (.aload_n 0, 1) := by decide +kernel
theorem dX12_undo_133 : decode cX12_undo 133 = .ok (.getfield 13, 3) := by decide +kernel
theorem dX12_undo_136 : decode cX12_undo 136 = .ok (.iload_n 2, 1) := by decide +kernel
theorem dX12_undo_137 : decode cX12_undo 137 = .ok (.iaload, 1) := by decide +kernel
theorem dX12_undo_138 : decode cX12_undo 138 = .ok (.iastore, 1) := by decide +kernel
theorem dX12_undo_139 : decode cX12_undo 139 = .ok (.iinc 2 1, 3) := by decide +kernel
theorem dX12_undo_142 : decode cX12_undo 142 = .ok (.goto (-21), 3) := by decide +kernel
theorem dX12_undo_145 : decode cX12_undo 145 = .ok (.aload_n 0, 1) := by decide +kernel
theorem dX12_undo_146 : decode cX12_undo 146 = .ok (.iconst 0, 1) := by decide +kernel
theorem dX12_undo_147 : decode cX12_undo 147 = .ok (.putfield 96, 3) := by decide +kernel
theorem dX12_undo_150 : decode cX12_undo 150 = .ok (.iconst 1, 1) := by decide +kernel
theorem dX12_undo_151 : decode cX12_undo 151 = .ok (.ireturn, 1) := by decide +kernel
theorem dX12_lineTold_0 : decode cX12_lineTold 0 = .ok (.iload_n 2, 1) := by decide +kernel
theorem dX12_lineTold_1 : decode cX12_lineTold 1 = .ok (.iconst 0, 1) := by decide +kernel
theorem dX12_lineTold_2 : decode cX12_lineTold 2 = .ok (.iconst 3, 1) := by decide +kernel
theorem dX12_lineTold_3 : decode cX12_lineTold 3 = .ok (.invokestatic 85, 3) := by decide +kernel
theorem dX12_lineTold_6 : decode cX12_lineTold 6 = .ok (.ifCond .ne 6, 3) := by decide +kernel
theorem dX12_lineTold_9 : decode cX12_lineTold 9 = .ok (.bipush (-2), 2) := by decide +kernel
theorem dX12_lineTold_11 : decode cX12_lineTold 11 = .ok (.ireturn, 1) := by decide +kernel
theorem dX12_lineTold_12 : decode cX12_lineTold 12 = .ok (.iload_n 1, 1) := by decide +kernel
theorem dX12_lineTold_13 : decode cX12_lineTold 13 = .ok (.iconst 0, 1) := by decide +kernel
theorem dX12_lineTold_14 : decode cX12_lineTold 14 = .ok (.aload_n 0, 1) := by decide +kernel
theorem dX12_lineTold_15 : decode cX12_lineTold 15 = .ok (.invokevirtual 78, 3) := by decide +kernel
theorem dX12_lineTold_18 : decode cX12_lineTold 18 = .ok (.iconst 1, 1) := by decide +kernel
theorem dX12_lineTold_19 : decode cX12_lineTold 19 = .ok (.isub, 1) := by decide +kernel
theorem dX12_lineTold_20 : decode cX12_lineTold 20 = .ok (.invokestatic 85, 3) := by decide +kernel
theorem dX12_lineTold_23 : decode cX12_lineTold 23 = .ok (.ifCond .eq 18, 3) := by decide +kernel
theorem dX12_lineTold_26 : decode cX12_lineTold 26 = .ok (.aload_n 0, 1) := by decide +kernel
theorem dX12_lineTold_27 : decode cX12_lineTold 27 = .ok (.getfield 7, 3) := by decide +kernel
theorem dX12_lineTold_30 : decode cX12_lineTold 30 = .ok (.iconst 2, 1) := by decide +kernel
theorem dX12_lineTold_31 : decode cX12_lineTold 31 = .ok (.iconst 4, 1) := by decide +kernel
theorem dX12_lineTold_32 : decode cX12_lineTold 32 = .ok (.iload_n 1, 1) := by decide +kernel
theorem dX12_lineTold_33 : decode cX12_lineTold 33 = .ok (.imul, 1) := by decide +kernel
theorem dX12_lineTold_34 : decode cX12_lineTold 34 = .ok (.iadd, 1) := by decide +kernel
theorem dX12_lineTold_35 : decode cX12_lineTold 35 = .ok (.iload_n 2, 1) := by decide +kernel
theorem dX12_lineTold_36 : decode cX12_lineTold 36 = .ok (.iadd, 1) := by decide +kernel
theorem dX12_lineTold_37 : decode cX12_lineTold 37 = .ok (.iaload, 1) := by decide +kernel
theorem dX12_lineTold_38 : decode cX12_lineTold 38 = .ok (.goto 4, 3) := by decide +kernel
theorem dX12_lineTold_41 : decode cX12_lineTold 41 = .ok (.iconst (-1), 1) := by decide +kernel
theorem dX12_lineTold_42 : decode cX12_lineTold 42 = .ok (.ireturn, 1) := by decide +kernel
theorem dX12_made_0 : decode cX12_made 0 = .ok (.aload_n 0, 1) := by decide +kernel
theorem dX12_made_1 : decode cX12_made 1 = .ok (.getfield 89, 3) := by decide +kernel
theorem dX12_made_4 : decode cX12_made 4 = .ok (.bipush 10, 2) := by decide +kernel
theorem dX12_made_6 : decode cX12_made 6 = .ok (.if_icmp .ne 6, 3) := by decide +kernel
theorem dX12_made_9 : decode cX12_made 9 = .ok (.bipush (-4), 2) := by decide +kernel
theorem dX12_made_11 : decode cX12_made 11 = .ok (.ireturn, 1) := by decide +kernel
theorem dX12_made_12 : decode cX12_made 12 = .ok (.aload_n 0, 1) := by decide +kernel
theorem dX12_made_13 : decode cX12_made 13 = .ok (.getfield 16, 3) := by decide +kernel
theorem dX12_made_16 : decode cX12_made 16 = .ok (.aload_n 0, 1) := by decide +kernel
theorem dX12_made_17 : decode cX12_made 17 = .ok (.getfield 89, 3) := by decide +kernel
theorem dX12_made_20 : decode cX12_made 20 = .ok (.iload_n 1, 1) := by decide +kernel
theorem dX12_made_21 : decode cX12_made 21 = .ok (.iastore, 1) := by decide +kernel
theorem dX12_made_22 : decode cX12_made 22 = .ok (.aload_n 0, 1) := by decide +kernel
theorem dX12_made_23 : decode cX12_made 23 = .ok (.getfield 19, 3) := by decide +kernel
theorem dX12_made_26 : decode cX12_made 26 = .ok (.aload_n 0, 1) := by decide +kernel
theorem dX12_made_27 : decode cX12_made 27 = .ok (.getfield 89, 3) := by decide +kernel
theorem dX12_made_30 : decode cX12_made 30 = .ok (.iload_n 2, 1) := by decide +kernel
theorem dX12_made_31 : decode cX12_made 31 = .ok (.iastore, 1) := by decide +kernel
theorem dX12_made_32 : decode cX12_made 32 = .ok (.aload_n 0, 1) := by decide +kernel
theorem dX12_made_33 : decode cX12_made 33 = .ok (.getfield 22, 3) := by decide +kernel
theorem dX12_made_36 : decode cX12_made 36 = .ok (.aload_n 0, 1) := by decide +kernel
theorem dX12_made_37 : decode cX12_made 37 = .ok (.getfield 89, 3) := by decide +kernel
theorem dX12_made_40 : decode cX12_made 40 = .ok (.iload_n 3, 1) := by decide +kernel
theorem dX12_made_41 : decode cX12_made 41 = .ok (.iastore, 1) := by decide +kernel
theorem dX12_made_42 : decode cX12_made 42 = .ok (.aload_n 0, 1) := by decide +kernel
theorem dX12_made_43 : decode cX12_made 43 = .ok (.getfield 25, 3) := by decide +kernel
theorem dX12_made_46 : decode cX12_made 46 = .ok (.aload_n 0, 1) := by decide +kernel
theorem dX12_made_47 : decode cX12_made 47 = .ok (.getfield 89, 3) := by decide +kernel
theorem dX12_made_50 : decode cX12_made 50 = .ok (.iconst 0, 1) := by decide +kernel
theorem dX12_made_51 : decode cX12_made 51 = .ok (.iastore, 1) := by decide +kernel
theorem dX12_made_52 : decode cX12_made 52 = .ok (.aload_n 0, 1) := by decide +kernel
theorem dX12_made_53 : decode cX12_made 53 = .ok (.dup, 1) := by decide +kernel
theorem dX12_made_54 : decode cX12_made 54 = .ok (.getfield 89, 3) := by decide +kernel
theorem dX12_made_57 : decode cX12_made 57 = .ok (.iconst 1, 1) := by decide +kernel
theorem dX12_made_58 : decode cX12_made 58 = .ok (.iadd, 1) := by decide +kernel
theorem dX12_made_59 : decode cX12_made 59 = .ok (.putfield 89, 3) := by decide +kernel
theorem dX12_made_62 : decode cX12_made 62 = .ok (.aload_n 0, 1) := by decide +kernel
theorem dX12_made_63 : decode cX12_made 63 = .ok (.getfield 89, 3) := by decide +kernel
theorem dX12_made_66 : decode cX12_made 66 = .ok (.iconst 1, 1) := by decide +kernel
theorem dX12_made_67 : decode cX12_made 67 = .ok (.isub, 1) := by decide +kernel
theorem dX12_made_68 : decode cX12_made 68 = .ok (.ireturn, 1) := by decide +kernel
theorem dX12_told_0 : decode cX12_told 0 = .ok (.aload_n 0, 1) := by decide +kernel
theorem dX12_told_1 : decode cX12_told 1 = .ok (.iconst 0, 1) := by decide +kernel
theorem dX12_told_2 : decode cX12_told 2 = .ok (.iconst 0, 1) := by decide +kernel
theorem dX12_told_3 : decode cX12_told 3 = .ok (.iconst 0, 1) := by decide +kernel
theorem dX12_told_4 : decode cX12_told 4 = .ok (.invokevirtual 111, 3) := by decide +kernel
theorem dX12_told_7 : decode cX12_told 7 = .ok (.ireturn, 1) := by decide +kernel
theorem dX12_tell_0 : decode cX12_tell 0 = .ok (.aload_n 0, 1) := by decide +kernel
theorem dX12_tell_1 : decode cX12_tell 1 = .ok (.iload_n 1, 1) := by decide +kernel
theorem dX12_tell_2 : decode cX12_tell 2 = .ok (.invokevirtual 115, 3) := by decide +kernel
theorem dX12_tell_5 : decode cX12_tell 5 = .ok (.ifCond .eq 23, 3) := by decide +kernel
theorem dX12_tell_8 : decode cX12_tell 8 = .ok (.aload_n 0, 1) := by decide +kernel
theorem dX12_tell_9 : decode cX12_tell 9 = .ok (.getfield 16, 3) := by decide +kernel
theorem dX12_tell_12 : decode cX12_tell 12 = .ok (.iload_n 1, 1) := by decide +kernel
theorem dX12_tell_13 : decode cX12_tell 13 = .ok (.iaload, 1) := by decide +kernel
theorem dX12_tell_14 : decode cX12_tell 14 = .ok (.ifCond .ne 14, 3) := by decide +kernel
theorem dX12_tell_17 : decode cX12_tell 17 = .ok (.iload_n 2, 1) := by decide +kernel
theorem dX12_tell_18 : decode cX12_tell 18 = .ok (.iconst 0, 1) := by decide +kernel
theorem dX12_tell_19 : decode cX12_tell 19 = .ok (.sipush 4095, 3) := by decide +kernel
theorem dX12_tell_22 : decode cX12_tell 22 = .ok (.invokestatic 85, 3) := by decide +kernel
theorem dX12_tell_25 : decode cX12_tell 25 = .ok (.ifCond .ne 6, 3) := by decide +kernel
theorem dX12_tell_28 : decode cX12_tell 28 = .ok (.bipush (-2), 2) := by decide +kernel
theorem dX12_tell_30 : decode cX12_tell 30 = .ok (.ireturn, 1) := by decide +kernel
theorem dX12_tell_31 : decode cX12_tell 31 = .ok (.iconst 0, 1) := by decide +kernel
theorem dX12_tell_32 : decode cX12_tell 32 = .ok (.istore_n 3, 1) := by decide +kernel
theorem dX12_tell_33 : decode cX12_tell 33 = .ok (.iload_n 3, 1) := by decide +kernel
theorem dX12_tell_34 : decode cX12_tell 34 = .ok (.aload_n 0, 1) := by decide +kernel
theorem dX12_tell_35 : decode cX12_tell 35 = .ok (.getfield 25, 3) := by decide +kernel
theorem dX12_tell_38 : decode cX12_tell 38 = .ok (.iload_n 1, 1) := by decide +kernel
theorem dX12_tell_39 : decode cX12_tell 39 = .ok (.iaload, 1) := by decide +kernel
theorem dX12_tell_40 : decode cX12_tell 40 = .ok (.if_icmp .ge 27, 3) := by decide +kernel
theorem dX12_tell_43 : decode cX12_tell 43 = .ok (.aload_n 0, 1) := by decide +kernel
theorem dX12_tell_44 : decode cX12_tell 44 = .ok (.getfield 28, 3) := by decide +kernel
theorem dX12_tell_47 : decode cX12_tell 47 = .ok (.bipush 8, 2) := by decide +kernel
theorem dX12_tell_49 : decode cX12_tell 49 = .ok (.iload_n 1, 1) := by decide +kernel
theorem dX12_tell_50 : decode cX12_tell 50 = .ok (.imul, 1) := by decide +kernel
theorem dX12_tell_51 : decode cX12_tell 51 = .ok (.iload_n 3, 1) := by decide +kernel
theorem dX12_tell_52 : decode cX12_tell 52 = .ok (.iadd, 1) := by decide +kernel
theorem dX12_tell_53 : decode cX12_tell 53 = .ok (.iaload, 1) := by decide +kernel
theorem dX12_tell_54 : decode cX12_tell 54 = .ok (.iload_n 2, 1) := by decide +kernel
theorem dX12_tell_55 : decode cX12_tell 55 = .ok (.if_icmp .ne 6, 3) := by decide +kernel
theorem dX12_tell_58 : decode cX12_tell 58 = .ok (.bipush (-3), 2) := by decide +kernel
theorem dX12_tell_60 : decode cX12_tell 60 = .ok (.ireturn, 1) := by decide +kernel
theorem dX12_tell_61 : decode cX12_tell 61 = .ok (.iinc 3 1, 3) := by decide +kernel
theorem dX12_tell_64 : decode cX12_tell 64 = .ok (.goto (-31), 3) := by decide +kernel
theorem dX12_tell_67 : decode cX12_tell 67 = .ok (.aload_n 0, 1) := by decide +kernel
theorem dX12_tell_68 : decode cX12_tell 68 = .ok (.getfield 25, 3) := by decide +kernel
theorem dX12_tell_71 : decode cX12_tell 71 = .ok (.iload_n 1, 1) := by decide +kernel
theorem dX12_tell_72 : decode cX12_tell 72 = .ok (.iaload, 1) := by decide +kernel
theorem dX12_tell_73 : decode cX12_tell 73 = .ok (.bipush 8, 2) := by decide +kernel
theorem dX12_tell_75 : decode cX12_tell 75 = .ok (.if_icmp .ne 6, 3) := by decide +kernel
theorem dX12_tell_78 : decode cX12_tell 78 = .ok (.bipush (-4), 2) := by decide +kernel
theorem dX12_tell_80 : decode cX12_tell 80 = .ok (.ireturn, 1) := by decide +kernel
theorem dX12_tell_81 : decode cX12_tell 81 = .ok (.aload_n 0, 1) := by decide +kernel
theorem dX12_tell_82 : decode cX12_tell 82 = .ok (.getfield 28, 3) := by decide +kernel
theorem dX12_tell_85 : decode cX12_tell 85 = .ok (.bipush 8, 2) := by decide +kernel
theorem dX12_tell_87 : decode cX12_tell 87 = .ok (.iload_n 1, 1) := by decide +kernel
theorem dX12_tell_88 : decode cX12_tell 88 = .ok (.imul, 1) := by decide +kernel
theorem dX12_tell_89 : decode cX12_tell 89 = .ok (.aload_n 0, 1) := by decide +kernel
theorem dX12_tell_90 : decode cX12_tell 90 = .ok (.getfield 25, 3) := by decide +kernel
theorem dX12_tell_93 : decode cX12_tell 93 = .ok (.iload_n 1, 1) := by decide +kernel
theorem dX12_tell_94 : decode cX12_tell 94 = .ok (.iaload, 1) := by decide +kernel
theorem dX12_tell_95 : decode cX12_tell 95 = .ok (.iadd, 1) := by decide +kernel
theorem dX12_tell_96 : decode cX12_tell 96 = .ok (.iload_n 2, 1) := by decide +kernel
theorem dX12_tell_97 : decode cX12_tell 97 = .ok (.iastore, 1) := by decide +kernel
theorem dX12_tell_98 : decode cX12_tell 98 = .ok (.aload_n 0, 1) := by decide +kernel
theorem dX12_tell_99 : decode cX12_tell 99 = .ok (.getfield 25, 3) := by decide +kernel
theorem dX12_tell_102 : decode cX12_tell 102 = .ok (.iload_n 1, 1) := by decide +kernel
theorem dX12_tell_103 : decode cX12_tell 103 = .ok (.dup2, 1) := by decide +kernel
theorem dX12_tell_104 : decode cX12_tell 104 = .ok (.iaload, 1) := by decide +kernel
theorem dX12_tell_105 : decode cX12_tell 105 = .ok (.iconst 1, 1) := by decide +kernel
theorem dX12_tell_106 : decode cX12_tell 106 = .ok (.iadd, 1) := by decide +kernel
theorem dX12_tell_107 : decode cX12_tell 107 = .ok (.iastore, 1) := by decide +kernel
theorem dX12_tell_108 : decode cX12_tell 108 = .ok (.aload_n 0, 1) := by decide +kernel
theorem dX12_tell_109 : decode cX12_tell 109 = .ok (.getfield 25, 3) := by decide +kernel
theorem dX12_tell_112 : decode cX12_tell 112 = .ok (.iload_n 1, 1) := by decide +kernel
theorem dX12_tell_113 : decode cX12_tell 113 = .ok (.iaload, 1) := by decide +kernel
theorem dX12_tell_114 : decode cX12_tell 114 = .ok (.ireturn, 1) := by decide +kernel
theorem dX12_tree_0 : decode cX12_tree 0 = .ok (.aload_n 0, 1) := by decide +kernel
theorem dX12_tree_1 : decode cX12_tree 1 = .ok (.iconst 1, 1) := by decide +kernel
theorem dX12_tree_2 : decode cX12_tree 2 = .ok (.iconst 0, 1) := by decide +kernel
theorem dX12_tree_3 : decode cX12_tree 3 = .ok (.iconst 0, 1) := by decide +kernel
theorem dX12_tree_4 : decode cX12_tree 4 = .ok (.invokevirtual 111, 3) := by decide +kernel
theorem dX12_tree_7 : decode cX12_tree 7 = .ok (.ireturn, 1) := by decide +kernel
theorem dX12_way_0 : decode cX12_way 0 = .ok (.aload_n 0, 1) := by decide +kernel
theorem dX12_way_1 : decode cX12_way 1 = .ok (.iload_n 1, 1) := by decide +kernel
theorem dX12_way_2 : decode cX12_way 2 = .ok (.invokevirtual 103, 3) := by decide +kernel
theorem dX12_way_5 : decode cX12_way 5 = .ok (.ifCond .eq 26, 3) := by decide +kernel
theorem dX12_way_8 : decode cX12_way 8 = .ok (.aload_n 0, 1) := by decide +kernel
theorem dX12_way_9 : decode cX12_way 9 = .ok (.iload_n 2, 1) := by decide +kernel
theorem dX12_way_10 : decode cX12_way 10 = .ok (.invokevirtual 103, 3) := by decide +kernel
theorem dX12_way_13 : decode cX12_way 13 = .ok (.ifCond .eq 18, 3) := by decide +kernel
theorem dX12_way_16 : decode cX12_way 16 = .ok (.iload_n 1, 1) := by decide +kernel
theorem dX12_way_17 : decode cX12_way 17 = .ok (.iload_n 2, 1) := by decide +kernel
theorem dX12_way_18 : decode cX12_way 18 = .ok (.if_icmp .eq 13, 3) := by decide +kernel
theorem dX12_way_21 : decode cX12_way 21 = .ok (.aload_n 0, 1) := by decide +kernel
theorem dX12_way_22 : decode cX12_way 22 = .ok (.iconst 2, 1) := by decide +kernel
theorem dX12_way_23 : decode cX12_way 23 = .ok (.iload_n 1, 1) := by decide +kernel
theorem dX12_way_24 : decode cX12_way 24 = .ok (.iload_n 2, 1) := by decide +kernel
theorem dX12_way_25 : decode cX12_way 25 = .ok (.invokevirtual 111, 3) := by decide +kernel
theorem dX12_way_28 : decode cX12_way 28 = .ok (.goto 5, 3) := by decide +kernel
theorem dX12_way_31 : decode cX12_way 31 = .ok (.bipush (-2), 2) := by decide +kernel
theorem dX12_way_33 : decode cX12_way 33 = .ok (.ireturn, 1) := by decide +kernel
theorem dX12_pairing_0 : decode cX12_pairing 0 = .ok (.iload_n 1, 1) := by decide +kernel
theorem dX12_pairing_1 : decode cX12_pairing 1 = .ok (.iconst 0, 1) := by decide +kernel
theorem dX12_pairing_2 : decode cX12_pairing 2 = .ok (.iconst 1, 1) := by decide +kernel
theorem dX12_pairing_3 : decode cX12_pairing 3 = .ok (.aload_n 0, 1) := by decide +kernel
theorem dX12_pairing_4 : decode cX12_pairing 4 = .ok (.invokevirtual 82, 3) := by decide +kernel
theorem dX12_pairing_7 : decode cX12_pairing 7 = .ok (.ishl, 1) := by decide +kernel
theorem dX12_pairing_8 : decode cX12_pairing 8 = .ok (.iconst 1, 1) := by decide +kernel
theorem dX12_pairing_9 : decode cX12_pairing 9 = .ok (.isub, 1) := by decide +kernel
theorem dX12_pairing_10 : decode cX12_pairing 10 = .ok (.invokestatic 85, 3) := by decide +kernel
theorem dX12_pairing_13 : decode cX12_pairing 13 = .ok (.ifCond .eq 13, 3) := by decide +kernel
theorem dX12_pairing_16 : decode cX12_pairing 16 = .ok (.aload_n 0, 1) := by decide +kernel
theorem dX12_pairing_17 : decode cX12_pairing 17 = .ok (.iconst 3, 1) := by decide +kernel
theorem dX12_pairing_18 : decode cX12_pairing 18 = .ok (.iload_n 1, 1) := by decide +kernel
theorem dX12_pairing_19 : decode cX12_pairing 19 = .ok (.iconst 0, 1) := by decide +kernel
theorem dX12_pairing_20 : decode cX12_pairing 20 = .ok (.invokevirtual 111, 3) := by decide +kernel
theorem dX12_pairing_23 : decode cX12_pairing 23 = .ok (.goto 5, 3) := by decide +kernel
theorem dX12_pairing_26 : decode cX12_pairing 26 = .ok (.bipush (-2), 2) := by decide +kernel
theorem dX12_pairing_28 : decode cX12_pairing 28 = .ok (.ireturn, 1) := by decide +kernel
theorem dX12_bits_0 : decode cX12_bits 0 = .ok (.iconst 0, 1) := by decide +kernel
theorem dX12_bits_1 : decode cX12_bits 1 = .ok (.istore_n 1, 1) := by decide +kernel
theorem dX12_bits_2 : decode cX12_bits 2 = .ok (.iconst 0, 1) := by decide +kernel
theorem dX12_bits_3 : decode cX12_bits 3 = .ok (.istore_n 2, 1) := by decide +kernel
theorem dX12_bits_4 : decode cX12_bits 4 = .ok (.iload_n 2, 1) := by decide +kernel
theorem dX12_bits_5 : decode cX12_bits 5 = .ok (.bipush 31, 2) := by decide +kernel
theorem dX12_bits_7 : decode cX12_bits 7 = .ok (.if_icmp .ge 17, 3) := by decide +kernel
theorem dX12_bits_10 : decode cX12_bits 10 = .ok (.iload_n 1, 1) := by decide +kernel
theorem dX12_bits_11 : decode cX12_bits 11 = .ok (.iload_n 0, 1) := by decide +kernel
theorem dX12_bits_12 : decode cX12_bits 12 = .ok (.iload_n 2, 1) := by decide +kernel
theorem dX12_bits_13 : decode cX12_bits 13 = .ok (.ishr, 1) := by decide +kernel
theorem dX12_bits_14 : decode cX12_bits 14 = .ok (.iconst 1, 1) := by decide +kernel
theorem dX12_bits_15 : decode cX12_bits 15 = .ok (.iand, 1) := by decide +kernel
theorem dX12_bits_16 : decode cX12_bits 16 = .ok (.iadd, 1) := by decide +kernel
theorem dX12_bits_17 : decode cX12_bits 17 = .ok (.istore_n 1, 1) := by decide +kernel
theorem dX12_bits_18 : decode cX12_bits 18 = .ok (.iinc 2 1, 3) := by decide +kernel
theorem dX12_bits_21 : decode cX12_bits 21 = .ok (.goto (-17), 3) := by decide +kernel
theorem dX12_bits_24 : decode cX12_bits 24 = .ok (.iload_n 1, 1) := by decide +kernel
theorem dX12_bits_25 : decode cX12_bits 25 = .ok (.ireturn, 1) := by decide +kernel
theorem dX12_reached_0 : decode cX12_reached 0 = .ok (.iload_n 2, 1) := by decide +kernel
theorem dX12_reached_1 : decode cX12_reached 1 = .ok (.istore 4, 2) := by decide +kernel
theorem dX12_reached_3 : decode cX12_reached 3 = .ok (.iconst 0, 1) := by decide +kernel
theorem dX12_reached_4 : decode cX12_reached 4 = .ok (.istore 5, 2) := by decide +kernel
theorem dX12_reached_6 : decode cX12_reached 6 = .ok (.iload 5, 2) := by decide +kernel
theorem dX12_reached_8 : decode cX12_reached 8 = .ok (.bipush 7, 2) := by decide +kernel
theorem dX12_reached_10 : decode cX12_reached 10 = .ok (.if_icmp .ge 122, 3) := by decide +kernel
theorem dX12_reached_13 : decode cX12_reached 13 = .ok (.iconst 0, 1) := by decide +kernel
theorem dX12_reached_14 : decode cX12_reached 14 = .ok (.istore 6, 2) := by decide +kernel
theorem dX12_reached_16 : decode cX12_reached 16 = .ok (.iload 6, 2) := by decide +kernel
theorem dX12_reached_18 : decode cX12_reached 18 = .ok (.aload_n 0, 1) := by decide +kernel
theorem dX12_reached_19 : decode cX12_reached 19 = .ok (.invokevirtual 78, 3) := by decide +kernel
theorem dX12_reached_22 : decode cX12_reached 22 = .ok (.if_icmp .ge 104, 3) := by decide +kernel
theorem dX12_reached_25 : decode cX12_reached 25 = .ok (.iload_n 1, 1) := by decide +kernel
theorem dX12_reached_26 : decode cX12_reached 26 = .ok (.iload 6, 2) := by decide +kernel
theorem dX12_reached_28 : decode cX12_reached 28 = .ok (.ishr, 1) := by decide +kernel
theorem dX12_reached_29 : decode cX12_reached 29 = .ok (.iconst 1, 1) := by decide +kernel
theorem dX12_reached_30 : decode cX12_reached 30 = .ok (.iand, 1) := by decide +kernel
theorem dX12_reached_31 : decode cX12_reached 31 = .ok (.iconst 1, 1) := by decide +kernel
theorem dX12_reached_32 : decode cX12_reached 32 = .ok (.if_icmp .ne 7, 3) := by decide +kernel
theorem dX12_reached_35 : decode cX12_reached 35 = .ok (.iconst 1, 1) := by decide +kernel
theorem dX12_reached_36 : decode cX12_reached 36 = .ok (.goto 4, 3) := by decide +kernel
theorem dX12_reached_39 : decode cX12_reached 39 = .ok (.iconst 0, 1) := by decide +kernel
theorem dX12_reached_40 : decode cX12_reached 40 = .ok (.istore 7, 2) := by decide +kernel
theorem dX12_reached_42 : decode cX12_reached 42 = .ok (.iload 4, 2) := by decide +kernel
theorem dX12_reached_44 : decode cX12_reached 44 = .ok (.iload 7, 2) := by decide +kernel
theorem dX12_reached_46 : decode cX12_reached 46 = .ok (.ifCond .eq 29, 3) := by decide +kernel
theorem dX12_reached_49 : decode cX12_reached 49 = .ok (.iload 4, 2) := by decide +kernel
theorem dX12_reached_51 : decode cX12_reached 51 = .ok (.aload_n 0, 1) := by decide +kernel
theorem dX12_reached_52 : decode cX12_reached 52 = .ok (.iload 6, 2) := by decide +kernel
theorem dX12_reached_54 : decode cX12_reached 54 = .ok (.invokevirtual 118, 3) := by decide +kernel
theorem dX12_reached_57 : decode cX12_reached 57 = .ok (.ishr, 1) := by decide +kernel
theorem dX12_reached_58 : decode cX12_reached 58 = .ok (.iconst 1, 1) := by decide +kernel
theorem dX12_reached_59 : decode cX12_reached 59 = .ok (.iand, 1) := by decide +kernel
theorem dX12_reached_60 : decode cX12_reached 60 = .ok (.iconst 1, 1) := by decide +kernel
theorem dX12_reached_61 : decode cX12_reached 61 = .ok (.if_icmp .ne 14, 3) := by decide +kernel
theorem dX12_reached_64 : decode cX12_reached 64 = .ok (.iconst 1, 1) := by decide +kernel
theorem dX12_reached_65 : decode cX12_reached 65 = .ok (.aload_n 0, 1) := by decide +kernel
theorem dX12_reached_66 : decode cX12_reached 66 = .ok (.iload 6, 2) := by decide +kernel
theorem dX12_reached_68 : decode cX12_reached 68 = .ok (.invokevirtual 122, 3) := by decide +kernel
theorem dX12_reached_71 : decode cX12_reached 71 = .ok (.ishl, 1) := by decide +kernel
theorem dX12_reached_72 : decode cX12_reached 72 = .ok (.goto 4, 3) := by decide +kernel
theorem dX12_reached_75 : decode cX12_reached 75 = .ok (.iconst 0, 1) := by decide +kernel
theorem dX12_reached_76 : decode cX12_reached 76 = .ok (.ior, 1) := by decide +kernel
theorem dX12_reached_77 : decode cX12_reached 77 = .ok (.istore 4, 2) := by decide +kernel
theorem dX12_reached_79 : decode cX12_reached 79 = .ok (.iload 4, 2) := by decide +kernel
theorem dX12_reached_81 : decode cX12_reached 81 = .ok (.iload 7, 2) := by decide +kernel
theorem dX12_reached_83 : decode cX12_reached 83 = .ok (.ifCond .eq 33, 3) := by decide +kernel
theorem dX12_reached_86 : decode cX12_reached 86 = .ok (.iload_n 3, 1) := by decide +kernel
theorem dX12_reached_87 : decode cX12_reached 87 = .ok (.ifCond .eq 29, 3) := by decide +kernel
theorem dX12_reached_90 : decode cX12_reached 90 = .ok (.iload 4, 2) := by decide +kernel
theorem dX12_reached_92 : decode cX12_reached 92 = .ok (.aload_n 0, 1) := by decide +kernel
theorem dX12_reached_93 : decode cX12_reached 93 = .ok (.iload 6, 2) := by decide +kernel
theorem dX12_reached_95 : decode cX12_reached 95 = .ok (.invokevirtual 122, 3) := by decide +kernel
theorem dX12_reached_98 : decode cX12_reached 98 = .ok (.ishr, 1) := by decide +kernel
theorem dX12_reached_99 : decode cX12_reached 99 = .ok (.iconst 1, 1) := by decide +kernel
theorem dX12_reached_100 : decode cX12_reached 100 = .ok (.iand, 1) := by decide +kernel
theorem dX12_reached_101 : decode cX12_reached 101 = .ok (.iconst 1, 1) := by decide +kernel
theorem dX12_reached_102 : decode cX12_reached 102 = .ok (.if_icmp .ne 14, 3) := by decide +kernel
theorem dX12_reached_105 : decode cX12_reached 105 = .ok (.iconst 1, 1) := by decide +kernel
theorem dX12_reached_106 : decode cX12_reached 106 = .ok (.aload_n 0, 1) := by decide +kernel
theorem dX12_reached_107 : decode cX12_reached 107 = .ok (.iload 6, 2) := by decide +kernel
theorem dX12_reached_109 : decode cX12_reached 109 = .ok (.invokevirtual 118, 3) := by decide +kernel
theorem dX12_reached_112 : decode cX12_reached 112 = .ok (.ishl, 1) := by decide +kernel
theorem dX12_reached_113 : decode cX12_reached 113 = .ok (.goto 4, 3) := by decide +kernel
theorem dX12_reached_116 : decode cX12_reached 116 = .ok (.iconst 0, 1) := by decide +kernel
theorem dX12_reached_117 : decode cX12_reached 117 = .ok (.ior, 1) := by decide +kernel
theorem dX12_reached_118 : decode cX12_reached 118 = .ok (.istore 4, 2) := by decide +kernel
theorem dX12_reached_120 : decode cX12_reached 120 = .ok (.iinc 6 1, 3) := by decide +kernel
theorem dX12_reached_123 : decode cX12_reached 123 = .ok (.goto (-107), 3) := by decide +kernel
theorem dX12_reached_126 : decode cX12_reached 126 = .ok (.iinc 5 1, 3) := by decide +kernel
theorem dX12_reached_129 : decode cX12_reached 129 = .ok (.goto (-123), 3) := by decide +kernel
theorem dX12_reached_132 : decode cX12_reached 132 = .ok (.iload 4, 2) := by decide +kernel
theorem dX12_reached_134 : decode cX12_reached 134 = .ok (.ireturn, 1) := by decide +kernel
theorem dX12_allThings_0 : decode cX12_allThings 0 = .ok (.iconst 1, 1) := by decide +kernel
theorem dX12_allThings_1 : decode cX12_allThings 1 = .ok (.aload_n 0, 1) := by decide +kernel
theorem dX12_allThings_2 : decode cX12_allThings 2 = .ok (.invokevirtual 82, 3) := by decide +kernel
theorem dX12_allThings_5 : decode cX12_allThings 5 = .ok (.ishl, 1) := by decide +kernel
theorem dX12_allThings_6 : decode cX12_allThings 6 = .ok (.iconst 1, 1) := by decide +kernel
theorem dX12_allThings_7 : decode cX12_allThings 7 = .ok (.isub, 1) := by decide +kernel
theorem dX12_allThings_8 : decode cX12_allThings 8 = .ok (.ireturn, 1) := by decide +kernel
theorem dX12_allLines_0 : decode cX12_allLines 0 = .ok (.iconst 1, 1) := by decide +kernel
theorem dX12_allLines_1 : decode cX12_allLines 1 = .ok (.aload_n 0, 1) := by decide +kernel
theorem dX12_allLines_2 : decode cX12_allLines 2 = .ok (.invokevirtual 78, 3) := by decide +kernel
theorem dX12_allLines_5 : decode cX12_allLines 5 = .ok (.ishl, 1) := by decide +kernel
theorem dX12_allLines_6 : decode cX12_allLines 6 = .ok (.iconst 1, 1) := by decide +kernel
theorem dX12_allLines_7 : decode cX12_allLines 7 = .ok (.isub, 1) := by decide +kernel
theorem dX12_allLines_8 : decode cX12_allLines 8 = .ok (.ireturn, 1) := by decide +kernel
theorem dX12_isTree_0 : decode cX12_isTree 0 = .ok (.aload_n 0, 1) := by decide +kernel
theorem dX12_isTree_1 : decode cX12_isTree 1 = .ok (.invokevirtual 82, 3) := by decide +kernel
theorem dX12_isTree_4 : decode cX12_isTree 4 = .ok (.ifCond .le 34, 3) := by decide +kernel
theorem dX12_isTree_7 : decode cX12_isTree 7 = .ok (.iload_n 1, 1) := by decide +kernel
theorem dX12_isTree_8 : decode cX12_isTree 8 = .ok (.invokestatic 125, 3) := by decide +kernel
theorem dX12_isTree_11 : decode cX12_isTree 11 = .ok (.aload_n 0, 1) := by decide +kernel
theorem dX12_isTree_12 : decode cX12_isTree 12 = .ok (.invokevirtual 82, 3) := by decide +kernel
theorem dX12_isTree_15 : decode cX12_isTree 15 = .ok (.iconst 1, 1) := by decide +kernel
theorem dX12_isTree_16 : decode cX12_isTree 16 = .ok (.isub, 1) := by decide +kernel
theorem dX12_isTree_17 : decode cX12_isTree 17 = .ok (.if_icmp .ne 21, 3) := by decide +kernel
theorem dX12_isTree_20 : decode cX12_isTree 20 = .ok (.aload_n 0, 1) := by decide +kernel
theorem dX12_isTree_21 : decode cX12_isTree 21 = .ok (.iload_n 1, 1) := by decide +kernel
theorem dX12_isTree_22 : decode cX12_isTree 22 = .ok (.iconst 1, 1) := by decide +kernel
theorem dX12_isTree_23 : decode cX12_isTree 23 = .ok (.iconst 1, 1) := by decide +kernel
theorem dX12_isTree_24 : decode cX12_isTree 24 = .ok (.invokevirtual 128, 3) := by decide +kernel
theorem dX12_isTree_27 : decode cX12_isTree 27 = .ok (.aload_n 0, 1) := by decide +kernel
theorem dX12_isTree_28 : decode cX12_isTree 28 = .ok (.invokevirtual 132, 3) := by decide +kernel
theorem dX12_isTree_31 : decode cX12_isTree 31 = .ok (.if_icmp .ne 7, 3) := by decide +kernel
theorem dX12_isTree_34 : decode cX12_isTree 34 = .ok (.iconst 1, 1) := by decide +kernel
theorem dX12_isTree_35 : decode cX12_isTree 35 = .ok (.goto 4, 3) := by decide +kernel
theorem dX12_isTree_38 : decode cX12_isTree 38 = .ok (.iconst 0, 1) := by decide +kernel
theorem dX12_isTree_39 : decode cX12_isTree 39 = .ok (.ireturn, 1) := by decide +kernel
theorem dX12_isWay_0 : decode cX12_isWay 0 = .ok (.iload_n 2, 1) := by decide +kernel
theorem dX12_isWay_1 : decode cX12_isWay 1 = .ok (.istore 4, 2) := by decide +kernel
theorem dX12_isWay_3 : decode cX12_isWay 3 = .ok (.iload_n 1, 1) := by decide +kernel
theorem dX12_isWay_4 : decode cX12_isWay 4 = .ok (.istore 5, 2) := by decide +kernel
theorem dX12_isWay_6 : decode cX12_isWay 6 = .ok (.iconst 1, 1) := by decide +kernel
theorem dX12_isWay_7 : decode cX12_isWay 7 = .ok (.iload_n 2, 1) := by decide +kernel
theorem dX12_isWay_8 : decode cX12_isWay 8 = .ok (.ishl, 1) := by decide +kernel
theorem dX12_isWay_9 : decode cX12_isWay 9 = .ok (.istore 6, 2) := by decide +kernel
theorem dX12_isWay_11 : decode cX12_isWay 11 = .ok (.iconst 1, 1) := by decide +kernel
theorem dX12_isWay_12 : decode cX12_isWay 12 = .ok (.istore 7, 2) := by decide +kernel
theorem dX12_isWay_14 : decode cX12_isWay 14 = .ok (.iload 7, 2) := by decide +kernel
theorem dX12_isWay_16 : decode cX12_isWay 16 = .ok (.ifCond .eq 125, 3) := by decide +kernel
theorem dX12_isWay_19 : decode cX12_isWay 19 = .ok (.iload 4, 2) := by decide +kernel
theorem dX12_isWay_21 : decode cX12_isWay 21 = .ok (.iload_n 3, 1) := by decide +kernel
theorem dX12_isWay_22 : decode cX12_isWay 22 = .ok (.if_icmp .eq 119, 3) := by decide +kernel
theorem dX12_isWay_25 : decode cX12_isWay 25 = .ok (.iconst (-1), 1) := by decide +kernel
theorem dX12_isWay_26 : decode cX12_isWay 26 = .ok (.istore 8, 2) := by decide +kernel
theorem dX12_isWay_28 : decode cX12_isWay 28 = .ok (.iconst 0, 1) := by decide +kernel
theorem dX12_isWay_29 : decode cX12_isWay 29 = .ok (.istore 9, 2) := by decide +kernel
theorem dX12_isWay_31 : decode cX12_isWay 31 = .ok (.iconst 0, 1) := by decide +kernel
theorem dX12_isWay_32 : decode cX12_isWay 32 = .ok (.istore 10, 2) := by decide +kernel
theorem dX12_isWay_34 : decode cX12_isWay 34 = .ok (.iload 10, 2) := by decide +kernel
theorem dX12_isWay_36 : decode cX12_isWay 36 = .ok (.aload_n 0, 1) := by decide +kernel
theorem dX12_isWay_37 : decode cX12_isWay 37 = .ok (.invokevirtual 78, 3) := by decide +kernel
theorem dX12_isWay_40 : decode cX12_isWay 40 = .ok (.if_icmp .ge 38, 3) := by decide +kernel
theorem dX12_isWay_43 : decode cX12_isWay 43 = .ok (.iload 5, 2) := by decide +kernel
theorem dX12_isWay_45 : decode cX12_isWay 45 = .ok (.iload 10, 2) := by decide +kernel
theorem dX12_isWay_47 : decode cX12_isWay 47 = .ok (.ishr, 1) := by decide +kernel
theorem dX12_isWay_48 : decode cX12_isWay 48 = .ok (.iconst 1, 1) := by decide +kernel
theorem dX12_isWay_49 : decode cX12_isWay 49 = .ok (.iand, 1) := by decide +kernel
theorem dX12_isWay_50 : decode cX12_isWay 50 = .ok (.iconst 1, 1) := by decide +kernel
theorem dX12_isWay_51 : decode cX12_isWay 51 = .ok (.if_icmp .ne 21, 3) := by decide +kernel
theorem dX12_isWay_54 : decode cX12_isWay 54 = .ok (.aload_n 0, 1) := by decide +kernel
theorem dX12_isWay_55 : decode cX12_isWay 55 = .ok (.iload 10, 2) := by decide +kernel
theorem dX12_isWay_57 : decode cX12_isWay 57 = .ok (.invokevirtual 118, 3) := by decide +kernel
theorem dX12_isWay_60 : decode cX12_isWay 60 = .ok (.iload 4, 2) := by decide +kernel
theorem dX12_isWay_62 : decode cX12_isWay 62 = .ok (.if_icmp .ne 10, 3) := by decide +kernel
theorem dX12_isWay_65 : decode cX12_isWay 65 = .ok (.iload 10, 2) := by decide +kernel
theorem dX12_isWay_67 : decode cX12_isWay 67 = .ok (.istore 8, 2) := by decide +kernel
theorem dX12_isWay_69 : decode cX12_isWay 69 = .ok (.iinc 9 1, 3) := by decide +kernel
theorem dX12_isWay_72 : decode cX12_isWay 72 = .ok (.iinc 10 1, 3) := by decide +kernel
theorem dX12_isWay_75 : decode cX12_isWay 75 = .ok (.goto (-41), 3) := by decide +kernel
theorem dX12_isWay_78 : decode cX12_isWay 78 = .ok (.iload 9, 2) := by decide +kernel
theorem dX12_isWay_80 : decode cX12_isWay 80 = .ok (.iconst 1, 1) := by decide +kernel
theorem dX12_isWay_81 : decode cX12_isWay 81 = .ok (.if_icmp .ne 21, 3) := by decide +kernel
theorem dX12_isWay_84 : decode cX12_isWay 84 = .ok (.iload 6, 2) := by decide +kernel
theorem dX12_isWay_86 : decode cX12_isWay 86 = .ok (.aload_n 0, 1) := by decide +kernel
theorem dX12_isWay_87 : decode cX12_isWay 87 = .ok (.iload 8, 2) := by decide +kernel
theorem dX12_isWay_89 : decode cX12_isWay 89 = .ok (.invokevirtual 122, 3) := by decide +kernel
theorem dX12_isWay_92 : decode cX12_isWay 92 = .ok (.ishr, 1) := by decide +kernel
theorem dX12_isWay_93 : decode cX12_isWay 93 = .ok (.iconst 1, 1) := by decide +kernel
theorem dX12_isWay_94 : decode cX12_isWay 94 = .ok (.iand, 1) := by decide +kernel
theorem dX12_isWay_95 : decode cX12_isWay 95 = .ok (.ifCond .ne 7, 3) := by decide +kernel
theorem dX12_isWay_98 : decode cX12_isWay 98 = .ok (.iconst 1, 1) := by decide +kernel
theorem dX12_isWay_99 : decode cX12_isWay 99 = .ok (.goto 4, 3) := by decide +kernel
theorem dX12_isWay_102 : decode cX12_isWay 102 = .ok (.iconst 0, 1) := by decide +kernel
theorem dX12_isWay_103 : decode cX12_isWay 103 = .ok (.istore 7, 2) := by decide +kernel
theorem dX12_isWay_105 : decode cX12_isWay 105 = .ok (.iload 7, 2) := by decide +kernel
theorem dX12_isWay_107 : decode cX12_isWay 107 = .ok (.ifCond .eq 31, 3) := by decide +kernel
theorem dX12_isWay_110 : decode cX12_isWay 110 = .ok (.iload 5, 2) := by decide +kernel
theorem dX12_isWay_112 : decode cX12_isWay 112 = .ok (.iconst 1, 1) := by decide +kernel
theorem dX12_isWay_113 : decode cX12_isWay 113 = .ok (.iload 8, 2) := by decide +kernel
theorem dX12_isWay_115 : decode cX12_isWay 115 = .ok (.ishl, 1) := by decide +kernel
theorem dX12_isWay_116 : decode cX12_isWay 116 = .ok (.iconst (-1), 1) := by decide +kernel
theorem dX12_isWay_117 : decode cX12_isWay 117 = .ok (.ixor, 1) := by decide +kernel
theorem dX12_isWay_118 : decode cX12_isWay 118 = .ok (.iand, 1) := by decide +kernel
theorem dX12_isWay_119 : decode cX12_isWay 119 = .ok (.istore 5, 2) := by decide +kernel
theorem dX12_isWay_121 : decode cX12_isWay 121 = .ok (.aload_n 0, 1) := by decide +kernel
theorem dX12_isWay_122 : decode cX12_isWay 122 = .ok (.iload 8, 2) := by decide +kernel
theorem dX12_isWay_124 : decode cX12_isWay 124 = .ok (.invokevirtual 122, 3) := by decide +kernel
theorem dX12_isWay_127 : decode cX12_isWay 127 = .ok (.istore 4, 2) := by decide +kernel
theorem dX12_isWay_129 : decode cX12_isWay 129 = .ok (.iload 6, 2) := by decide +kernel
theorem dX12_isWay_131 : decode cX12_isWay 131 = .ok (.iconst 1, 1) := by decide +kernel
theorem dX12_isWay_132 : decode cX12_isWay 132 = .ok (.iload 4, 2) := by decide +kernel
theorem dX12_isWay_134 : decode cX12_isWay 134 = .ok (.ishl, 1) := by decide +kernel
theorem dX12_isWay_135 : decode cX12_isWay 135 = .ok (.ior, 1) := by decide +kernel
theorem dX12_isWay_136 : decode cX12_isWay 136 = .ok (.istore 6, 2) := by decide +kernel
theorem dX12_isWay_138 : decode cX12_isWay 138 = .ok (.goto (-124), 3) := by decide +kernel
theorem dX12_isWay_141 : decode cX12_isWay 141 = .ok (.iload 7, 2) := by decide +kernel
theorem dX12_isWay_143 : decode cX12_isWay 143 = .ok (.ifCond .eq 12, 3) := by decide +kernel
theorem dX12_isWay_146 : decode cX12_isWay 146 = .ok (.iload 5, 2) := by decide +kernel
theorem dX12_isWay_148 : decode cX12_isWay 148 = .ok (.ifCond .ne 7, 3) := by decide +kernel
theorem dX12_isWay_151 : decode cX12_isWay 151 = .ok (.iconst 1, 1) := by decide +kernel
theorem dX12_isWay_152 : decode cX12_isWay 152 = .ok (.goto 4, 3) := by decide +kernel
theorem dX12_isWay_155 : decode cX12_isWay 155 = .ok (.iconst 0, 1) := by decide +kernel
theorem dX12_isWay_156 : decode cX12_isWay 156 = .ok (.ireturn, 1) := by decide +kernel
theorem dX12_isPairing_0 : decode cX12_isPairing 0 = .ok (.iconst 0, 1) := by decide +kernel
theorem dX12_isPairing_1 : decode cX12_isPairing 1 = .ok (.istore_n 3, 1) := by decide +kernel
theorem dX12_isPairing_2 : decode cX12_isPairing 2 = .ok (.iconst 1, 1) := by decide +kernel
theorem dX12_isPairing_3 : decode cX12_isPairing 3 = .ok (.istore 4, 2) := by decide +kernel
theorem dX12_isPairing_5 : decode cX12_isPairing 5 = .ok (.iconst 0, 1) := by decide +kernel
theorem dX12_isPairing_6 : decode cX12_isPairing 6 = .ok (.istore 5, 2) := by decide +kernel
theorem dX12_isPairing_8 : decode cX12_isPairing 8 = .ok (.iload 5, 2) := by decide +kernel
theorem dX12_isPairing_10 : decode cX12_isPairing 10 = .ok (.aload_n 0, 1) := by decide +kernel
theorem dX12_isPairing_11 : decode cX12_isPairing 11 = .ok (.invokevirtual 78, 3) := by decide +kernel
theorem dX12_isPairing_14 : decode cX12_isPairing 14 = .ok (.if_icmp .ge 85, 3) := by decide +kernel
theorem dX12_isPairing_17 : decode cX12_isPairing 17 = .ok (.iload_n 1, 1) := by decide +kernel
theorem dX12_isPairing_18 : decode cX12_isPairing 18 = .ok (.iload 5, 2) := by decide +kernel
theorem dX12_isPairing_20 : decode cX12_isPairing 20 = .ok (.ishr, 1) := by decide +kernel
theorem dX12_isPairing_21 : decode cX12_isPairing 21 = .ok (.iconst 1, 1) := by decide +kernel
theorem dX12_isPairing_22 : decode cX12_isPairing 22 = .ok (.iand, 1) := by decide +kernel
theorem dX12_isPairing_23 : decode cX12_isPairing 23 = .ok (.iconst 1, 1) := by decide +kernel
theorem dX12_isPairing_24 : decode cX12_isPairing 24 = .ok (.if_icmp .ne 69, 3) := by decide +kernel
theorem dX12_isPairing_27 : decode cX12_isPairing 27 = .ok (.iconst 1, 1) := by decide +kernel
theorem dX12_isPairing_28 : decode cX12_isPairing 28 = .ok (.aload_n 0, 1) := by decide +kernel
theorem dX12_isPairing_29 : decode cX12_isPairing 29 = .ok (.iload 5, 2) := by decide +kernel
theorem dX12_isPairing_31 : decode cX12_isPairing 31 = .ok (.invokevirtual 118, 3) := by decide +kernel
theorem dX12_isPairing_34 : decode cX12_isPairing 34 = .ok (.ishl, 1) := by decide +kernel
theorem dX12_isPairing_35 : decode cX12_isPairing 35 = .ok (.iconst 1, 1) := by decide +kernel
theorem dX12_isPairing_36 : decode cX12_isPairing 36 = .ok (.aload_n 0, 1) := by decide +kernel
theorem dX12_isPairing_37 : decode cX12_isPairing 37 = .ok (.iload 5, 2) := by decide +kernel
theorem dX12_isPairing_39 : decode cX12_isPairing 39 = .ok (.invokevirtual 122, 3) := by decide +kernel
theorem dX12_isPairing_42 : decode cX12_isPairing 42 = .ok (.ishl, 1) := by decide +kernel
theorem dX12_isPairing_43 : decode cX12_isPairing 43 = .ok (.ior, 1) := by decide +kernel
theorem dX12_isPairing_44 : decode cX12_isPairing 44 = .ok (.istore 6, 2) := by decide +kernel
theorem dX12_isPairing_46 : decode cX12_isPairing 46 = .ok (.iload 4, 2) := by decide +kernel
theorem dX12_isPairing_48 : decode cX12_isPairing 48 = .ok (.ifCond .eq 37, 3) := by decide +kernel
theorem dX12_isPairing_51 : decode cX12_isPairing 51 = .ok (.iload_n 3, 1) := by decide +kernel
theorem dX12_isPairing_52 : decode cX12_isPairing 52 = .ok (.iload 6, 2) := by decide +kernel
theorem dX12_isPairing_54 : decode cX12_isPairing 54 = .ok (.iand, 1) := by decide +kernel
theorem dX12_isPairing_55 : decode cX12_isPairing 55 = .ok (.ifCond .ne 30, 3) := by decide +kernel
theorem dX12_isPairing_58 : decode cX12_isPairing 58 = .ok (.iload_n 2, 1) := by decide +kernel
theorem dX12_isPairing_59 : decode cX12_isPairing 59 = .ok (.aload_n 0, 1) := by decide +kernel
theorem dX12_isPairing_60 : decode cX12_isPairing 60 = .ok (.iload 5, 2) := by decide +kernel
theorem dX12_isPairing_62 : decode cX12_isPairing 62 = .ok (.invokevirtual 118, 3) := by decide +kernel
theorem dX12_isPairing_65 : decode cX12_isPairing 65 = .ok (.ishr, 1) := by decide +kernel
theorem dX12_isPairing_66 : decode cX12_isPairing 66 = .ok (.iconst 1, 1) := by decide +kernel
theorem dX12_isPairing_67 : decode cX12_isPairing 67 = .ok (.iand, 1) := by decide +kernel
theorem dX12_isPairing_68 : decode cX12_isPairing 68 = .ok (.iload_n 2, 1) := by decide +kernel
theorem dX12_isPairing_69 : decode cX12_isPairing 69 = .ok (.aload_n 0, 1) := by decide +kernel
theorem dX12_isPairing_70 : decode cX12_isPairing 70 = .ok (.iload 5, 2) := by decide +kernel
theorem dX12_isPairing_72 : decode cX12_isPairing 72 = .ok (.invokevirtual 122, 3) := by decide +kernel
theorem dX12_isPairing_75 : decode cX12_isPairing 75 = .ok (.ishr, 1) := by decide +kernel
theorem dX12_isPairing_76 : decode cX12_isPairing 76 = .ok (.iconst 1, 1) := by decide +kernel
theorem dX12_isPairing_77 : decode cX12_isPairing 77 = .ok (.iand, 1) := by decide +kernel
theorem dX12_isPairing_78 : decode cX12_isPairing 78 = .ok (.if_icmp .eq 7, 3) := by decide +kernel
theorem dX12_isPairing_81 : decode cX12_isPairing 81 = .ok (.iconst 1, 1) := by decide +kernel
theorem dX12_isPairing_82 : decode cX12_isPairing 82 = .ok (.goto 4, 3) := by decide +kernel
theorem dX12_isPairing_85 : decode cX12_isPairing 85 = .ok (.iconst 0, 1) := by decide +kernel
theorem dX12_isPairing_86 : decode cX12_isPairing 86 = .ok (.istore 4, 2) := by decide +kernel
theorem dX12_isPairing_88 : decode cX12_isPairing 88 = .ok (.iload_n 3, 1) := by decide +kernel
theorem dX12_isPairing_89 : decode cX12_isPairing 89 = .ok (.iload 6, 2) := by decide +kernel
theorem dX12_isPairing_91 : decode cX12_isPairing 91 = .ok (.ior, 1) := by decide +kernel
theorem dX12_isPairing_92 : decode cX12_isPairing 92 = .ok (.istore_n 3, 1) := by decide +kernel
theorem dX12_isPairing_93 : decode cX12_isPairing 93 = .ok (.iinc 5 1, 3) := by decide +kernel
theorem dX12_isPairing_96 : decode cX12_isPairing 96 = .ok (.goto (-88), 3) := by decide +kernel
theorem dX12_isPairing_99 : decode cX12_isPairing 99 = .ok (.iload 4, 2) := by decide +kernel
theorem dX12_isPairing_101 : decode cX12_isPairing 101 = .ok (.ifCond .eq 15, 3) := by decide +kernel
theorem dX12_isPairing_104 : decode cX12_isPairing 104 = .ok (.iload_n 3, 1) := by decide +kernel
theorem dX12_isPairing_105 : decode cX12_isPairing 105 = .ok (.aload_n 0, 1) := by decide +kernel
theorem dX12_isPairing_106 : decode cX12_isPairing 106 = .ok (.invokevirtual 132, 3) := by decide +kernel
theorem dX12_isPairing_109 : decode cX12_isPairing 109 = .ok (.if_icmp .ne 7, 3) := by decide +kernel
theorem dX12_isPairing_112 : decode cX12_isPairing 112 = .ok (.iconst 1, 1) := by decide +kernel
theorem dX12_isPairing_113 : decode cX12_isPairing 113 = .ok (.goto 4, 3) := by decide +kernel
theorem dX12_isPairing_116 : decode cX12_isPairing 116 = .ok (.iconst 0, 1) := by decide +kernel
theorem dX12_isPairing_117 : decode cX12_isPairing 117 = .ok (.ireturn, 1) := by decide +kernel
theorem dX12_isTold_0 : decode cX12_isTold 0 = .ok (.iconst 0, 1) := by decide +kernel
theorem dX12_isTold_1 : decode cX12_isTold 1 = .ok (.istore_n 3, 1) := by decide +kernel
theorem dX12_isTold_2 : decode cX12_isTold 2 = .ok (.iconst 0, 1) := by decide +kernel
theorem dX12_isTold_3 : decode cX12_isTold 3 = .ok (.istore 4, 2) := by decide +kernel
theorem dX12_isTold_5 : decode cX12_isTold 5 = .ok (.iload 4, 2) := by decide +kernel
theorem dX12_isTold_7 : decode cX12_isTold 7 = .ok (.aload_n 0, 1) := by decide +kernel
theorem dX12_isTold_8 : decode cX12_isTold 8 = .ok (.getfield 25, 3) := by decide +kernel
theorem dX12_isTold_11 : decode cX12_isTold 11 = .ok (.iload_n 1, 1) := by decide +kernel
theorem dX12_isTold_12 : decode cX12_isTold 12 = .ok (.iaload, 1) := by decide +kernel
theorem dX12_isTold_13 : decode cX12_isTold 13 = .ok (.if_icmp .ge 35, 3) := by decide +kernel
theorem dX12_isTold_16 : decode cX12_isTold 16 = .ok (.iload_n 3, 1) := by decide +kernel
theorem dX12_isTold_17 : decode cX12_isTold 17 = .ok (.ifCond .ne 19, 3) := by decide +kernel
theorem dX12_isTold_20 : decode cX12_isTold 20 = .ok (.aload_n 0, 1) := by decide +kernel
theorem dX12_isTold_21 : decode cX12_isTold 21 = .ok (.getfield 28, 3) := by decide +kernel
theorem dX12_isTold_24 : decode cX12_isTold 24 = .ok (.bipush 8, 2) := by decide +kernel
theorem dX12_isTold_26 : decode cX12_isTold 26 = .ok (.iload_n 1, 1) := by decide +kernel
theorem dX12_isTold_27 : decode cX12_isTold 27 = .ok (.imul, 1) := by decide +kernel
theorem dX12_isTold_28 : decode cX12_isTold 28 = .ok (.iload 4, 2) := by decide +kernel
theorem dX12_isTold_30 : decode cX12_isTold 30 = .ok (.iadd, 1) := by decide +kernel
theorem dX12_isTold_31 : decode cX12_isTold 31 = .ok (.iaload, 1) := by decide +kernel
theorem dX12_isTold_32 : decode cX12_isTold 32 = .ok (.iload_n 2, 1) := by decide +kernel
theorem dX12_isTold_33 : decode cX12_isTold 33 = .ok (.if_icmp .ne 7, 3) := by decide +kernel
theorem dX12_isTold_36 : decode cX12_isTold 36 = .ok (.iconst 1, 1) := by decide +kernel
theorem dX12_isTold_37 : decode cX12_isTold 37 = .ok (.goto 4, 3) := by decide +kernel
theorem dX12_isTold_40 : decode cX12_isTold 40 = .ok (.iconst 0, 1) := by decide +kernel
theorem dX12_isTold_41 : decode cX12_isTold 41 = .ok (.istore_n 3, 1) := by decide +kernel
theorem dX12_isTold_42 : decode cX12_isTold 42 = .ok (.iinc 4 1, 3) := by decide +kernel
theorem dX12_isTold_45 : decode cX12_isTold 45 = .ok (.goto (-40), 3) := by decide +kernel
theorem dX12_isTold_48 : decode cX12_isTold 48 = .ok (.iload_n 3, 1) := by decide +kernel
theorem dX12_isTold_49 : decode cX12_isTold 49 = .ok (.ireturn, 1) := by decide +kernel
theorem dX12_isChoice_0 : decode cX12_isChoice 0 = .ok (.iload_n 2, 1) := by decide +kernel
theorem dX12_isChoice_1 : decode cX12_isChoice 1 = .ok (.iconst 0, 1) := by decide +kernel
theorem dX12_isChoice_2 : decode cX12_isChoice 2 = .ok (.aload_n 0, 1) := by decide +kernel
theorem dX12_isChoice_3 : decode cX12_isChoice 3 = .ok (.invokevirtual 135, 3) := by decide +kernel
theorem dX12_isChoice_6 : decode cX12_isChoice 6 = .ok (.invokestatic 85, 3) := by decide +kernel
theorem dX12_isChoice_9 : decode cX12_isChoice 9 = .ok (.ifCond .ne 5, 3) := by decide +kernel
theorem dX12_isChoice_12 : decode cX12_isChoice 12 = .ok (.iconst 0, 1) := by decide +kernel
theorem dX12_isChoice_13 : decode cX12_isChoice 13 = .ok (.ireturn, 1) := by decide +kernel
theorem dX12_isChoice_14 : decode cX12_isChoice 14 = .ok (.aload_n 0, 1) := by decide +kernel
theorem dX12_isChoice_15 : decode cX12_isChoice 15 = .ok (.getfield 16, 3) := by decide +kernel
theorem dX12_isChoice_18 : decode cX12_isChoice 18 = .ok (.iload_n 1, 1) := by decide +kernel
theorem dX12_isChoice_19 : decode cX12_isChoice 19 = .ok (.iaload, 1) := by decide +kernel
theorem dX12_isChoice_20 : decode cX12_isChoice 20 = .ok (.tableswitch 64 1 3 #[28, 34, 52], 28) := by decide +kernel
theorem dX12_isChoice_48 : decode cX12_isChoice 48 = .ok (.aload_n 0, 1) := by decide +kernel
theorem dX12_isChoice_49 : decode cX12_isChoice 49 = .ok (.iload_n 2, 1) := by decide +kernel
theorem dX12_isChoice_50 : decode cX12_isChoice 50 = .ok (.invokevirtual 138, 3) := by decide +kernel
theorem dX12_isChoice_53 : decode cX12_isChoice 53 = .ok (.ireturn, 1) := by decide +kernel
theorem dX12_isChoice_54 : decode cX12_isChoice 54 = .ok (.aload_n 0, 1) := by decide +kernel
theorem dX12_isChoice_55 : decode cX12_isChoice 55 = .ok (.iload_n 2, 1) := by decide +kernel
theorem dX12_isChoice_56 : decode cX12_isChoice 56 = .ok (.aload_n 0, 1) := by decide +kernel
theorem dX12_isChoice_57 : decode cX12_isChoice 57 = .ok (.getfield 19, 3) := by decide +kernel
theorem dX12_isChoice_60 : decode cX12_isChoice 60 = .ok (.iload_n 1, 1) := by decide +kernel
theorem dX12_isChoice_61 : decode cX12_isChoice 61 = .ok (.iaload, 1) := by decide +kernel
theorem dX12_isChoice_62 : decode cX12_isChoice 62 = .ok (.aload_n 0, 1) := by decide +kernel
theorem dX12_isChoice_63 : decode cX12_isChoice 63 = .ok (.getfield 22, 3) := by decide +kernel
theorem dX12_isChoice_66 : decode cX12_isChoice 66 = .ok (.iload_n 1, 1) := by decide +kernel
theorem dX12_isChoice_67 : decode cX12_isChoice 67 = .ok (.iaload, 1) := by decide +kernel
theorem dX12_isChoice_68 : decode cX12_isChoice 68 = .ok (.invokevirtual 141, 3) := by decide +kernel
theorem dX12_isChoice_71 : decode cX12_isChoice 71 = .ok (.ireturn, 1) := by decide +kernel
theorem dX12_isChoice_72 : decode cX12_isChoice 72 = .ok (.aload_n 0, 1) := by decide +kernel
theorem dX12_isChoice_73 : decode cX12_isChoice 73 = .ok (.iload_n 2, 1) := by decide +kernel
theorem dX12_isChoice_74 : decode cX12_isChoice 74 = .ok (.aload_n 0, 1) := by decide +kernel
theorem dX12_isChoice_75 : decode cX12_isChoice 75 = .ok (.getfield 19, 3) := by decide +kernel
theorem dX12_isChoice_78 : decode cX12_isChoice 78 = .ok (.iload_n 1, 1) := by decide +kernel
theorem dX12_isChoice_79 : decode cX12_isChoice 79 = .ok (.iaload, 1) := by decide +kernel
theorem dX12_isChoice_80 : decode cX12_isChoice 80 = .ok (.invokevirtual 144, 3) := by decide +kernel
theorem dX12_isChoice_83 : decode cX12_isChoice 83 = .ok (.ireturn, 1) := by decide +kernel
theorem dX12_isChoice_84 : decode cX12_isChoice 84 = .ok (.aload_n 0, 1) := by decide +kernel
theorem dX12_isChoice_85 : decode cX12_isChoice 85 = .ok (.iload_n 1, 1) := by decide +kernel
theorem dX12_isChoice_86 : decode cX12_isChoice 86 = .ok (.iload_n 2, 1) := by decide +kernel
theorem dX12_isChoice_87 : decode cX12_isChoice 87 = .ok (.invokevirtual 147, 3) := by decide +kernel
theorem dX12_isChoice_90 : decode cX12_isChoice 90 = .ok (.ireturn, 1) := by decide +kernel
theorem dX12_ordered_0 : decode cX12_ordered 0 = .ok (.iconst 0, 1) := by decide +kernel
theorem dX12_ordered_1 : decode cX12_ordered 1 = .ok (.istore_n 1, 1) := by decide +kernel
theorem dX12_ordered_2 : decode cX12_ordered 2 = .ok (.iconst 0, 1) := by decide +kernel
theorem dX12_ordered_3 : decode cX12_ordered 3 = .ok (.istore_n 2, 1) := by decide +kernel
theorem dX12_ordered_4 : decode cX12_ordered 4 = .ok (.iload_n 2, 1) := by decide +kernel
theorem dX12_ordered_5 : decode cX12_ordered 5 = .ok (.bipush 12, 2) := by decide +kernel
theorem dX12_ordered_7 : decode cX12_ordered 7 = .ok (.if_icmp .ge 35, 3) := by decide +kernel
theorem dX12_ordered_10 : decode cX12_ordered 10 = .ok (.iload_n 1, 1) := by decide +kernel
theorem dX12_ordered_11 : decode cX12_ordered 11 = .ok (.sipush 4095, 3) := by decide +kernel
theorem dX12_ordered_14 : decode cX12_ordered 14 = .ok (.iload_n 0, 1) := by decide +kernel
theorem dX12_ordered_15 : decode cX12_ordered 15 = .ok (.isub, 1) := by decide +kernel
theorem dX12_ordered_16 : decode cX12_ordered 16 = .ok (.iload_n 2, 1) := by decide +kernel
theorem dX12_ordered_17 : decode cX12_ordered 17 = .ok (.ishr, 1) := by decide +kernel
theorem dX12_ordered_18 : decode cX12_ordered 18 = .ok (.iconst 1, 1) := by decide +kernel
theorem dX12_ordered_19 : decode cX12_ordered 19 = .ok (.iand, 1) := by decide +kernel
theorem dX12_ordered_20 : decode cX12_ordered 20 = .ok (.iconst 1, 1) := by decide +kernel
theorem dX12_ordered_21 : decode cX12_ordered 21 = .ok (.if_icmp .ne 12, 3) := by decide +kernel
theorem dX12_ordered_24 : decode cX12_ordered 24 = .ok (.iconst 1, 1) := by decide +kernel
theorem dX12_ordered_25 : decode cX12_ordered 25 = .ok (.bipush 11, 2) := by decide +kernel
theorem dX12_ordered_27 : decode cX12_ordered 27 = .ok (.iload_n 2, 1) := by decide +kernel
theorem dX12_ordered_28 : decode cX12_ordered 28 = .ok (.isub, 1) := by decide +kernel
theorem dX12_ordered_29 : decode cX12_ordered 29 = .ok (.ishl, 1) := by decide +kernel
theorem dX12_ordered_30 : decode cX12_ordered 30 = .ok (.goto 4, 3) := by decide +kernel
theorem dX12_ordered_33 : decode cX12_ordered 33 = .ok (.iconst 0, 1) := by decide +kernel
theorem dX12_ordered_34 : decode cX12_ordered 34 = .ok (.ior, 1) := by decide +kernel
theorem dX12_ordered_35 : decode cX12_ordered 35 = .ok (.istore_n 1, 1) := by decide +kernel
theorem dX12_ordered_36 : decode cX12_ordered 36 = .ok (.iinc 2 1, 3) := by decide +kernel
theorem dX12_ordered_39 : decode cX12_ordered 39 = .ok (.goto (-35), 3) := by decide +kernel
theorem dX12_ordered_42 : decode cX12_ordered 42 = .ok (.iload_n 1, 1) := by decide +kernel
theorem dX12_ordered_43 : decode cX12_ordered 43 = .ok (.ireturn, 1) := by decide +kernel
theorem dX12_gathers_0 : decode cX12_gathers 0 = .ok (.aload_n 0, 1) := by decide +kernel
theorem dX12_gathers_1 : decode cX12_gathers 1 = .ok (.iconst 0, 1) := by decide +kernel
theorem dX12_gathers_2 : decode cX12_gathers 2 = .ok (.putfield 150, 3) := by decide +kernel
theorem dX12_gathers_5 : decode cX12_gathers 5 = .ok (.iconst 0, 1) := by decide +kernel
theorem dX12_gathers_6 : decode cX12_gathers 6 = .ok (.istore_n 2, 1) := by decide +kernel
theorem dX12_gathers_7 : decode cX12_gathers 7 = .ok (.iload_n 2, 1) := by decide +kernel
theorem dX12_gathers_8 : decode cX12_gathers 8 = .ok (.sipush 4096, 3) := by decide +kernel
theorem dX12_gathers_11 : decode cX12_gathers 11 = .ok (.if_icmp .ge 71, 3) := by decide +kernel
theorem dX12_gathers_14 : decode cX12_gathers 14 = .ok (.iload_n 2, 1) := by decide +kernel
theorem dX12_gathers_15 : decode cX12_gathers 15 = .ok (.invokestatic 153, 3) := by decide +kernel
theorem dX12_gathers_18 : decode cX12_gathers 18 = .ok (.istore_n 3, 1) := by decide +kernel
theorem dX12_gathers_19 : decode cX12_gathers 19 = .ok (.aload_n 0, 1) := by decide +kernel
theorem dX12_gathers_20 : decode cX12_gathers 20 = .ok (.iload_n 1, 1) := by decide +kernel
theorem dX12_gathers_21 : decode cX12_gathers 21 = .ok (.iload_n 3, 1) := by decide +kernel
theorem dX12_gathers_22 : decode cX12_gathers 22 = .ok (.invokevirtual 156, 3) := by decide +kernel
theorem dX12_gathers_25 : decode cX12_gathers 25 = .ok (.ifCond .eq 51, 3) := by decide +kernel
theorem dX12_gathers_28 : decode cX12_gathers 28 = .ok (.aload_n 0, 1) := by decide +kernel
theorem dX12_gathers_29 : decode cX12_gathers 29 = .ok (.getfield 57, 3) := by decide +kernel
theorem dX12_gathers_32 : decode cX12_gathers 32 = .ok (.aload_n 0, 1) := by decide +kernel
theorem dX12_gathers_33 : decode cX12_gathers 33 = .ok (.getfield 150, 3) := by decide +kernel
theorem dX12_gathers_36 : decode cX12_gathers 36 = .ok (.iload_n 3, 1) := by decide +kernel
theorem dX12_gathers_37 : decode cX12_gathers 37 = .ok (.iastore, 1) := by decide +kernel
theorem dX12_gathers_38 : decode cX12_gathers 38 = .ok (.aload_n 0, 1) := by decide +kernel
theorem dX12_gathers_39 : decode cX12_gathers 39 = .ok (.getfield 60, 3) := by decide +kernel
theorem dX12_gathers_42 : decode cX12_gathers 42 = .ok (.aload_n 0, 1) := by decide +kernel
theorem dX12_gathers_43 : decode cX12_gathers 43 = .ok (.getfield 150, 3) := by decide +kernel
theorem dX12_gathers_46 : decode cX12_gathers 46 = .ok (.aload_n 0, 1) := by decide +kernel
theorem dX12_gathers_47 : decode cX12_gathers 47 = .ok (.iload_n 3, 1) := by decide +kernel
theorem dX12_gathers_48 : decode cX12_gathers 48 = .ok (.invokevirtual 159, 3) := by decide +kernel
theorem dX12_gathers_51 : decode cX12_gathers 51 = .ok (.iastore, 1) := by decide +kernel
theorem dX12_gathers_52 : decode cX12_gathers 52 = .ok (.aload_n 0, 1) := by decide +kernel
theorem dX12_gathers_53 : decode cX12_gathers 53 = .ok (.getfield 63, 3) := by decide +kernel
theorem dX12_gathers_56 : decode cX12_gathers 56 = .ok (.aload_n 0, 1) := by decide +kernel
theorem dX12_gathers_57 : decode cX12_gathers 57 = .ok (.getfield 150, 3) := by decide +kernel
theorem dX12_gathers_60 : decode cX12_gathers 60 = .ok (.aload_n 0, 1) := by decide +kernel
theorem dX12_gathers_61 : decode cX12_gathers 61 = .ok (.iload_n 3, 1) := by decide +kernel
theorem dX12_gathers_62 : decode cX12_gathers 62 = .ok (.invokevirtual 162, 3) := by decide +kernel
theorem dX12_gathers_65 : decode cX12_gathers 65 = .ok (.iastore, 1) := by decide +kernel
theorem dX12_gathers_66 : decode cX12_gathers 66 = .ok (.aload_n 0, 1) := by decide +kernel
theorem dX12_gathers_67 : decode cX12_gathers 67 = .ok (.dup, 1) := by decide +kernel
theorem dX12_gathers_68 : decode cX12_gathers 68 = .ok (.getfield 150, 3) := by decide +kernel
theorem dX12_gathers_71 : decode cX12_gathers 71 = .ok (.iconst 1, 1) := by decide +kernel
theorem dX12_gathers_72 : decode cX12_gathers 72 = .ok (.iadd, 1) := by decide +kernel
theorem dX12_gathers_73 : decode cX12_gathers 73 = .ok (.putfield 150, 3) := by decide +kernel
theorem dX12_gathers_76 : decode cX12_gathers 76 = .ok (.iinc 2 1, 3) := by decide +kernel
theorem dX12_gathers_79 : decode cX12_gathers 79 = .ok (.goto (-72), 3) := by decide +kernel
theorem dX12_gathers_82 : decode cX12_gathers 82 = .ok (.return_, 1) := by decide +kernel
theorem dX12_placeOf_0 : decode cX12_placeOf 0 = .ok (.iconst 0, 1) := by decide +kernel
theorem dX12_placeOf_1 : decode cX12_placeOf 1 = .ok (.istore_n 2, 1) := by decide +kernel
theorem dX12_placeOf_2 : decode cX12_placeOf 2 = .ok (.iload_n 2, 1) := by decide +kernel
theorem dX12_placeOf_3 : decode cX12_placeOf 3 = .ok (.aload_n 0, 1) := by decide +kernel
theorem dX12_placeOf_4 : decode cX12_placeOf 4 = .ok (.getfield 150, 3) := by decide +kernel
theorem dX12_placeOf_7 : decode cX12_placeOf 7 = .ok (.if_icmp .ge 21, 3) := by decide +kernel
theorem dX12_placeOf_10 : decode cX12_placeOf 10 = .ok (.aload_n 0, 1) := by decide +kernel
theorem dX12_placeOf_11 : decode cX12_placeOf 11 = .ok (.getfield 57, 3) := by decide +kernel
theorem dX12_placeOf_14 : decode cX12_placeOf 14 = .ok (.iload_n 2, 1) := by decide +kernel
theorem dX12_placeOf_15 : decode cX12_placeOf 15 = .ok (.iaload, 1) := by decide +kernel
theorem dX12_placeOf_16 : decode cX12_placeOf 16 = .ok (.iload_n 1, 1) := by decide +kernel
theorem dX12_placeOf_17 : decode cX12_placeOf 17 = .ok (.if_icmp .ne 5, 3) := by decide +kernel
theorem dX12_placeOf_20 : decode cX12_placeOf 20 = .ok (.iload_n 2, 1) := by decide +kernel
theorem dX12_placeOf_21 : decode cX12_placeOf 21 = .ok (.ireturn, 1) := by decide +kernel
theorem dX12_placeOf_22 : decode cX12_placeOf 22 = .ok (.iinc 2 1, 3) := by decide +kernel
theorem dX12_placeOf_25 : decode cX12_placeOf 25 = .ok (.goto (-23), 3) := by decide +kernel
theorem dX12_placeOf_28 : decode cX12_placeOf 28 = .ok (.iconst (-1), 1) := by decide +kernel
theorem dX12_placeOf_29 : decode cX12_placeOf 29 = .ok (.ireturn, 1) := by decide +kernel
theorem dX12_barsOf_0 : decode cX12_barsOf 0 = .ok (.aload_n 0, 1) := by decide +kernel
theorem dX12_barsOf_1 : decode cX12_barsOf 1 = .ok (.getfield 16, 3) := by decide +kernel
theorem dX12_barsOf_4 : decode cX12_barsOf 4 = .ok (.iload_n 1, 1) := by decide +kernel
theorem dX12_barsOf_5 : decode cX12_barsOf 5 = .ok (.iaload, 1) := by decide +kernel
theorem dX12_barsOf_6 : decode cX12_barsOf 6 = .ok (.iconst 1, 1) := by decide +kernel
theorem dX12_barsOf_7 : decode cX12_barsOf 7 = .ok (.if_icmp .ne 25, 3) := by decide +kernel
theorem dX12_barsOf_10 : decode cX12_barsOf 10 = .ok (.aload_n 0, 1) := by decide +kernel
theorem dX12_barsOf_11 : decode cX12_barsOf 11 = .ok (.invokevirtual 82, 3) := by decide +kernel
theorem dX12_barsOf_14 : decode cX12_barsOf 14 = .ok (.ifCond .ne 7, 3) := by decide +kernel
theorem dX12_barsOf_17 : decode cX12_barsOf 17 = .ok (.iconst 0, 1) := by decide +kernel
theorem dX12_barsOf_18 : decode cX12_barsOf 18 = .ok (.goto 13, 3) := by decide +kernel
theorem dX12_barsOf_21 : decode cX12_barsOf 21 = .ok (.aload_n 0, 1) := by decide +kernel
theorem dX12_barsOf_22 : decode cX12_barsOf 22 = .ok (.aload_n 0, 1) := by decide +kernel
theorem dX12_barsOf_23 : decode cX12_barsOf 23 = .ok (.invokevirtual 135, 3) := by decide +kernel
theorem dX12_barsOf_26 : decode cX12_barsOf 26 = .ok (.iconst 1, 1) := by decide +kernel
theorem dX12_barsOf_27 : decode cX12_barsOf 27 = .ok (.iconst 1, 1) := by decide +kernel
theorem dX12_barsOf_28 : decode cX12_barsOf 28 = .ok (.invokevirtual 128, 3) := by decide +kernel
theorem dX12_barsOf_31 : decode cX12_barsOf 31 = .ok (.ireturn, 1) := by decide +kernel
theorem dX12_barsOf_32 : decode cX12_barsOf 32 = .ok (.aload_n 0, 1) := by decide +kernel
theorem dX12_barsOf_33 : decode cX12_barsOf 33 = .ok (.getfield 16, 3) := by decide +kernel
theorem dX12_barsOf_36 : decode cX12_barsOf 36 = .ok (.iload_n 1, 1) := by decide +kernel
theorem dX12_barsOf_37 : decode cX12_barsOf 37 = .ok (.iaload, 1) := by decide +kernel
theorem dX12_barsOf_38 : decode cX12_barsOf 38 = .ok (.iconst 2, 1) := by decide +kernel
theorem dX12_barsOf_39 : decode cX12_barsOf 39 = .ok (.if_icmp .ne 21, 3) := by decide +kernel
theorem dX12_barsOf_42 : decode cX12_barsOf 42 = .ok (.aload_n 0, 1) := by decide +kernel
theorem dX12_barsOf_43 : decode cX12_barsOf 43 = .ok (.aload_n 0, 1) := by decide +kernel
theorem dX12_barsOf_44 : decode cX12_barsOf 44 = .ok (.invokevirtual 135, 3) := by decide +kernel
theorem dX12_barsOf_47 : decode cX12_barsOf 47 = .ok (.iconst 1, 1) := by decide +kernel
theorem dX12_barsOf_48 : decode cX12_barsOf 48 = .ok (.aload_n 0, 1) := by decide +kernel
theorem dX12_barsOf_49 : decode cX12_barsOf 49 = .ok (.getfield 19, 3) := by decide +kernel
theorem dX12_barsOf_52 : decode cX12_barsOf 52 = .ok (.iload_n 1, 1) := by decide +kernel
theorem dX12_barsOf_53 : decode cX12_barsOf 53 = .ok (.iaload, 1) := by decide +kernel
theorem dX12_barsOf_54 : decode cX12_barsOf 54 = .ok (.ishl, 1) := by decide +kernel
theorem dX12_barsOf_55 : decode cX12_barsOf 55 = .ok (.iconst 0, 1) := by decide +kernel
theorem dX12_barsOf_56 : decode cX12_barsOf 56 = .ok (.invokevirtual 128, 3) := by decide +kernel
theorem dX12_barsOf_59 : decode cX12_barsOf 59 = .ok (.ireturn, 1) := by decide +kernel
theorem dX12_barsOf_60 : decode cX12_barsOf 60 = .ok (.aload_n 0, 1) := by decide +kernel
theorem dX12_barsOf_61 : decode cX12_barsOf 61 = .ok (.getfield 16, 3) := by decide +kernel
theorem dX12_barsOf_64 : decode cX12_barsOf 64 = .ok (.iload_n 1, 1) := by decide +kernel
theorem dX12_barsOf_65 : decode cX12_barsOf 65 = .ok (.iaload, 1) := by decide +kernel
theorem dX12_barsOf_66 : decode cX12_barsOf 66 = .ok (.ifCond .ne 5, 3) := by decide +kernel
theorem dX12_barsOf_69 : decode cX12_barsOf 69 = .ok (.iconst 0, 1) := by decide +kernel
theorem dX12_barsOf_70 : decode cX12_barsOf 70 = .ok (.ireturn, 1) := by decide +kernel
theorem dX12_barsOf_71 : decode cX12_barsOf 71 = .ok (.aload_n 0, 1) := by decide +kernel
theorem dX12_barsOf_72 : decode cX12_barsOf 72 = .ok (.getfield 19, 3) := by decide +kernel
theorem dX12_barsOf_75 : decode cX12_barsOf 75 = .ok (.iload_n 1, 1) := by decide +kernel
theorem dX12_barsOf_76 : decode cX12_barsOf 76 = .ok (.iaload, 1) := by decide +kernel
theorem dX12_barsOf_77 : decode cX12_barsOf 77 = .ok (.istore_n 2, 1) := by decide +kernel
theorem dX12_barsOf_78 : decode cX12_barsOf 78 = .ok (.aload_n 0, 1) := by decide +kernel
theorem dX12_barsOf_79 : decode cX12_barsOf 79 = .ok (.invokevirtual 132, 3) := by decide +kernel
theorem dX12_barsOf_82 : decode cX12_barsOf 82 = .ok (.iload_n 2, 1) := by decide +kernel
theorem dX12_barsOf_83 : decode cX12_barsOf 83 = .ok (.iconst (-1), 1) := by decide +kernel
theorem dX12_barsOf_84 : decode cX12_barsOf 84 = .ok (.ixor, 1) := by decide +kernel
theorem dX12_barsOf_85 : decode cX12_barsOf 85 = .ok (.iand, 1) := by decide +kernel
theorem dX12_barsOf_86 : decode cX12_barsOf 86 = .ok (.istore_n 3, 1) := by decide +kernel
theorem dX12_barsOf_87 : decode cX12_barsOf 87 = .ok (.iload_n 2, 1) := by decide +kernel
theorem dX12_barsOf_88 : decode cX12_barsOf 88 = .ok (.invokestatic 125, 3) := by decide +kernel
theorem dX12_barsOf_91 : decode cX12_barsOf 91 = .ok (.iload_n 3, 1) := by decide +kernel
theorem dX12_barsOf_92 : decode cX12_barsOf 92 = .ok (.invokestatic 125, 3) := by decide +kernel
theorem dX12_barsOf_95 : decode cX12_barsOf 95 = .ok (.if_icmp .eq 20, 3) := by decide +kernel
theorem dX12_barsOf_98 : decode cX12_barsOf 98 = .ok (.iload_n 2, 1) := by decide +kernel
theorem dX12_barsOf_99 : decode cX12_barsOf 99 = .ok (.invokestatic 125, 3) := by decide +kernel
theorem dX12_barsOf_102 : decode cX12_barsOf 102 = .ok (.iload_n 3, 1) := by decide +kernel
theorem dX12_barsOf_103 : decode cX12_barsOf 103 = .ok (.invokestatic 125, 3) := by decide +kernel
theorem dX12_barsOf_106 : decode cX12_barsOf 106 = .ok (.if_icmp .le 7, 3) := by decide +kernel
theorem dX12_barsOf_109 : decode cX12_barsOf 109 = .ok (.iload_n 2, 1) := by decide +kernel
theorem dX12_barsOf_110 : decode cX12_barsOf 110 = .ok (.goto 4, 3) := by decide +kernel
theorem dX12_barsOf_113 : decode cX12_barsOf 113 = .ok (.iload_n 3, 1) := by decide +kernel
theorem dX12_barsOf_114 : decode cX12_barsOf 114 = .ok (.ireturn, 1) := by decide +kernel
theorem dX12_barsOf_115 : decode cX12_barsOf 115 = .ok (.iconst 1, 1) := by decide +kernel
theorem dX12_barsOf_116 : decode cX12_barsOf 116 = .ok (.istore 4, 2) := by decide +kernel
theorem dX12_barsOf_118 : decode cX12_barsOf 118 = .ok (.iload 4, 2) := by decide +kernel
theorem dX12_barsOf_120 : decode cX12_barsOf 120 = .ok (.iload_n 2, 1) := by decide +kernel
theorem dX12_barsOf_121 : decode cX12_barsOf 121 = .ok (.if_icmp .gt 40, 3) := by decide +kernel
theorem dX12_barsOf_124 : decode cX12_barsOf 124 = .ok (.iload 4, 2) := by decide +kernel
theorem dX12_barsOf_126 : decode cX12_barsOf 126 = .ok (.iload_n 2, 1) := by decide +kernel
theorem dX12_barsOf_127 : decode cX12_barsOf 127 = .ok (.iconst (-1), 1) := by decide +kernel
theorem dX12_barsOf_128 : decode cX12_barsOf 128 = .ok (.ixor, 1) := by decide +kernel
theorem dX12_barsOf_129 : decode cX12_barsOf 129 = .ok (.iand, 1) := by decide +kernel
theorem dX12_barsOf_130 : decode cX12_barsOf 130 = .ok (.ifCond .ne 25, 3) := by decide +kernel
theorem dX12_barsOf_133 : decode cX12_barsOf 133 = .ok (.aload_n 0, 1) := by decide +kernel
theorem dX12_barsOf_134 : decode cX12_barsOf 134 = .ok (.iload 4, 2) := by decide +kernel
theorem dX12_barsOf_136 : decode cX12_barsOf 136 = .ok (.invokevirtual 165, 3) := by decide +kernel
theorem dX12_barsOf_139 : decode cX12_barsOf 139 = .ok (.iload_n 3, 1) := by decide +kernel
theorem dX12_barsOf_140 : decode cX12_barsOf 140 = .ok (.iand, 1) := by decide +kernel
theorem dX12_barsOf_141 : decode cX12_barsOf 141 = .ok (.invokestatic 125, 3) := by decide +kernel
theorem dX12_barsOf_144 : decode cX12_barsOf 144 = .ok (.iload 4, 2) := by decide +kernel
theorem dX12_barsOf_146 : decode cX12_barsOf 146 = .ok (.invokestatic 125, 3) := by decide +kernel
theorem dX12_barsOf_149 : decode cX12_barsOf 149 = .ok (.if_icmp .ge 6, 3) := by decide +kernel
theorem dX12_barsOf_152 : decode cX12_barsOf 152 = .ok (.iload 4, 2) := by decide +kernel
theorem dX12_barsOf_154 : decode cX12_barsOf 154 = .ok (.ireturn, 1) := by decide +kernel
theorem dX12_barsOf_155 : decode cX12_barsOf 155 = .ok (.iinc 4 1, 3) := by decide +kernel
theorem dX12_barsOf_158 : decode cX12_barsOf 158 = .ok (.goto (-40), 3) := by decide +kernel
theorem dX12_barsOf_161 : decode cX12_barsOf 161 = .ok (.iconst 0, 1) := by decide +kernel
theorem dX12_barsOf_162 : decode cX12_barsOf 162 = .ok (.ireturn, 1) := by decide +kernel
theorem dX12_beside_0 : decode cX12_beside 0 = .ok (.iconst 0, 1) := by decide +kernel
theorem dX12_beside_1 : decode cX12_beside 1 = .ok (.istore_n 2, 1) := by decide +kernel
theorem dX12_beside_2 : decode cX12_beside 2 = .ok (.iconst 0, 1) := by decide +kernel
theorem dX12_beside_3 : decode cX12_beside 3 = .ok (.istore_n 3, 1) := by decide +kernel
theorem dX12_beside_4 : decode cX12_beside 4 = .ok (.iload_n 3, 1) := by decide +kernel
theorem dX12_beside_5 : decode cX12_beside 5 = .ok (.aload_n 0, 1) := by decide +kernel
theorem dX12_beside_6 : decode cX12_beside 6 = .ok (.invokevirtual 78, 3) := by decide +kernel
theorem dX12_beside_9 : decode cX12_beside 9 = .ok (.if_icmp .ge 63, 3) := by decide +kernel
theorem dX12_beside_12 : decode cX12_beside 12 = .ok (.iload_n 2, 1) := by decide +kernel
theorem dX12_beside_13 : decode cX12_beside 13 = .ok (.iload_n 1, 1) := by decide +kernel
theorem dX12_beside_14 : decode cX12_beside 14 = .ok (.aload_n 0, 1) := by decide +kernel
theorem dX12_beside_15 : decode cX12_beside 15 = .ok (.iload_n 3, 1) := by decide +kernel
theorem dX12_beside_16 : decode cX12_beside 16 = .ok (.invokevirtual 118, 3) := by decide +kernel
theorem dX12_beside_19 : decode cX12_beside 19 = .ok (.ishr, 1) := by decide +kernel
theorem dX12_beside_20 : decode cX12_beside 20 = .ok (.iconst 1, 1) := by decide +kernel
theorem dX12_beside_21 : decode cX12_beside 21 = .ok (.iand, 1) := by decide +kernel
theorem dX12_beside_22 : decode cX12_beside 22 = .ok (.iconst 1, 1) := by decide +kernel
theorem dX12_beside_23 : decode cX12_beside 23 = .ok (.if_icmp .ne 13, 3) := by decide +kernel
theorem dX12_beside_26 : decode cX12_beside 26 = .ok (.iconst 1, 1) := by decide +kernel
theorem dX12_beside_27 : decode cX12_beside 27 = .ok (.aload_n 0, 1) := by decide +kernel
theorem dX12_beside_28 : decode cX12_beside 28 = .ok (.iload_n 3, 1) := by decide +kernel
theorem dX12_beside_29 : decode cX12_beside 29 = .ok (.invokevirtual 122, 3) := by decide +kernel
theorem dX12_beside_32 : decode cX12_beside 32 = .ok (.ishl, 1) := by decide +kernel
theorem dX12_beside_33 : decode cX12_beside 33 = .ok (.goto 4, 3) := by decide +kernel
theorem dX12_beside_36 : decode cX12_beside 36 = .ok (.iconst 0, 1) := by decide +kernel
theorem dX12_beside_37 : decode cX12_beside 37 = .ok (.ior, 1) := by decide +kernel
theorem dX12_beside_38 : decode cX12_beside 38 = .ok (.istore_n 2, 1) := by decide +kernel
theorem dX12_beside_39 : decode cX12_beside 39 = .ok (.iload_n 2, 1) := by decide +kernel
theorem dX12_beside_40 : decode cX12_beside 40 = .ok (.iload_n 1, 1) := by decide +kernel
theorem dX12_beside_41 : decode cX12_beside 41 = .ok (.aload_n 0, 1) := by decide +kernel
theorem dX12_beside_42 : decode cX12_beside 42 = .ok (.iload_n 3, 1) := by decide +kernel
theorem dX12_beside_43 : decode cX12_beside 43 = .ok (.invokevirtual 122, 3) := by decide +kernel
theorem dX12_beside_46 : decode cX12_beside 46 = .ok (.ishr, 1) := by decide +kernel
theorem dX12_beside_47 : decode cX12_beside 47 = .ok (.iconst 1, 1) := by decide +kernel
theorem dX12_beside_48 : decode cX12_beside 48 = .ok (.iand, 1) := by decide +kernel
theorem dX12_beside_49 : decode cX12_beside 49 = .ok (.iconst 1, 1) := by decide +kernel
theorem dX12_beside_50 : decode cX12_beside 50 = .ok (.if_icmp .ne 13, 3) := by decide +kernel
theorem dX12_beside_53 : decode cX12_beside 53 = .ok (.iconst 1, 1) := by decide +kernel
theorem dX12_beside_54 : decode cX12_beside 54 = .ok (.aload_n 0, 1) := by decide +kernel
theorem dX12_beside_55 : decode cX12_beside 55 = .ok (.iload_n 3, 1) := by decide +kernel
theorem dX12_beside_56 : decode cX12_beside 56 = .ok (.invokevirtual 118, 3) := by decide +kernel
theorem dX12_beside_59 : decode cX12_beside 59 = .ok (.ishl, 1) := by decide +kernel
theorem dX12_beside_60 : decode cX12_beside 60 = .ok (.goto 4, 3) := by decide +kernel
theorem dX12_beside_63 : decode cX12_beside 63 = .ok (.iconst 0, 1) := by decide +kernel
theorem dX12_beside_64 : decode cX12_beside 64 = .ok (.ior, 1) := by decide +kernel
theorem dX12_beside_65 : decode cX12_beside 65 = .ok (.istore_n 2, 1) := by decide +kernel
theorem dX12_beside_66 : decode cX12_beside 66 = .ok (.iinc 3 1, 3) := by decide +kernel
theorem dX12_beside_69 : decode cX12_beside 69 = .ok (.goto (-65), 3) := by decide +kernel
theorem dX12_beside_72 : decode cX12_beside 72 = .ok (.iload_n 2, 1) := by decide +kernel
theorem dX12_beside_73 : decode cX12_beside 73 = .ok (.ireturn, 1) := by decide +kernel
theorem dX12_offerTold_0 : decode cX12_offerTold 0 = .ok (.aload_n 0, 1) := by decide +kernel
theorem dX12_offerTold_1 : decode cX12_offerTold 1 = .ok (.iload_n 1, 1) := by decide +kernel
theorem dX12_offerTold_2 : decode cX12_offerTold 2 = .ok (.invokevirtual 115, 3) := by decide +kernel
theorem dX12_offerTold_5 : decode cX12_offerTold 5 = .ok (.ifCond .eq 12, 3) := by decide +kernel
theorem dX12_offerTold_8 : decode cX12_offerTold 8 = .ok (.iload_n 2, 1) := by decide +kernel
theorem dX12_offerTold_9 : decode cX12_offerTold 9 = .ok (.iconst 0, 1) := by decide +kernel
theorem dX12_offerTold_10 : decode cX12_offerTold 10 = .ok (.iconst 4, 1) := by decide +kernel
theorem dX12_offerTold_11 : decode cX12_offerTold 11 = .ok (.invokestatic 85, 3) := by decide +kernel
theorem dX12_offerTold_14 : decode cX12_offerTold 14 = .ok (.ifCond .ne 6, 3) := by decide +kernel
theorem dX12_offerTold_17 : decode cX12_offerTold 17 = .ok (.bipush (-2), 2) := by decide +kernel
theorem dX12_offerTold_19 : decode cX12_offerTold 19 = .ok (.ireturn, 1) := by decide +kernel
theorem dX12_offerTold_20 : decode cX12_offerTold 20 = .ok (.iload_n 2, 1) := by decide +kernel
theorem dX12_offerTold_21 : decode cX12_offerTold 21 = .ok (.tableswitch 95 0 3 #[31, 38, 48, 70], 31) := by decide +kernel
theorem dX12_offerTold_52 : decode cX12_offerTold 52 = .ok (.aload_n 0, 1) := by decide +kernel
theorem dX12_offerTold_53 : decode cX12_offerTold 53 = .ok (.getfield 16, 3) := by decide +kernel
theorem dX12_offerTold_56 : decode cX12_offerTold 56 = .ok (.iload_n 1, 1) := by decide +kernel
theorem dX12_offerTold_57 : decode cX12_offerTold 57 = .ok (.iaload, 1) := by decide +kernel
theorem dX12_offerTold_58 : decode cX12_offerTold 58 = .ok (.ireturn, 1) := by decide +kernel
theorem dX12_offerTold_59 : decode cX12_offerTold 59 = .ok (.aload_n 0, 1) := by decide +kernel
theorem dX12_offerTold_60 : decode cX12_offerTold 60 = .ok (.iload_n 1, 1) := by decide +kernel
theorem dX12_offerTold_61 : decode cX12_offerTold 61 = .ok (.invokevirtual 168, 3) := by decide +kernel
theorem dX12_offerTold_64 : decode cX12_offerTold 64 = .ok (.aload_n 0, 1) := by decide +kernel
theorem dX12_offerTold_65 : decode cX12_offerTold 65 = .ok (.getfield 150, 3) := by decide +kernel
theorem dX12_offerTold_68 : decode cX12_offerTold 68 = .ok (.ireturn, 1) := by decide +kernel
theorem dX12_offerTold_69 : decode cX12_offerTold 69 = .ok (.aload_n 0, 1) := by decide +kernel
theorem dX12_offerTold_70 : decode cX12_offerTold 70 = .ok (.iload_n 1, 1) := by decide +kernel
theorem dX12_offerTold_71 : decode cX12_offerTold 71 = .ok (.invokevirtual 168, 3) := by decide +kernel
theorem dX12_offerTold_74 : decode cX12_offerTold 74 = .ok (.aload_n 0, 1) := by decide +kernel
theorem dX12_offerTold_75 : decode cX12_offerTold 75 = .ok (.getfield 150, 3) := by decide +kernel
theorem dX12_offerTold_78 : decode cX12_offerTold 78 = .ok (.ifCond .le 7, 3) := by decide +kernel
theorem dX12_offerTold_81 : decode cX12_offerTold 81 = .ok (.iconst 0, 1) := by decide +kernel
theorem dX12_offerTold_82 : decode cX12_offerTold 82 = .ok (.goto 8, 3) := by decide +kernel
theorem dX12_offerTold_85 : decode cX12_offerTold 85 = .ok (.aload_n 0, 1) := by decide +kernel
theorem dX12_offerTold_86 : decode cX12_offerTold 86 = .ok (.iload_n 1, 1) := by decide +kernel
theorem dX12_offerTold_87 : decode cX12_offerTold 87 = .ok (.invokevirtual 172, 3) := by decide +kernel
theorem dX12_offerTold_90 : decode cX12_offerTold 90 = .ok (.ireturn, 1) := by decide +kernel
theorem dX12_offerTold_91 : decode cX12_offerTold 91 = .ok (.aload_n 0, 1) := by decide +kernel
theorem dX12_offerTold_92 : decode cX12_offerTold 92 = .ok (.getfield 16, 3) := by decide +kernel
theorem dX12_offerTold_95 : decode cX12_offerTold 95 = .ok (.iload_n 1, 1) := by decide +kernel
theorem dX12_offerTold_96 : decode cX12_offerTold 96 = .ok (.iaload, 1) := by decide +kernel
theorem dX12_offerTold_97 : decode cX12_offerTold 97 = .ok (.ifCond .ne 12, 3) := by decide +kernel
theorem dX12_offerTold_100 : decode cX12_offerTold 100 = .ok (.aload_n 0, 1) := by decide +kernel
theorem dX12_offerTold_101 : decode cX12_offerTold 101 = .ok (.getfield 25, 3) := by decide +kernel
theorem dX12_offerTold_104 : decode cX12_offerTold 104 = .ok (.iload_n 1, 1) := by decide +kernel
theorem dX12_offerTold_105 : decode cX12_offerTold 105 = .ok (.iaload, 1) := by decide +kernel
theorem dX12_offerTold_106 : decode cX12_offerTold 106 = .ok (.goto 9, 3) := by decide +kernel
theorem dX12_offerTold_109 : decode cX12_offerTold 109 = .ok (.aload_n 0, 1) := by decide +kernel
theorem dX12_offerTold_110 : decode cX12_offerTold 110 = .ok (.getfield 19, 3) := by decide +kernel
theorem dX12_offerTold_113 : decode cX12_offerTold 113 = .ok (.iload_n 1, 1) := by decide +kernel
theorem dX12_offerTold_114 : decode cX12_offerTold 114 = .ok (.iaload, 1) := by decide +kernel
theorem dX12_offerTold_115 : decode cX12_offerTold 115 = .ok (.ireturn, 1) := by decide +kernel
theorem dX12_offerTold_116 : decode cX12_offerTold 116 = .ok (.aload_n 0, 1) := by decide +kernel
theorem dX12_offerTold_117 : decode cX12_offerTold 117 = .ok (.getfield 22, 3) := by decide +kernel
theorem dX12_offerTold_120 : decode cX12_offerTold 120 = .ok (.iload_n 1, 1) := by decide +kernel
theorem dX12_offerTold_121 : decode cX12_offerTold 121 = .ok (.iaload, 1) := by decide +kernel
theorem dX12_offerTold_122 : decode cX12_offerTold 122 = .ok (.ireturn, 1) := by decide +kernel
theorem dX12_choice_0 : decode cX12_choice 0 = .ok (.aload_n 0, 1) := by decide +kernel
theorem dX12_choice_1 : decode cX12_choice 1 = .ok (.iload_n 1, 1) := by decide +kernel
theorem dX12_choice_2 : decode cX12_choice 2 = .ok (.invokevirtual 115, 3) := by decide +kernel
theorem dX12_choice_5 : decode cX12_choice 5 = .ok (.ifCond .ne 6, 3) := by decide +kernel
theorem dX12_choice_8 : decode cX12_choice 8 = .ok (.bipush (-2), 2) := by decide +kernel
theorem dX12_choice_10 : decode cX12_choice 10 = .ok (.ireturn, 1) := by decide +kernel
theorem dX12_choice_11 : decode cX12_choice 11 = .ok (.aload_n 0, 1) := by decide +kernel
theorem dX12_choice_12 : decode cX12_choice 12 = .ok (.iload_n 1, 1) := by decide +kernel
theorem dX12_choice_13 : decode cX12_choice 13 = .ok (.invokevirtual 168, 3) := by decide +kernel
theorem dX12_choice_16 : decode cX12_choice 16 = .ok (.iload_n 2, 1) := by decide +kernel
theorem dX12_choice_17 : decode cX12_choice 17 = .ok (.iconst 0, 1) := by decide +kernel
theorem dX12_choice_18 : decode cX12_choice 18 = .ok (.aload_n 0, 1) := by decide +kernel
theorem dX12_choice_19 : decode cX12_choice 19 = .ok (.getfield 150, 3) := by decide +kernel
theorem dX12_choice_22 : decode cX12_choice 22 = .ok (.iconst 1, 1) := by decide +kernel
theorem dX12_choice_23 : decode cX12_choice 23 = .ok (.isub, 1) := by decide +kernel
theorem dX12_choice_24 : decode cX12_choice 24 = .ok (.invokestatic 85, 3) := by decide +kernel
theorem dX12_choice_27 : decode cX12_choice 27 = .ok (.ifCond .eq 12, 3) := by decide +kernel
theorem dX12_choice_30 : decode cX12_choice 30 = .ok (.aload_n 0, 1) := by decide +kernel
theorem dX12_choice_31 : decode cX12_choice 31 = .ok (.getfield 57, 3) := by decide +kernel
theorem dX12_choice_34 : decode cX12_choice 34 = .ok (.iload_n 2, 1) := by decide +kernel
theorem dX12_choice_35 : decode cX12_choice 35 = .ok (.iaload, 1) := by decide +kernel
theorem dX12_choice_36 : decode cX12_choice 36 = .ok (.goto 4, 3) := by decide +kernel
theorem dX12_choice_39 : decode cX12_choice 39 = .ok (.iconst (-1), 1) := by decide +kernel
theorem dX12_choice_40 : decode cX12_choice 40 = .ok (.ireturn, 1) := by decide +kernel
theorem dX12_cost_0 : decode cX12_cost 0 = .ok (.iload_n 1, 1) := by decide +kernel
theorem dX12_cost_1 : decode cX12_cost 1 = .ok (.iconst 0, 1) := by decide +kernel
theorem dX12_cost_2 : decode cX12_cost 2 = .ok (.aload_n 0, 1) := by decide +kernel
theorem dX12_cost_3 : decode cX12_cost 3 = .ok (.invokevirtual 135, 3) := by decide +kernel
theorem dX12_cost_6 : decode cX12_cost 6 = .ok (.invokestatic 85, 3) := by decide +kernel
theorem dX12_cost_9 : decode cX12_cost 9 = .ok (.ifCond .eq 21, 3) := by decide +kernel
theorem dX12_cost_12 : decode cX12_cost 12 = .ok (.iload_n 2, 1) := by decide +kernel
theorem dX12_cost_13 : decode cX12_cost 13 = .ok (.iload_n 3, 1) := by decide +kernel
theorem dX12_cost_14 : decode cX12_cost 14 = .ok (.invokestatic 175, 3) := by decide +kernel
theorem dX12_cost_17 : decode cX12_cost 17 = .ok (.ifCond .eq 13, 3) := by decide +kernel
theorem dX12_cost_20 : decode cX12_cost 20 = .ok (.iload 4, 2) := by decide +kernel
theorem dX12_cost_22 : decode cX12_cost 22 = .ok (.iconst 0, 1) := by decide +kernel
theorem dX12_cost_23 : decode cX12_cost 23 = .ok (.iconst 1, 1) := by decide +kernel
theorem dX12_cost_24 : decode cX12_cost 24 = .ok (.invokestatic 85, 3) := by decide +kernel
theorem dX12_cost_27 : decode cX12_cost 27 = .ok (.ifCond .ne 7, 3) := by decide +kernel
theorem dX12_cost_30 : decode cX12_cost 30 = .ok (.ldc2_w 178, 3) := by decide +kernel
theorem dX12_cost_33 : decode cX12_cost 33 = .ok (.lreturn, 1) := by decide +kernel
theorem dX12_cost_34 : decode cX12_cost 34 = .ok (.aload_n 0, 1) := by decide +kernel
theorem dX12_cost_35 : decode cX12_cost 35 = .ok (.iload_n 1, 1) := by decide +kernel
theorem dX12_cost_36 : decode cX12_cost 36 = .ok (.invokevirtual 159, 3) := by decide +kernel
theorem dX12_cost_39 : decode cX12_cost 39 = .ok (.i2l, 1) := by decide +kernel
theorem dX12_cost_40 : decode cX12_cost 40 = .ok (.iload_n 3, 1) := by decide +kernel
theorem dX12_cost_41 : decode cX12_cost 41 = .ok (.i2l, 1) := by decide +kernel
theorem dX12_cost_42 : decode cX12_cost 42 = .ok (.lmul, 1) := by decide +kernel
theorem dX12_cost_43 : decode cX12_cost 43 = .ok (.aload_n 0, 1) := by decide +kernel
theorem dX12_cost_44 : decode cX12_cost 44 = .ok (.iload_n 1, 1) := by decide +kernel
theorem dX12_cost_45 : decode cX12_cost 45 = .ok (.invokevirtual 162, 3) := by decide +kernel
theorem dX12_cost_48 : decode cX12_cost 48 = .ok (.i2l, 1) := by decide +kernel
theorem dX12_cost_49 : decode cX12_cost 49 = .ok (.iload_n 2, 1) := by decide +kernel
theorem dX12_cost_50 : decode cX12_cost 50 = .ok (.i2l, 1) := by decide +kernel
theorem dX12_cost_51 : decode cX12_cost 51 = .ok (.lmul, 1) := by decide +kernel
theorem dX12_cost_52 : decode cX12_cost 52 = .ok (.ladd, 1) := by decide +kernel
theorem dX12_cost_53 : decode cX12_cost 53 = .ok (.iload_n 3, 1) := by decide +kernel
theorem dX12_cost_54 : decode cX12_cost 54 = .ok (.i2l, 1) := by decide +kernel
theorem dX12_cost_55 : decode cX12_cost 55 = .ok (.iload 4, 2) := by decide +kernel
theorem dX12_cost_57 : decode cX12_cost 57 = .ok (.invokestatic 180, 3) := by decide +kernel
theorem dX12_cost_60 : decode cX12_cost 60 = .ok (.lreturn, 1) := by decide +kernel
theorem dX12_costAt_0 : decode cX12_costAt 0 = .ok (.aload_n 0, 1) := by decide +kernel
theorem dX12_costAt_1 : decode cX12_costAt 1 = .ok (.getfield 60, 3) := by decide +kernel
theorem dX12_costAt_4 : decode cX12_costAt 4 = .ok (.iload_n 1, 1) := by decide +kernel
theorem dX12_costAt_5 : decode cX12_costAt 5 = .ok (.iaload, 1) := by decide +kernel
theorem dX12_costAt_6 : decode cX12_costAt 6 = .ok (.i2l, 1) := by decide +kernel
theorem dX12_costAt_7 : decode cX12_costAt 7 = .ok (.lload 4, 2) := by decide +kernel
theorem dX12_costAt_9 : decode cX12_costAt 9 = .ok (.lmul, 1) := by decide +kernel
theorem dX12_costAt_10 : decode cX12_costAt 10 = .ok (.aload_n 0, 1) := by decide +kernel
theorem dX12_costAt_11 : decode cX12_costAt 11 = .ok (.getfield 63, 3) := by decide +kernel
theorem dX12_costAt_14 : decode cX12_costAt 14 = .ok (.iload_n 1, 1) := by decide +kernel
theorem dX12_costAt_15 : decode cX12_costAt 15 = .ok (.iaload, 1) := by decide +kernel
theorem dX12_costAt_16 : decode cX12_costAt 16 = .ok (.i2l, 1) := by decide +kernel
theorem dX12_costAt_17 : decode cX12_costAt 17 = .ok (.lload_n 2, 1) := by decide +kernel
theorem dX12_costAt_18 : decode cX12_costAt 18 = .ok (.lmul, 1) := by decide +kernel
theorem dX12_costAt_19 : decode cX12_costAt 19 = .ok (.ladd, 1) := by decide +kernel
theorem dX12_costAt_20 : decode cX12_costAt 20 = .ok (.lreturn, 1) := by decide +kernel
theorem dX12_leastAt_0 : decode cX12_leastAt 0 = .ok (.aload_n 0, 1) := by decide +kernel
theorem dX12_leastAt_1 : decode cX12_leastAt 1 = .ok (.iconst 0, 1) := by decide +kernel
theorem dX12_leastAt_2 : decode cX12_leastAt 2 = .ok (.lload_n 1, 1) := by decide +kernel
theorem dX12_leastAt_3 : decode cX12_leastAt 3 = .ok (.lload_n 3, 1) := by decide +kernel
theorem dX12_leastAt_4 : decode cX12_leastAt 4 = .ok (.invokevirtual 184, 3) := by decide +kernel
theorem dX12_leastAt_7 : decode cX12_leastAt 7 = .ok (.lstore 5, 2) := by decide +kernel
theorem dX12_leastAt_9 : decode cX12_leastAt 9 = .ok (.iconst 1, 1) := by decide +kernel
theorem dX12_leastAt_10 : decode cX12_leastAt 10 = .ok (.istore 7, 2) := by decide +kernel
theorem dX12_leastAt_12 : decode cX12_leastAt 12 = .ok (.iload 7, 2) := by decide +kernel
theorem dX12_leastAt_14 : decode cX12_leastAt 14 = .ok (.aload_n 0, 1) := by decide +kernel
theorem dX12_leastAt_15 : decode cX12_leastAt 15 = .ok (.getfield 150, 3) := by decide +kernel
theorem dX12_leastAt_18 : decode cX12_leastAt 18 = .ok (.if_icmp .ge 38, 3) := by decide +kernel
theorem dX12_leastAt_21 : decode cX12_leastAt 21 = .ok (.aload_n 0, 1) := by decide +kernel
theorem dX12_leastAt_22 : decode cX12_leastAt 22 = .ok (.iload 7, 2) := by decide +kernel
theorem dX12_leastAt_24 : decode cX12_leastAt 24 = .ok (.lload_n 1, 1) := by decide +kernel
theorem dX12_leastAt_25 : decode cX12_leastAt 25 = .ok (.lload_n 3, 1) := by decide +kernel
theorem dX12_leastAt_26 : decode cX12_leastAt 26 = .ok (.invokevirtual 184, 3) := by decide +kernel
theorem dX12_leastAt_29 : decode cX12_leastAt 29 = .ok (.lload 5, 2) := by decide +kernel
theorem dX12_leastAt_31 : decode cX12_leastAt 31 = .ok (.lcmp, 1) := by decide +kernel
theorem dX12_leastAt_32 : decode cX12_leastAt 32 = .ok (.ifCond .ge 14, 3) := by decide +kernel
theorem dX12_leastAt_35 : decode cX12_leastAt 35 = .ok (.aload_n 0, 1) := by decide +kernel
theorem dX12_leastAt_36 : decode cX12_leastAt 36 = .ok (.iload 7, 2) := by decide +kernel
theorem dX12_leastAt_38 : decode cX12_leastAt 38 = .ok (.lload_n 1, 1) := by decide +kernel
theorem dX12_leastAt_39 : decode cX12_leastAt 39 = .ok (.lload_n 3, 1) := by decide +kernel
theorem dX12_leastAt_40 : decode cX12_leastAt 40 = .ok (.invokevirtual 184, 3) := by decide +kernel
theorem dX12_leastAt_43 : decode cX12_leastAt 43 = .ok (.goto 5, 3) := by decide +kernel
theorem dX12_leastAt_46 : decode cX12_leastAt 46 = .ok (.lload 5, 2) := by decide +kernel
theorem dX12_leastAt_48 : decode cX12_leastAt 48 = .ok (.lstore 5, 2) := by decide +kernel
theorem dX12_leastAt_50 : decode cX12_leastAt 50 = .ok (.iinc 7 1, 3) := by decide +kernel
theorem dX12_leastAt_53 : decode cX12_leastAt 53 = .ok (.goto (-41), 3) := by decide +kernel
theorem dX12_leastAt_56 : decode cX12_leastAt 56 = .ok (.lload 5, 2) := by decide +kernel
theorem dX12_leastAt_58 : decode cX12_leastAt 58 = .ok (.lreturn, 1) := by decide +kernel
theorem dX12_bestAt_0 : decode cX12_bestAt 0 = .ok (.aload_n 0, 1) := by decide +kernel
theorem dX12_bestAt_1 : decode cX12_bestAt 1 = .ok (.lload_n 1, 1) := by decide +kernel
theorem dX12_bestAt_2 : decode cX12_bestAt 2 = .ok (.lload_n 3, 1) := by decide +kernel
theorem dX12_bestAt_3 : decode cX12_bestAt 3 = .ok (.invokevirtual 188, 3) := by decide +kernel
theorem dX12_bestAt_6 : decode cX12_bestAt 6 = .ok (.lstore 6, 2) := by decide +kernel
theorem dX12_bestAt_8 : decode cX12_bestAt 8 = .ok (.iconst (-1), 1) := by decide +kernel
theorem dX12_bestAt_9 : decode cX12_bestAt 9 = .ok (.istore 8, 2) := by decide +kernel
theorem dX12_bestAt_11 : decode cX12_bestAt 11 = .ok (.iconst 0, 1) := by decide +kernel
theorem dX12_bestAt_12 : decode cX12_bestAt 12 = .ok (.istore 9, 2) := by decide +kernel
theorem dX12_bestAt_14 : decode cX12_bestAt 14 = .ok (.iload 9, 2) := by decide +kernel
theorem dX12_bestAt_16 : decode cX12_bestAt 16 = .ok (.aload_n 0, 1) := by decide +kernel
theorem dX12_bestAt_17 : decode cX12_bestAt 17 = .ok (.getfield 150, 3) := by decide +kernel
theorem dX12_bestAt_20 : decode cX12_bestAt 20 = .ok (.if_icmp .ge 96, 3) := by decide +kernel
theorem dX12_bestAt_23 : decode cX12_bestAt 23 = .ok (.aload_n 0, 1) := by decide +kernel
theorem dX12_bestAt_24 : decode cX12_bestAt 24 = .ok (.iload 9, 2) := by decide +kernel
theorem dX12_bestAt_26 : decode cX12_bestAt 26 = .ok (.lload_n 1, 1) := by decide +kernel
theorem dX12_bestAt_27 : decode cX12_bestAt 27 = .ok (.lload_n 3, 1) := by decide +kernel
theorem dX12_bestAt_28 : decode cX12_bestAt 28 = .ok (.invokevirtual 184, 3) := by decide +kernel
theorem dX12_bestAt_31 : decode cX12_bestAt 31 = .ok (.lload 6, 2) := by decide +kernel
theorem dX12_bestAt_33 : decode cX12_bestAt 33 = .ok (.lcmp, 1) := by decide +kernel
theorem dX12_bestAt_34 : decode cX12_bestAt 34 = .ok (.ifCond .ne 76, 3) := by decide +kernel
theorem dX12_bestAt_37 : decode cX12_bestAt 37 = .ok (.iload 8, 2) := by decide +kernel
theorem dX12_bestAt_39 : decode cX12_bestAt 39 = .ok (.iconst (-1), 1) := by decide +kernel
theorem dX12_bestAt_40 : decode cX12_bestAt 40 = .ok (.if_icmp .eq 49, 3) := by decide +kernel
theorem dX12_bestAt_43 : decode cX12_bestAt 43 = .ok (.iload 5, 2) := by decide +kernel
theorem dX12_bestAt_45 : decode cX12_bestAt 45 = .ok (.iconst 1, 1) := by decide +kernel
theorem dX12_bestAt_46 : decode cX12_bestAt 46 = .ok (.if_icmp .ne 20, 3) := by decide +kernel
theorem dX12_bestAt_49 : decode cX12_bestAt 49 = .ok (.aload_n 0, 1) := by decide +kernel
theorem dX12_bestAt_50 : decode cX12_bestAt 50 = .ok (.getfield 63, 3) := by decide +kernel
theorem dX12_bestAt_53 : decode cX12_bestAt 53 = .ok (.iload 9, 2) := by decide +kernel
theorem dX12_bestAt_55 : decode cX12_bestAt 55 = .ok (.iaload, 1) := by decide +kernel
theorem dX12_bestAt_56 : decode cX12_bestAt 56 = .ok (.aload_n 0, 1) := by decide +kernel
theorem dX12_bestAt_57 : decode cX12_bestAt 57 = .ok (.getfield 63, 3) := by decide +kernel
theorem dX12_bestAt_60 : decode cX12_bestAt 60 = .ok (.iload 8, 2) := by decide +kernel
theorem dX12_bestAt_62 : decode cX12_bestAt 62 = .ok (.iaload, 1) := by decide +kernel
theorem dX12_bestAt_63 : decode cX12_bestAt 63 = .ok (.if_icmp .lt 26, 3) := by decide +kernel
theorem dX12_bestAt_66 : decode cX12_bestAt 66 = .ok (.iload 5, 2) := by decide +kernel
theorem dX12_bestAt_68 : decode cX12_bestAt 68 = .ok (.iconst 2, 1) := by decide +kernel
theorem dX12_bestAt_69 : decode cX12_bestAt 69 = .ok (.if_icmp .ne 24, 3) := by decide +kernel
theorem dX12_bestAt_72 : decode cX12_bestAt 72 = .ok (.aload_n 0, 1) := by decide +kernel
theorem dX12_bestAt_73 : decode cX12_bestAt 73 = .ok (.getfield 63, 3) := by decide +kernel
theorem dX12_bestAt_76 : decode cX12_bestAt 76 = .ok (.iload 9, 2) := by decide +kernel
theorem dX12_bestAt_78 : decode cX12_bestAt 78 = .ok (.iaload, 1) := by decide +kernel
theorem dX12_bestAt_79 : decode cX12_bestAt 79 = .ok (.aload_n 0, 1) := by decide +kernel
theorem dX12_bestAt_80 : decode cX12_bestAt 80 = .ok (.getfield 63, 3) := by decide +kernel
theorem dX12_bestAt_83 : decode cX12_bestAt 83 = .ok (.iload 8, 2) := by decide +kernel
theorem dX12_bestAt_85 : decode cX12_bestAt 85 = .ok (.iaload, 1) := by decide +kernel
theorem dX12_bestAt_86 : decode cX12_bestAt 86 = .ok (.if_icmp .le 7, 3) := by decide +kernel
theorem dX12_bestAt_89 : decode cX12_bestAt 89 = .ok (.iconst 1, 1) := by decide +kernel
theorem dX12_bestAt_90 : decode cX12_bestAt 90 = .ok (.goto 4, 3) := by decide +kernel
theorem dX12_bestAt_93 : decode cX12_bestAt 93 = .ok (.iconst 0, 1) := by decide +kernel
theorem dX12_bestAt_94 : decode cX12_bestAt 94 = .ok (.istore 10, 2) := by decide +kernel
theorem dX12_bestAt_96 : decode cX12_bestAt 96 = .ok (.iload 10, 2) := by decide +kernel
theorem dX12_bestAt_98 : decode cX12_bestAt 98 = .ok (.ifCond .eq 8, 3) := by decide +kernel
theorem dX12_bestAt_101 : decode cX12_bestAt 101 = .ok (.iload 9, 2) := by decide +kernel
theorem dX12_bestAt_103 : decode cX12_bestAt 103 = .ok (.goto 5, 3) := by decide +kernel
theorem dX12_bestAt_106 : decode cX12_bestAt 106 = .ok (.iload 8, 2) := by decide +kernel
theorem dX12_bestAt_108 : decode cX12_bestAt 108 = .ok (.istore 8, 2) := by decide +kernel
theorem dX12_bestAt_110 : decode cX12_bestAt 110 = .ok (.iinc 9 1, 3) := by decide +kernel
theorem dX12_bestAt_113 : decode cX12_bestAt 113 = .ok (.goto (-99), 3) := by decide +kernel
theorem dX12_bestAt_116 : decode cX12_bestAt 116 = .ok (.iload 8, 2) := by decide +kernel
theorem dX12_bestAt_118 : decode cX12_bestAt 118 = .ok (.ireturn, 1) := by decide +kernel
theorem dX12_best_0 : decode cX12_best 0 = .ok (.aload_n 0, 1) := by decide +kernel
theorem dX12_best_1 : decode cX12_best 1 = .ok (.iload_n 1, 1) := by decide +kernel
theorem dX12_best_2 : decode cX12_best 2 = .ok (.invokevirtual 115, 3) := by decide +kernel
theorem dX12_best_5 : decode cX12_best 5 = .ok (.ifCond .eq 21, 3) := by decide +kernel
theorem dX12_best_8 : decode cX12_best 8 = .ok (.iload_n 2, 1) := by decide +kernel
theorem dX12_best_9 : decode cX12_best 9 = .ok (.iload_n 3, 1) := by decide +kernel
theorem dX12_best_10 : decode cX12_best 10 = .ok (.invokestatic 175, 3) := by decide +kernel
theorem dX12_best_13 : decode cX12_best 13 = .ok (.ifCond .eq 13, 3) := by decide +kernel
theorem dX12_best_16 : decode cX12_best 16 = .ok (.iload 4, 2) := by decide +kernel
theorem dX12_best_18 : decode cX12_best 18 = .ok (.iconst 0, 1) := by decide +kernel
theorem dX12_best_19 : decode cX12_best 19 = .ok (.iconst 2, 1) := by decide +kernel
theorem dX12_best_20 : decode cX12_best 20 = .ok (.invokestatic 85, 3) := by decide +kernel
theorem dX12_best_23 : decode cX12_best 23 = .ok (.ifCond .ne 6, 3) := by decide +kernel
theorem dX12_best_26 : decode cX12_best 26 = .ok (.bipush (-2), 2) := by decide +kernel
theorem dX12_best_28 : decode cX12_best 28 = .ok (.ireturn, 1) := by decide +kernel
theorem dX12_best_29 : decode cX12_best 29 = .ok (.aload_n 0, 1) := by decide +kernel
theorem dX12_best_30 : decode cX12_best 30 = .ok (.iload_n 1, 1) := by decide +kernel
theorem dX12_best_31 : decode cX12_best 31 = .ok (.invokevirtual 168, 3) := by decide +kernel
theorem dX12_best_34 : decode cX12_best 34 = .ok (.aload_n 0, 1) := by decide +kernel
theorem dX12_best_35 : decode cX12_best 35 = .ok (.getfield 150, 3) := by decide +kernel
theorem dX12_best_38 : decode cX12_best 38 = .ok (.ifCond .ne 7, 3) := by decide +kernel
theorem dX12_best_41 : decode cX12_best 41 = .ok (.iconst (-1), 1) := by decide +kernel
theorem dX12_best_42 : decode cX12_best 42 = .ok (.goto 18, 3) := by decide +kernel
theorem dX12_best_45 : decode cX12_best 45 = .ok (.aload_n 0, 1) := by decide +kernel
theorem dX12_best_46 : decode cX12_best 46 = .ok (.getfield 57, 3) := by decide +kernel
theorem dX12_best_49 : decode cX12_best 49 = .ok (.aload_n 0, 1) := by decide +kernel
theorem dX12_best_50 : decode cX12_best 50 = .ok (.iload_n 2, 1) := by decide +kernel
theorem dX12_best_51 : decode cX12_best 51 = .ok (.i2l, 1) := by decide +kernel
theorem dX12_best_52 : decode cX12_best 52 = .ok (.iload_n 3, 1) := by decide +kernel
theorem dX12_best_53 : decode cX12_best 53 = .ok (.i2l, 1) := by decide +kernel
theorem dX12_best_54 : decode cX12_best 54 = .ok (.iload 4, 2) := by decide +kernel
theorem dX12_best_56 : decode cX12_best 56 = .ok (.invokevirtual 191, 3) := by decide +kernel
theorem dX12_best_59 : decode cX12_best 59 = .ok (.iaload, 1) := by decide +kernel
theorem dX12_best_60 : decode cX12_best 60 = .ok (.ireturn, 1) := by decide +kernel
theorem dX12_least_0 : decode cX12_least 0 = .ok (.aload_n 0, 1) := by decide +kernel
theorem dX12_least_1 : decode cX12_least 1 = .ok (.iload_n 1, 1) := by decide +kernel
theorem dX12_least_2 : decode cX12_least 2 = .ok (.invokevirtual 115, 3) := by decide +kernel
theorem dX12_least_5 : decode cX12_least 5 = .ok (.ifCond .eq 21, 3) := by decide +kernel
theorem dX12_least_8 : decode cX12_least 8 = .ok (.iload_n 2, 1) := by decide +kernel
theorem dX12_least_9 : decode cX12_least 9 = .ok (.iload_n 3, 1) := by decide +kernel
theorem dX12_least_10 : decode cX12_least 10 = .ok (.invokestatic 175, 3) := by decide +kernel
theorem dX12_least_13 : decode cX12_least 13 = .ok (.ifCond .eq 13, 3) := by decide +kernel
theorem dX12_least_16 : decode cX12_least 16 = .ok (.iload 4, 2) := by decide +kernel
theorem dX12_least_18 : decode cX12_least 18 = .ok (.iconst 0, 1) := by decide +kernel
theorem dX12_least_19 : decode cX12_least 19 = .ok (.iconst 1, 1) := by decide +kernel
theorem dX12_least_20 : decode cX12_least 20 = .ok (.invokestatic 85, 3) := by decide +kernel
theorem dX12_least_23 : decode cX12_least 23 = .ok (.ifCond .ne 7, 3) := by decide +kernel
theorem dX12_least_26 : decode cX12_least 26 = .ok (.ldc2_w 178, 3) := by decide +kernel
theorem dX12_least_29 : decode cX12_least 29 = .ok (.lreturn, 1) := by decide +kernel
theorem dX12_least_30 : decode cX12_least 30 = .ok (.aload_n 0, 1) := by decide +kernel
theorem dX12_least_31 : decode cX12_least 31 = .ok (.iload_n 1, 1) := by decide +kernel
theorem dX12_least_32 : decode cX12_least 32 = .ok (.invokevirtual 168, 3) := by decide +kernel
theorem dX12_least_35 : decode cX12_least 35 = .ok (.aload_n 0, 1) := by decide +kernel
theorem dX12_least_36 : decode cX12_least 36 = .ok (.getfield 150, 3) := by decide +kernel
theorem dX12_least_39 : decode cX12_least 39 = .ok (.ifCond .ne 9, 3) := by decide +kernel
theorem dX12_least_42 : decode cX12_least 42 = .ok (.ldc2_w 178, 3) := by decide +kernel
theorem dX12_least_45 : decode cX12_least 45 = .ok (.goto 18, 3) := by decide +kernel
theorem dX12_least_48 : decode cX12_least 48 = .ok (.aload_n 0, 1) := by decide +kernel
theorem dX12_least_49 : decode cX12_least 49 = .ok (.iload_n 2, 1) := by decide +kernel
theorem dX12_least_50 : decode cX12_least 50 = .ok (.i2l, 1) := by decide +kernel
theorem dX12_least_51 : decode cX12_least 51 = .ok (.iload_n 3, 1) := by decide +kernel
theorem dX12_least_52 : decode cX12_least 52 = .ok (.i2l, 1) := by decide +kernel
theorem dX12_least_53 : decode cX12_least 53 = .ok (.invokevirtual 188, 3) := by decide +kernel
theorem dX12_least_56 : decode cX12_least 56 = .ok (.iload_n 3, 1) := by decide +kernel
theorem dX12_least_57 : decode cX12_least 57 = .ok (.i2l, 1) := by decide +kernel
theorem dX12_least_58 : decode cX12_least 58 = .ok (.iload 4, 2) := by decide +kernel
theorem dX12_least_60 : decode cX12_least 60 = .ok (.invokestatic 180, 3) := by decide +kernel
theorem dX12_least_63 : decode cX12_least 63 = .ok (.lreturn, 1) := by decide +kernel
theorem dX12_window_0 : decode cX12_window 0 = .ok (.iload_n 1, 1) := by decide +kernel
theorem dX12_window_1 : decode cX12_window 1 = .ok (.iload_n 2, 1) := by decide +kernel
theorem dX12_window_2 : decode cX12_window 2 = .ok (.invokestatic 175, 3) := by decide +kernel
theorem dX12_window_5 : decode cX12_window 5 = .ok (.ifCond .eq 27, 3) := by decide +kernel
theorem dX12_window_8 : decode cX12_window 8 = .ok (.iload_n 3, 1) := by decide +kernel
theorem dX12_window_9 : decode cX12_window 9 = .ok (.iload 4, 2) := by decide +kernel
theorem dX12_window_11 : decode cX12_window 11 = .ok (.invokestatic 175, 3) := by decide +kernel
theorem dX12_window_14 : decode cX12_window 14 = .ok (.ifCond .eq 18, 3) := by decide +kernel
theorem dX12_window_17 : decode cX12_window 17 = .ok (.iload_n 3, 1) := by decide +kernel
theorem dX12_window_18 : decode cX12_window 18 = .ok (.i2l, 1) := by decide +kernel
theorem dX12_window_19 : decode cX12_window 19 = .ok (.iload_n 2, 1) := by decide +kernel
theorem dX12_window_20 : decode cX12_window 20 = .ok (.i2l, 1) := by decide +kernel
theorem dX12_window_21 : decode cX12_window 21 = .ok (.lmul, 1) := by decide +kernel
theorem dX12_window_22 : decode cX12_window 22 = .ok (.iload_n 1, 1) := by decide +kernel
theorem dX12_window_23 : decode cX12_window 23 = .ok (.i2l, 1) := by decide +kernel
theorem dX12_window_24 : decode cX12_window 24 = .ok (.iload 4, 2) := by decide +kernel
theorem dX12_window_26 : decode cX12_window 26 = .ok (.i2l, 1) := by decide +kernel
theorem dX12_window_27 : decode cX12_window 27 = .ok (.lmul, 1) := by decide +kernel
theorem dX12_window_28 : decode cX12_window 28 = .ok (.lcmp, 1) := by decide +kernel
theorem dX12_window_29 : decode cX12_window 29 = .ok (.ifCond .ge 6, 3) := by decide +kernel
theorem dX12_window_32 : decode cX12_window 32 = .ok (.bipush (-2), 2) := by decide +kernel
theorem dX12_window_34 : decode cX12_window 34 = .ok (.ireturn, 1) := by decide +kernel
theorem dX12_window_35 : decode cX12_window 35 = .ok (.aload_n 0, 1) := by decide +kernel
theorem dX12_window_36 : decode cX12_window 36 = .ok (.iload_n 1, 1) := by decide +kernel
theorem dX12_window_37 : decode cX12_window 37 = .ok (.putfield 195, 3) := by decide +kernel
theorem dX12_window_40 : decode cX12_window 40 = .ok (.aload_n 0, 1) := by decide +kernel
theorem dX12_window_41 : decode cX12_window 41 = .ok (.iload_n 2, 1) := by decide +kernel
theorem dX12_window_42 : decode cX12_window 42 = .ok (.putfield 31, 3) := by decide +kernel
theorem dX12_window_45 : decode cX12_window 45 = .ok (.aload_n 0, 1) := by decide +kernel
theorem dX12_window_46 : decode cX12_window 46 = .ok (.iload_n 3, 1) := by decide +kernel
theorem dX12_window_47 : decode cX12_window 47 = .ok (.putfield 35, 3) := by decide +kernel
theorem dX12_window_50 : decode cX12_window 50 = .ok (.aload_n 0, 1) := by decide +kernel
theorem dX12_window_51 : decode cX12_window 51 = .ok (.iload 4, 2) := by decide +kernel
theorem dX12_window_53 : decode cX12_window 53 = .ok (.putfield 38, 3) := by decide +kernel
theorem dX12_window_56 : decode cX12_window 56 = .ok (.iconst 1, 1) := by decide +kernel
theorem dX12_window_57 : decode cX12_window 57 = .ok (.ireturn, 1) := by decide +kernel
theorem dX12_point_0 : decode cX12_point 0 = .ok (.aload_n 0, 1) := by decide +kernel
theorem dX12_point_1 : decode cX12_point 1 = .ok (.getfield 66, 3) := by decide +kernel
theorem dX12_point_4 : decode cX12_point 4 = .ok (.aload_n 0, 1) := by decide +kernel
theorem dX12_point_5 : decode cX12_point 5 = .ok (.getfield 198, 3) := by decide +kernel
theorem dX12_point_8 : decode cX12_point 8 = .ok (.lload_n 1, 1) := by decide +kernel
theorem dX12_point_9 : decode cX12_point 9 = .ok (.lload_n 3, 1) := by decide +kernel
theorem dX12_point_10 : decode cX12_point 10 = .ok (.iconst 0, 1) := by decide +kernel
theorem dX12_point_11 : decode cX12_point 11 = .ok (.invokestatic 180, 3) := by decide +kernel
theorem dX12_point_14 : decode cX12_point 14 = .ok (.lastore, 1) := by decide +kernel
theorem dX12_point_15 : decode cX12_point 15 = .ok (.aload_n 0, 1) := by decide +kernel
theorem dX12_point_16 : decode cX12_point 16 = .ok (.getfield 69, 3) := by decide +kernel
theorem dX12_point_19 : decode cX12_point 19 = .ok (.aload_n 0, 1) := by decide +kernel
theorem dX12_point_20 : decode cX12_point 20 = .ok (.getfield 198, 3) := by decide +kernel
theorem dX12_point_23 : decode cX12_point 23 = .ok (.lload_n 1, 1) := by decide +kernel
theorem dX12_point_24 : decode cX12_point 24 = .ok (.lload_n 3, 1) := by decide +kernel
theorem dX12_point_25 : decode cX12_point 25 = .ok (.iconst 1, 1) := by decide +kernel
theorem dX12_point_26 : decode cX12_point 26 = .ok (.invokestatic 180, 3) := by decide +kernel
theorem dX12_point_29 : decode cX12_point 29 = .ok (.lastore, 1) := by decide +kernel
theorem dX12_point_30 : decode cX12_point 30 = .ok (.aload_n 0, 1) := by decide +kernel
theorem dX12_point_31 : decode cX12_point 31 = .ok (.getfield 72, 3) := by decide +kernel
theorem dX12_point_34 : decode cX12_point 34 = .ok (.aload_n 0, 1) := by decide +kernel
theorem dX12_point_35 : decode cX12_point 35 = .ok (.getfield 198, 3) := by decide +kernel
theorem dX12_point_38 : decode cX12_point 38 = .ok (.aload_n 0, 1) := by decide +kernel
theorem dX12_point_39 : decode cX12_point 39 = .ok (.aload_n 0, 1) := by decide +kernel
theorem dX12_point_40 : decode cX12_point 40 = .ok (.getfield 66, 3) := by decide +kernel
theorem dX12_point_43 : decode cX12_point 43 = .ok (.aload_n 0, 1) := by decide +kernel
theorem dX12_point_44 : decode cX12_point 44 = .ok (.getfield 198, 3) := by decide +kernel
theorem dX12_point_47 : decode cX12_point 47 = .ok (.laload, 1) := by decide +kernel
theorem dX12_point_48 : decode cX12_point 48 = .ok (.aload_n 0, 1) := by decide +kernel
theorem dX12_point_49 : decode cX12_point 49 = .ok (.getfield 69, 3) := by decide +kernel
theorem dX12_point_52 : decode cX12_point 52 = .ok (.aload_n 0, 1) := by decide +kernel
theorem dX12_point_53 : decode cX12_point 53 = .ok (.getfield 198, 3) := by decide +kernel
theorem dX12_point_56 : decode cX12_point 56 = .ok (.laload, 1) := by decide +kernel
theorem dX12_point_57 : decode cX12_point 57 = .ok (.invokevirtual 188, 3) := by decide +kernel
theorem dX12_point_60 : decode cX12_point 60 = .ok (.lastore, 1) := by decide +kernel
theorem dX12_point_61 : decode cX12_point 61 = .ok (.aload_n 0, 1) := by decide +kernel
theorem dX12_point_62 : decode cX12_point 62 = .ok (.dup, 1) := by decide +kernel
theorem dX12_point_63 : decode cX12_point 63 = .ok (.getfield 198, 3) := by decide +kernel
theorem dX12_point_66 : decode cX12_point 66 = .ok (.iconst 1, 1) := by decide +kernel
theorem dX12_point_67 : decode cX12_point 67 = .ok (.iadd, 1) := by decide +kernel
theorem dX12_point_68 : decode cX12_point 68 = .ok (.putfield 198, 3) := by decide +kernel
theorem dX12_point_71 : decode cX12_point 71 = .ok (.return_, 1) := by decide +kernel
theorem dX12_walks_0 : decode cX12_walks 0 = .ok (.aload_n 0, 1) := by decide +kernel
theorem dX12_walks_1 : decode cX12_walks 1 = .ok (.iconst 0, 1) := by decide +kernel
theorem dX12_walks_2 : decode cX12_walks 2 = .ok (.putfield 198, 3) := by decide +kernel
theorem dX12_walks_5 : decode cX12_walks 5 = .ok (.aload_n 0, 1) := by decide +kernel
theorem dX12_walks_6 : decode cX12_walks 6 = .ok (.aload_n 0, 1) := by decide +kernel
theorem dX12_walks_7 : decode cX12_walks 7 = .ok (.getfield 195, 3) := by decide +kernel
theorem dX12_walks_10 : decode cX12_walks 10 = .ok (.i2l, 1) := by decide +kernel
theorem dX12_walks_11 : decode cX12_walks 11 = .ok (.aload_n 0, 1) := by decide +kernel
theorem dX12_walks_12 : decode cX12_walks 12 = .ok (.getfield 31, 3) := by decide +kernel
theorem dX12_walks_15 : decode cX12_walks 15 = .ok (.i2l, 1) := by decide +kernel
theorem dX12_walks_16 : decode cX12_walks 16 = .ok (.invokevirtual 201, 3) := by decide +kernel
theorem dX12_walks_19 : decode cX12_walks 19 = .ok (.iconst 1, 1) := by decide +kernel
theorem dX12_walks_20 : decode cX12_walks 20 = .ok (.istore_n 1, 1) := by decide +kernel
theorem dX12_walks_21 : decode cX12_walks 21 = .ok (.iload_n 1, 1) := by decide +kernel
theorem dX12_walks_22 : decode cX12_walks 22 = .ok (.ifCond .eq 141, 3) := by decide +kernel
theorem dX12_walks_25 : decode cX12_walks 25 = .ok (.aload_n 0, 1) := by decide +kernel
theorem dX12_walks_26 : decode cX12_walks 26 = .ok (.aload_n 0, 1) := by decide +kernel
theorem dX12_walks_27 : decode cX12_walks 27 = .ok (.getfield 66, 3) := by decide +kernel
theorem dX12_walks_30 : decode cX12_walks 30 = .ok (.aload_n 0, 1) := by decide +kernel
theorem dX12_walks_31 : decode cX12_walks 31 = .ok (.getfield 198, 3) := by decide +kernel
theorem dX12_walks_34 : decode cX12_walks 34 = .ok (.iconst 1, 1) := by decide +kernel
theorem dX12_walks_35 : decode cX12_walks 35 = .ok (.isub, 1) := by decide +kernel
theorem dX12_walks_36 : decode cX12_walks 36 = .ok (.laload, 1) := by decide +kernel
theorem dX12_walks_37 : decode cX12_walks 37 = .ok (.aload_n 0, 1) := by decide +kernel
theorem dX12_walks_38 : decode cX12_walks 38 = .ok (.getfield 69, 3) := by decide +kernel
theorem dX12_walks_41 : decode cX12_walks 41 = .ok (.aload_n 0, 1) := by decide +kernel
theorem dX12_walks_42 : decode cX12_walks 42 = .ok (.getfield 198, 3) := by decide +kernel
theorem dX12_walks_45 : decode cX12_walks 45 = .ok (.iconst 1, 1) := by decide +kernel
theorem dX12_walks_46 : decode cX12_walks 46 = .ok (.isub, 1) := by decide +kernel
theorem dX12_walks_47 : decode cX12_walks 47 = .ok (.laload, 1) := by decide +kernel
theorem dX12_walks_48 : decode cX12_walks 48 = .ok (.iconst 1, 1) := by decide +kernel
theorem dX12_walks_49 : decode cX12_walks 49 = .ok (.invokevirtual 191, 3) := by decide +kernel
theorem dX12_walks_52 : decode cX12_walks 52 = .ok (.istore_n 2, 1) := by decide +kernel
theorem dX12_walks_53 : decode cX12_walks 53 = .ok (.aload_n 0, 1) := by decide +kernel
theorem dX12_walks_54 : decode cX12_walks 54 = .ok (.getfield 35, 3) := by decide +kernel
theorem dX12_walks_57 : decode cX12_walks 57 = .ok (.i2l, 1) := by decide +kernel
theorem dX12_walks_58 : decode cX12_walks 58 = .ok (.lstore_n 3, 1) := by decide +kernel
theorem dX12_walks_59 : decode cX12_walks 59 = .ok (.aload_n 0, 1) := by decide +kernel
theorem dX12_walks_60 : decode cX12_walks 60 = .ok (.getfield 38, 3) := by decide +kernel
theorem dX12_walks_63 : decode cX12_walks 63 = .ok (.i2l, 1) := by decide +kernel
theorem dX12_walks_64 : decode cX12_walks 64 = .ok (.lstore 5, 2) := by decide +kernel
theorem dX12_walks_66 : decode cX12_walks 66 = .ok (.iconst 0, 1) := by decide +kernel
theorem dX12_walks_67 : decode cX12_walks 67 = .ok (.istore_n 1, 1) := by decide +kernel
theorem dX12_walks_68 : decode cX12_walks 68 = .ok (.iconst 0, 1) := by decide +kernel
theorem dX12_walks_69 : decode cX12_walks 69 = .ok (.istore 7, 2) := by decide +kernel
theorem dX12_walks_71 : decode cX12_walks 71 = .ok (.iload 7, 2) := by decide +kernel
theorem dX12_walks_73 : decode cX12_walks 73 = .ok (.aload_n 0, 1) := by decide +kernel
theorem dX12_walks_74 : decode cX12_walks 74 = .ok (.getfield 150, 3) := by decide +kernel
theorem dX12_walks_77 : decode cX12_walks 77 = .ok (.if_icmp .ge 72, 3) := by decide +kernel
theorem dX12_walks_80 : decode cX12_walks 80 = .ok (.aload_n 0, 1) := by decide +kernel
theorem dX12_walks_81 : decode cX12_walks 81 = .ok (.getfield 63, 3) := by decide +kernel
theorem dX12_walks_84 : decode cX12_walks 84 = .ok (.iload_n 2, 1) := by decide +kernel
theorem dX12_walks_85 : decode cX12_walks 85 = .ok (.iaload, 1) := by decide +kernel
theorem dX12_walks_86 : decode cX12_walks 86 = .ok (.aload_n 0, 1) := by decide +kernel
theorem dX12_walks_87 : decode cX12_walks 87 = .ok (.getfield 63, 3) := by decide +kernel
theorem dX12_walks_90 : decode cX12_walks 90 = .ok (.iload 7, 2) := by decide +kernel
theorem dX12_walks_92 : decode cX12_walks 92 = .ok (.iaload, 1) := by decide +kernel
theorem dX12_walks_93 : decode cX12_walks 93 = .ok (.isub, 1) := by decide +kernel
theorem dX12_walks_94 : decode cX12_walks 94 = .ok (.i2l, 1) := by decide +kernel
theorem dX12_walks_95 : decode cX12_walks 95 = .ok (.lstore 8, 2) := by decide +kernel
theorem dX12_walks_97 : decode cX12_walks 97 = .ok (.aload_n 0, 1) := by decide +kernel
theorem dX12_walks_98 : decode cX12_walks 98 = .ok (.getfield 60, 3) := by decide +kernel
theorem dX12_walks_101 : decode cX12_walks 101 = .ok (.iload 7, 2) := by decide +kernel
theorem dX12_walks_103 : decode cX12_walks 103 = .ok (.iaload, 1) := by decide +kernel
theorem dX12_walks_104 : decode cX12_walks 104 = .ok (.aload_n 0, 1) := by decide +kernel
theorem dX12_walks_105 : decode cX12_walks 105 = .ok (.getfield 60, 3) := by decide +kernel
theorem dX12_walks_108 : decode cX12_walks 108 = .ok (.iload_n 2, 1) := by decide +kernel
theorem dX12_walks_109 : decode cX12_walks 109 = .ok (.iaload, 1) := by decide +kernel
theorem dX12_walks_110 : decode cX12_walks 110 = .ok (.isub, 1) := by decide +kernel
theorem dX12_walks_111 : decode cX12_walks 111 = .ok (.i2l, 1) := by decide +kernel
theorem dX12_walks_112 : decode cX12_walks 112 = .ok (.lstore 10, 2) := by decide +kernel
theorem dX12_walks_114 : decode cX12_walks 114 = .ok (.lload 8, 2) := by decide +kernel
theorem dX12_walks_116 : decode cX12_walks 116 = .ok (.lconst 0, 1) := by decide +kernel
theorem dX12_walks_117 : decode cX12_walks 117 = .ok (.lcmp, 1) := by decide +kernel
theorem dX12_walks_118 : decode cX12_walks 118 = .ok (.ifCond .le 25, 3) := by decide +kernel
theorem dX12_walks_121 : decode cX12_walks 121 = .ok (.lload 10, 2) := by decide +kernel
theorem dX12_walks_123 : decode cX12_walks 123 = .ok (.lload 5, 2) := by decide +kernel
theorem dX12_walks_125 : decode cX12_walks 125 = .ok (.lmul, 1) := by decide +kernel
theorem dX12_walks_126 : decode cX12_walks 126 = .ok (.lload_n 3, 1) := by decide +kernel
theorem dX12_walks_127 : decode cX12_walks 127 = .ok (.lload 8, 2) := by decide +kernel
theorem dX12_walks_129 : decode cX12_walks 129 = .ok (.lmul, 1) := by decide +kernel
theorem dX12_walks_130 : decode cX12_walks 130 = .ok (.lcmp, 1) := by decide +kernel
theorem dX12_walks_131 : decode cX12_walks 131 = .ok (.ifCond .ge 12, 3) := by decide +kernel
theorem dX12_walks_134 : decode cX12_walks 134 = .ok (.lload 10, 2) := by decide +kernel
theorem dX12_walks_136 : decode cX12_walks 136 = .ok (.lstore_n 3, 1) := by decide +kernel
theorem dX12_walks_137 : decode cX12_walks 137 = .ok (.lload 8, 2) := by decide +kernel
theorem dX12_walks_139 : decode cX12_walks 139 = .ok (.lstore 5, 2) := by decide +kernel
theorem dX12_walks_141 : decode cX12_walks 141 = .ok (.iconst 1, 1) := by decide +kernel
theorem dX12_walks_142 : decode cX12_walks 142 = .ok (.istore_n 1, 1) := by decide +kernel
theorem dX12_walks_143 : decode cX12_walks 143 = .ok (.iinc 7 1, 3) := by decide +kernel
theorem dX12_walks_146 : decode cX12_walks 146 = .ok (.goto (-75), 3) := by decide +kernel
theorem dX12_walks_149 : decode cX12_walks 149 = .ok (.iload_n 1, 1) := by decide +kernel
theorem dX12_walks_150 : decode cX12_walks 150 = .ok (.ifCond .eq 10, 3) := by decide +kernel
theorem dX12_walks_153 : decode cX12_walks 153 = .ok (.aload_n 0, 1) := by decide +kernel
theorem dX12_walks_154 : decode cX12_walks 154 = .ok (.lload_n 3, 1) := by decide +kernel
theorem dX12_walks_155 : decode cX12_walks 155 = .ok (.lload 5, 2) := by decide +kernel
theorem dX12_walks_157 : decode cX12_walks 157 = .ok (.invokevirtual 201, 3) := by decide +kernel
theorem dX12_walks_160 : decode cX12_walks 160 = .ok (.goto (-139), 3) := by decide +kernel
theorem dX12_walks_163 : decode cX12_walks 163 = .ok (.aload_n 0, 1) := by decide +kernel
theorem dX12_walks_164 : decode cX12_walks 164 = .ok (.aload_n 0, 1) := by decide +kernel
theorem dX12_walks_165 : decode cX12_walks 165 = .ok (.getfield 35, 3) := by decide +kernel
theorem dX12_walks_168 : decode cX12_walks 168 = .ok (.i2l, 1) := by decide +kernel
theorem dX12_walks_169 : decode cX12_walks 169 = .ok (.aload_n 0, 1) := by decide +kernel
theorem dX12_walks_170 : decode cX12_walks 170 = .ok (.getfield 38, 3) := by decide +kernel
theorem dX12_walks_173 : decode cX12_walks 173 = .ok (.i2l, 1) := by decide +kernel
theorem dX12_walks_174 : decode cX12_walks 174 = .ok (.invokevirtual 201, 3) := by decide +kernel
theorem dX12_walks_177 : decode cX12_walks 177 = .ok (.return_, 1) := by decide +kernel
theorem dX12_prepares_0 : decode cX12_prepares 0 = .ok (.aload_n 0, 1) := by decide +kernel
theorem dX12_prepares_1 : decode cX12_prepares 1 = .ok (.iload_n 1, 1) := by decide +kernel
theorem dX12_prepares_2 : decode cX12_prepares 2 = .ok (.invokevirtual 168, 3) := by decide +kernel
theorem dX12_prepares_5 : decode cX12_prepares 5 = .ok (.aload_n 0, 1) := by decide +kernel
theorem dX12_prepares_6 : decode cX12_prepares 6 = .ok (.iconst 2, 1) := by decide +kernel
theorem dX12_prepares_7 : decode cX12_prepares 7 = .ok (.putfield 198, 3) := by decide +kernel
theorem dX12_prepares_10 : decode cX12_prepares 10 = .ok (.aload_n 0, 1) := by decide +kernel
theorem dX12_prepares_11 : decode cX12_prepares 11 = .ok (.getfield 150, 3) := by decide +kernel
theorem dX12_prepares_14 : decode cX12_prepares 14 = .ok (.ifCond .le 7, 3) := by decide +kernel
theorem dX12_prepares_17 : decode cX12_prepares 17 = .ok (.aload_n 0, 1) := by decide +kernel
theorem dX12_prepares_18 : decode cX12_prepares 18 = .ok (.invokevirtual 205, 3) := by decide +kernel
theorem dX12_prepares_21 : decode cX12_prepares 21 = .ok (.aload_n 0, 1) := by decide +kernel
theorem dX12_prepares_22 : decode cX12_prepares 22 = .ok (.getfield 150, 3) := by decide +kernel
theorem dX12_prepares_25 : decode cX12_prepares 25 = .ok (.ifCond .le 7, 3) := by decide +kernel
theorem dX12_prepares_28 : decode cX12_prepares 28 = .ok (.iconst 1, 1) := by decide +kernel
theorem dX12_prepares_29 : decode cX12_prepares 29 = .ok (.goto 4, 3) := by decide +kernel
theorem dX12_prepares_32 : decode cX12_prepares 32 = .ok (.iconst 0, 1) := by decide +kernel
theorem dX12_prepares_33 : decode cX12_prepares 33 = .ok (.ireturn, 1) := by decide +kernel
theorem dX12_bends_0 : decode cX12_bends 0 = .ok (.aload_n 0, 1) := by decide +kernel
theorem dX12_bends_1 : decode cX12_bends 1 = .ok (.iload_n 1, 1) := by decide +kernel
theorem dX12_bends_2 : decode cX12_bends 2 = .ok (.invokevirtual 115, 3) := by decide +kernel
theorem dX12_bends_5 : decode cX12_bends 5 = .ok (.ifCond .ne 6, 3) := by decide +kernel
theorem dX12_bends_8 : decode cX12_bends 8 = .ok (.bipush (-2), 2) := by decide +kernel
theorem dX12_bends_10 : decode cX12_bends 10 = .ok (.ireturn, 1) := by decide +kernel
theorem dX12_bends_11 : decode cX12_bends 11 = .ok (.aload_n 0, 1) := by decide +kernel
theorem dX12_bends_12 : decode cX12_bends 12 = .ok (.iload_n 1, 1) := by decide +kernel
theorem dX12_bends_13 : decode cX12_bends 13 = .ok (.invokevirtual 208, 3) := by decide +kernel
theorem dX12_bends_16 : decode cX12_bends 16 = .ok (.ifCond .eq 12, 3) := by decide +kernel
theorem dX12_bends_19 : decode cX12_bends 19 = .ok (.aload_n 0, 1) := by decide +kernel
theorem dX12_bends_20 : decode cX12_bends 20 = .ok (.getfield 198, 3) := by decide +kernel
theorem dX12_bends_23 : decode cX12_bends 23 = .ok (.iconst 2, 1) := by decide +kernel
theorem dX12_bends_24 : decode cX12_bends 24 = .ok (.isub, 1) := by decide +kernel
theorem dX12_bends_25 : decode cX12_bends 25 = .ok (.goto 4, 3) := by decide +kernel
theorem dX12_bends_28 : decode cX12_bends 28 = .ok (.iconst 0, 1) := by decide +kernel
theorem dX12_bends_29 : decode cX12_bends 29 = .ok (.ireturn, 1) := by decide +kernel
theorem dX12_bendOf_0 : decode cX12_bendOf 0 = .ok (.iload_n 2, 1) := by decide +kernel
theorem dX12_bendOf_1 : decode cX12_bendOf 1 = .ok (.iconst 2, 1) := by decide +kernel
theorem dX12_bendOf_2 : decode cX12_bendOf 2 = .ok (.if_icmp .ge 27, 3) := by decide +kernel
theorem dX12_bendOf_5 : decode cX12_bendOf 5 = .ok (.iload_n 2, 1) := by decide +kernel
theorem dX12_bendOf_6 : decode cX12_bendOf 6 = .ok (.ifCond .ne 14, 3) := by decide +kernel
theorem dX12_bendOf_9 : decode cX12_bendOf 9 = .ok (.aload_n 0, 1) := by decide +kernel
theorem dX12_bendOf_10 : decode cX12_bendOf 10 = .ok (.getfield 66, 3) := by decide +kernel
theorem dX12_bendOf_13 : decode cX12_bendOf 13 = .ok (.iload_n 1, 1) := by decide +kernel
theorem dX12_bendOf_14 : decode cX12_bendOf 14 = .ok (.iconst 1, 1) := by decide +kernel
theorem dX12_bendOf_15 : decode cX12_bendOf 15 = .ok (.iadd, 1) := by decide +kernel
theorem dX12_bendOf_16 : decode cX12_bendOf 16 = .ok (.laload, 1) := by decide +kernel
theorem dX12_bendOf_17 : decode cX12_bendOf 17 = .ok (.goto 11, 3) := by decide +kernel
theorem dX12_bendOf_20 : decode cX12_bendOf 20 = .ok (.aload_n 0, 1) := by decide +kernel
theorem dX12_bendOf_21 : decode cX12_bendOf 21 = .ok (.getfield 69, 3) := by decide +kernel
theorem dX12_bendOf_24 : decode cX12_bendOf 24 = .ok (.iload_n 1, 1) := by decide +kernel
theorem dX12_bendOf_25 : decode cX12_bendOf 25 = .ok (.iconst 1, 1) := by decide +kernel
theorem dX12_bendOf_26 : decode cX12_bendOf 26 = .ok (.iadd, 1) := by decide +kernel
theorem dX12_bendOf_27 : decode cX12_bendOf 27 = .ok (.laload, 1) := by decide +kernel
theorem dX12_bendOf_28 : decode cX12_bendOf 28 = .ok (.lreturn, 1) := by decide +kernel
theorem dX12_bendOf_29 : decode cX12_bendOf 29 = .ok (.aload_n 0, 1) := by decide +kernel
theorem dX12_bendOf_30 : decode cX12_bendOf 30 = .ok (.getfield 57, 3) := by decide +kernel
theorem dX12_bendOf_33 : decode cX12_bendOf 33 = .ok (.aload_n 0, 1) := by decide +kernel
theorem dX12_bendOf_34 : decode cX12_bendOf 34 = .ok (.aload_n 0, 1) := by decide +kernel
theorem dX12_bendOf_35 : decode cX12_bendOf 35 = .ok (.getfield 66, 3) := by decide +kernel
theorem dX12_bendOf_38 : decode cX12_bendOf 38 = .ok (.iload_n 1, 1) := by decide +kernel
theorem dX12_bendOf_39 : decode cX12_bendOf 39 = .ok (.iconst 1, 1) := by decide +kernel
theorem dX12_bendOf_40 : decode cX12_bendOf 40 = .ok (.iadd, 1) := by decide +kernel
theorem dX12_bendOf_41 : decode cX12_bendOf 41 = .ok (.laload, 1) := by decide +kernel
theorem dX12_bendOf_42 : decode cX12_bendOf 42 = .ok (.aload_n 0, 1) := by decide +kernel
theorem dX12_bendOf_43 : decode cX12_bendOf 43 = .ok (.getfield 69, 3) := by decide +kernel
theorem dX12_bendOf_46 : decode cX12_bendOf 46 = .ok (.iload_n 1, 1) := by decide +kernel
theorem dX12_bendOf_47 : decode cX12_bendOf 47 = .ok (.iconst 1, 1) := by decide +kernel
theorem dX12_bendOf_48 : decode cX12_bendOf 48 = .ok (.iadd, 1) := by decide +kernel
theorem dX12_bendOf_49 : decode cX12_bendOf 49 = .ok (.laload, 1) := by decide +kernel
theorem dX12_bendOf_50 : decode cX12_bendOf 50 = .ok (.iload_n 2, 1) := by decide +kernel
theorem dX12_bendOf_51 : decode cX12_bendOf 51 = .ok (.iconst 2, 1) := by decide +kernel
theorem dX12_bendOf_52 : decode cX12_bendOf 52 = .ok (.if_icmp .ne 7, 3) := by decide +kernel
theorem dX12_bendOf_55 : decode cX12_bendOf 55 = .ok (.iconst 2, 1) := by decide +kernel
theorem dX12_bendOf_56 : decode cX12_bendOf 56 = .ok (.goto 4, 3) := by decide +kernel
theorem dX12_bendOf_59 : decode cX12_bendOf 59 = .ok (.iconst 1, 1) := by decide +kernel
theorem dX12_bendOf_60 : decode cX12_bendOf 60 = .ok (.invokevirtual 191, 3) := by decide +kernel
theorem dX12_bendOf_63 : decode cX12_bendOf 63 = .ok (.iaload, 1) := by decide +kernel
theorem dX12_bendOf_64 : decode cX12_bendOf 64 = .ok (.i2l, 1) := by decide +kernel
theorem dX12_bendOf_65 : decode cX12_bendOf 65 = .ok (.lreturn, 1) := by decide +kernel
theorem dX12_bend_0 : decode cX12_bend 0 = .ok (.aload_n 0, 1) := by decide +kernel
theorem dX12_bend_1 : decode cX12_bend 1 = .ok (.iload_n 1, 1) := by decide +kernel
theorem dX12_bend_2 : decode cX12_bend 2 = .ok (.invokevirtual 115, 3) := by decide +kernel
theorem dX12_bend_5 : decode cX12_bend 5 = .ok (.ifCond .eq 34, 3) := by decide +kernel
theorem dX12_bend_8 : decode cX12_bend 8 = .ok (.iload_n 3, 1) := by decide +kernel
theorem dX12_bend_9 : decode cX12_bend 9 = .ok (.iconst 0, 1) := by decide +kernel
theorem dX12_bend_10 : decode cX12_bend 10 = .ok (.iconst 3, 1) := by decide +kernel
theorem dX12_bend_11 : decode cX12_bend 11 = .ok (.invokestatic 85, 3) := by decide +kernel
theorem dX12_bend_14 : decode cX12_bend 14 = .ok (.ifCond .eq 25, 3) := by decide +kernel
theorem dX12_bend_17 : decode cX12_bend 17 = .ok (.aload_n 0, 1) := by decide +kernel
theorem dX12_bend_18 : decode cX12_bend 18 = .ok (.iload_n 1, 1) := by decide +kernel
theorem dX12_bend_19 : decode cX12_bend 19 = .ok (.invokevirtual 208, 3) := by decide +kernel
theorem dX12_bend_22 : decode cX12_bend 22 = .ok (.ifCond .eq 17, 3) := by decide +kernel
theorem dX12_bend_25 : decode cX12_bend 25 = .ok (.iload_n 2, 1) := by decide +kernel
theorem dX12_bend_26 : decode cX12_bend 26 = .ok (.iconst 0, 1) := by decide +kernel
theorem dX12_bend_27 : decode cX12_bend 27 = .ok (.aload_n 0, 1) := by decide +kernel
theorem dX12_bend_28 : decode cX12_bend 28 = .ok (.getfield 198, 3) := by decide +kernel
theorem dX12_bend_31 : decode cX12_bend 31 = .ok (.iconst 3, 1) := by decide +kernel
theorem dX12_bend_32 : decode cX12_bend 32 = .ok (.isub, 1) := by decide +kernel
theorem dX12_bend_33 : decode cX12_bend 33 = .ok (.invokestatic 85, 3) := by decide +kernel
theorem dX12_bend_36 : decode cX12_bend 36 = .ok (.ifCond .ne 7, 3) := by decide +kernel
theorem dX12_bend_39 : decode cX12_bend 39 = .ok (.ldc2_w 178, 3) := by decide +kernel
theorem dX12_bend_42 : decode cX12_bend 42 = .ok (.lreturn, 1) := by decide +kernel
theorem dX12_bend_43 : decode cX12_bend 43 = .ok (.aload_n 0, 1) := by decide +kernel
theorem dX12_bend_44 : decode cX12_bend 44 = .ok (.iload_n 2, 1) := by decide +kernel
theorem dX12_bend_45 : decode cX12_bend 45 = .ok (.iload_n 3, 1) := by decide +kernel
theorem dX12_bend_46 : decode cX12_bend 46 = .ok (.invokevirtual 211, 3) := by decide +kernel
theorem dX12_bend_49 : decode cX12_bend 49 = .ok (.lreturn, 1) := by decide +kernel
theorem dX12_spans_0 : decode cX12_spans 0 = .ok (.aload_n 0, 1) := by decide +kernel
theorem dX12_spans_1 : decode cX12_spans 1 = .ok (.lconst 0, 1) := by decide +kernel
theorem dX12_spans_2 : decode cX12_spans 2 = .ok (.putfield 215, 3) := by decide +kernel
theorem dX12_spans_5 : decode cX12_spans 5 = .ok (.aload_n 0, 1) := by decide +kernel
theorem dX12_spans_6 : decode cX12_spans 6 = .ok (.lconst 0, 1) := by decide +kernel
theorem dX12_spans_7 : decode cX12_spans 7 = .ok (.putfield 219, 3) := by decide +kernel
theorem dX12_spans_10 : decode cX12_spans 10 = .ok (.aload_n 0, 1) := by decide +kernel
theorem dX12_spans_11 : decode cX12_spans 11 = .ok (.lconst 0, 1) := by decide +kernel
theorem dX12_spans_12 : decode cX12_spans 12 = .ok (.putfield 222, 3) := by decide +kernel
theorem dX12_spans_15 : decode cX12_spans 15 = .ok (.aload_n 0, 1) := by decide +kernel
theorem dX12_spans_16 : decode cX12_spans 16 = .ok (.lconst 0, 1) := by decide +kernel
theorem dX12_spans_17 : decode cX12_spans 17 = .ok (.putfield 225, 3) := by decide +kernel
theorem dX12_spans_20 : decode cX12_spans 20 = .ok (.iconst 1, 1) := by decide +kernel
theorem dX12_spans_21 : decode cX12_spans 21 = .ok (.istore_n 2, 1) := by decide +kernel
theorem dX12_spans_22 : decode cX12_spans 22 = .ok (.iconst 0, 1) := by decide +kernel
theorem dX12_spans_23 : decode cX12_spans 23 = .ok (.istore_n 3, 1) := by decide +kernel
theorem dX12_spans_24 : decode cX12_spans 24 = .ok (.iload_n 3, 1) := by decide +kernel
theorem dX12_spans_25 : decode cX12_spans 25 = .ok (.aload_n 0, 1) := by decide +kernel
theorem dX12_spans_26 : decode cX12_spans 26 = .ok (.getfield 150, 3) := by decide +kernel
theorem dX12_spans_29 : decode cX12_spans 29 = .ok (.if_icmp .ge 159, 3) := by decide +kernel
theorem dX12_spans_32 : decode cX12_spans 32 = .ok (.aload_n 0, 1) := by decide +kernel
theorem dX12_spans_33 : decode cX12_spans 33 = .ok (.getfield 63, 3) := by decide +kernel
theorem dX12_spans_36 : decode cX12_spans 36 = .ok (.iload_n 1, 1) := by decide +kernel
theorem dX12_spans_37 : decode cX12_spans 37 = .ok (.iaload, 1) := by decide +kernel
theorem dX12_spans_38 : decode cX12_spans 38 = .ok (.aload_n 0, 1) := by decide +kernel
theorem dX12_spans_39 : decode cX12_spans 39 = .ok (.getfield 63, 3) := by decide +kernel
theorem dX12_spans_42 : decode cX12_spans 42 = .ok (.iload_n 3, 1) := by decide +kernel
theorem dX12_spans_43 : decode cX12_spans 43 = .ok (.iaload, 1) := by decide +kernel
theorem dX12_spans_44 : decode cX12_spans 44 = .ok (.isub, 1) := by decide +kernel
theorem dX12_spans_45 : decode cX12_spans 45 = .ok (.i2l, 1) := by decide +kernel
theorem dX12_spans_46 : decode cX12_spans 46 = .ok (.lstore 4, 2) := by decide +kernel
theorem dX12_spans_48 : decode cX12_spans 48 = .ok (.aload_n 0, 1) := by decide +kernel
theorem dX12_spans_49 : decode cX12_spans 49 = .ok (.getfield 60, 3) := by decide +kernel
theorem dX12_spans_52 : decode cX12_spans 52 = .ok (.iload_n 3, 1) := by decide +kernel
theorem dX12_spans_53 : decode cX12_spans 53 = .ok (.iaload, 1) := by decide +kernel
theorem dX12_spans_54 : decode cX12_spans 54 = .ok (.aload_n 0, 1) := by decide +kernel
theorem dX12_spans_55 : decode cX12_spans 55 = .ok (.getfield 60, 3) := by decide +kernel
theorem dX12_spans_58 : decode cX12_spans 58 = .ok (.iload_n 1, 1) := by decide +kernel
theorem dX12_spans_59 : decode cX12_spans 59 = .ok (.iaload, 1) := by decide +kernel
theorem dX12_spans_60 : decode cX12_spans 60 = .ok (.isub, 1) := by decide +kernel
theorem dX12_spans_61 : decode cX12_spans 61 = .ok (.i2l, 1) := by decide +kernel
theorem dX12_spans_62 : decode cX12_spans 62 = .ok (.lstore 6, 2) := by decide +kernel
theorem dX12_spans_64 : decode cX12_spans 64 = .ok (.iload_n 2, 1) := by decide +kernel
theorem dX12_spans_65 : decode cX12_spans 65 = .ok (.ifCond .eq 21, 3) := by decide +kernel
theorem dX12_spans_68 : decode cX12_spans 68 = .ok (.lload 4, 2) := by decide +kernel
theorem dX12_spans_70 : decode cX12_spans 70 = .ok (.lconst 0, 1) := by decide +kernel
theorem dX12_spans_71 : decode cX12_spans 71 = .ok (.lcmp, 1) := by decide +kernel
theorem dX12_spans_72 : decode cX12_spans 72 = .ok (.ifCond .ne 10, 3) := by decide +kernel
theorem dX12_spans_75 : decode cX12_spans 75 = .ok (.lload 6, 2) := by decide +kernel
theorem dX12_spans_77 : decode cX12_spans 77 = .ok (.lconst 0, 1) := by decide +kernel
theorem dX12_spans_78 : decode cX12_spans 78 = .ok (.lcmp, 1) := by decide +kernel
theorem dX12_spans_79 : decode cX12_spans 79 = .ok (.ifCond .lt 7, 3) := by decide +kernel
theorem dX12_spans_82 : decode cX12_spans 82 = .ok (.iconst 1, 1) := by decide +kernel
theorem dX12_spans_83 : decode cX12_spans 83 = .ok (.goto 4, 3) := by decide +kernel
theorem dX12_spans_86 : decode cX12_spans 86 = .ok (.iconst 0, 1) := by decide +kernel
theorem dX12_spans_87 : decode cX12_spans 87 = .ok (.istore_n 2, 1) := by decide +kernel
theorem dX12_spans_88 : decode cX12_spans 88 = .ok (.lload 4, 2) := by decide +kernel
theorem dX12_spans_90 : decode cX12_spans 90 = .ok (.lconst 0, 1) := by decide +kernel
theorem dX12_spans_91 : decode cX12_spans 91 = .ok (.lcmp, 1) := by decide +kernel
theorem dX12_spans_92 : decode cX12_spans 92 = .ok (.ifCond .le 42, 3) := by decide +kernel
theorem dX12_spans_95 : decode cX12_spans 95 = .ok (.aload_n 0, 1) := by decide +kernel
theorem dX12_spans_96 : decode cX12_spans 96 = .ok (.getfield 225, 3) := by decide +kernel
theorem dX12_spans_99 : decode cX12_spans 99 = .ok (.lconst 0, 1) := by decide +kernel
theorem dX12_spans_100 : decode cX12_spans 100 = .ok (.lcmp, 1) := by decide +kernel
theorem dX12_spans_101 : decode cX12_spans 101 = .ok (.ifCond .eq 21, 3) := by decide +kernel
theorem dX12_spans_104 : decode cX12_spans 104 = .ok (.lload 6, 2) := by decide +kernel
theorem dX12_spans_106 : decode cX12_spans 106 = .ok (.aload_n 0, 1) := by decide +kernel
theorem dX12_spans_107 : decode cX12_spans 107 = .ok (.getfield 225, 3) := by decide +kernel
theorem dX12_spans_110 : decode cX12_spans 110 = .ok (.lmul, 1) := by decide +kernel
theorem dX12_spans_111 : decode cX12_spans 111 = .ok (.aload_n 0, 1) := by decide +kernel
theorem dX12_spans_112 : decode cX12_spans 112 = .ok (.getfield 222, 3) := by decide +kernel
theorem dX12_spans_115 : decode cX12_spans 115 = .ok (.lload 4, 2) := by decide +kernel
theorem dX12_spans_117 : decode cX12_spans 117 = .ok (.lmul, 1) := by decide +kernel
theorem dX12_spans_118 : decode cX12_spans 118 = .ok (.lcmp, 1) := by decide +kernel
theorem dX12_spans_119 : decode cX12_spans 119 = .ok (.ifCond .ge 15, 3) := by decide +kernel
theorem dX12_spans_122 : decode cX12_spans 122 = .ok (.aload_n 0, 1) := by decide +kernel
theorem dX12_spans_123 : decode cX12_spans 123 = .ok (.lload 6, 2) := by decide +kernel
theorem dX12_spans_125 : decode cX12_spans 125 = .ok (.putfield 222, 3) := by decide +kernel
theorem dX12_spans_128 : decode cX12_spans 128 = .ok (.aload_n 0, 1) := by decide +kernel
theorem dX12_spans_129 : decode cX12_spans 129 = .ok (.lload 4, 2) := by decide +kernel
theorem dX12_spans_131 : decode cX12_spans 131 = .ok (.putfield 225, 3) := by decide +kernel
theorem dX12_spans_134 : decode cX12_spans 134 = .ok (.lload 4, 2) := by decide +kernel
theorem dX12_spans_136 : decode cX12_spans 136 = .ok (.lconst 0, 1) := by decide +kernel
theorem dX12_spans_137 : decode cX12_spans 137 = .ok (.lcmp, 1) := by decide +kernel
theorem dX12_spans_138 : decode cX12_spans 138 = .ok (.ifCond .ge 44, 3) := by decide +kernel
theorem dX12_spans_141 : decode cX12_spans 141 = .ok (.aload_n 0, 1) := by decide +kernel
theorem dX12_spans_142 : decode cX12_spans 142 = .ok (.getfield 219, 3) := by decide +kernel
theorem dX12_spans_145 : decode cX12_spans 145 = .ok (.lconst 0, 1) := by decide +kernel
theorem dX12_spans_146 : decode cX12_spans 146 = .ok (.lcmp, 1) := by decide +kernel
theorem dX12_spans_147 : decode cX12_spans 147 = .ok (.ifCond .eq 21, 3) := by decide +kernel
theorem dX12_spans_150 : decode cX12_spans 150 = .ok (.lload 6, 2) := by decide +kernel
theorem dX12_spans_152 : decode cX12_spans 152 = .ok (.aload_n 0, 1) := by decide +kernel
theorem dX12_spans_153 : decode cX12_spans 153 = .ok (.getfield 219, 3) := by decide +kernel
theorem dX12_spans_156 : decode cX12_spans 156 = .ok (.lmul, 1) := by decide +kernel
theorem dX12_spans_157 : decode cX12_spans 157 = .ok (.aload_n 0, 1) := by decide +kernel
theorem dX12_spans_158 : decode cX12_spans 158 = .ok (.getfield 215, 3) := by decide +kernel
theorem dX12_spans_161 : decode cX12_spans 161 = .ok (.lload 4, 2) := by decide +kernel
theorem dX12_spans_163 : decode cX12_spans 163 = .ok (.lmul, 1) := by decide +kernel
theorem dX12_spans_164 : decode cX12_spans 164 = .ok (.lcmp, 1) := by decide +kernel
theorem dX12_spans_165 : decode cX12_spans 165 = .ok (.ifCond .ge 17, 3) := by decide +kernel
theorem dX12_spans_168 : decode cX12_spans 168 = .ok (.aload_n 0, 1) := by decide +kernel
theorem dX12_spans_169 : decode cX12_spans 169 = .ok (.lload 6, 2) := by decide +kernel
theorem dX12_spans_171 : decode cX12_spans 171 = .ok (.lneg, 1) := by decide +kernel
theorem dX12_spans_172 : decode cX12_spans 172 = .ok (.putfield 215, 3) := by decide +kernel
theorem dX12_spans_175 : decode cX12_spans 175 = .ok (.aload_n 0, 1) := by decide +kernel
theorem dX12_spans_176 : decode cX12_spans 176 = .ok (.lload 4, 2) := by decide +kernel
theorem dX12_spans_178 : decode cX12_spans 178 = .ok (.lneg, 1) := by decide +kernel
theorem dX12_spans_179 : decode cX12_spans 179 = .ok (.putfield 219, 3) := by decide +kernel
theorem dX12_spans_182 : decode cX12_spans 182 = .ok (.iinc 3 1, 3) := by decide +kernel
theorem dX12_spans_185 : decode cX12_spans 185 = .ok (.goto (-161), 3) := by decide +kernel
theorem dX12_spans_188 : decode cX12_spans 188 = .ok (.iload_n 2, 1) := by decide +kernel
theorem dX12_spans_189 : decode cX12_spans 189 = .ok (.ifCond .eq 47, 3) := by decide +kernel
theorem dX12_spans_192 : decode cX12_spans 192 = .ok (.aload_n 0, 1) := by decide +kernel
theorem dX12_spans_193 : decode cX12_spans 193 = .ok (.getfield 219, 3) := by decide +kernel
theorem dX12_spans_196 : decode cX12_spans 196 = .ok (.lconst 0, 1) := by decide +kernel
theorem dX12_spans_197 : decode cX12_spans 197 = .ok (.lcmp, 1) := by decide +kernel
theorem dX12_spans_198 : decode cX12_spans 198 = .ok (.ifCond .eq 34, 3) := by decide +kernel
theorem dX12_spans_201 : decode cX12_spans 201 = .ok (.aload_n 0, 1) := by decide +kernel
theorem dX12_spans_202 : decode cX12_spans 202 = .ok (.getfield 225, 3) := by decide +kernel
theorem dX12_spans_205 : decode cX12_spans 205 = .ok (.lconst 0, 1) := by decide +kernel
theorem dX12_spans_206 : decode cX12_spans 206 = .ok (.lcmp, 1) := by decide +kernel
theorem dX12_spans_207 : decode cX12_spans 207 = .ok (.ifCond .eq 25, 3) := by decide +kernel
theorem dX12_spans_210 : decode cX12_spans 210 = .ok (.aload_n 0, 1) := by decide +kernel
theorem dX12_spans_211 : decode cX12_spans 211 = .ok (.getfield 215, 3) := by decide +kernel
theorem dX12_spans_214 : decode cX12_spans 214 = .ok (.aload_n 0, 1) := by decide +kernel
theorem dX12_spans_215 : decode cX12_spans 215 = .ok (.getfield 225, 3) := by decide +kernel
theorem dX12_spans_218 : decode cX12_spans 218 = .ok (.lmul, 1) := by decide +kernel
theorem dX12_spans_219 : decode cX12_spans 219 = .ok (.aload_n 0, 1) := by decide +kernel
theorem dX12_spans_220 : decode cX12_spans 220 = .ok (.getfield 222, 3) := by decide +kernel
theorem dX12_spans_223 : decode cX12_spans 223 = .ok (.aload_n 0, 1) := by decide +kernel
theorem dX12_spans_224 : decode cX12_spans 224 = .ok (.getfield 219, 3) := by decide +kernel
theorem dX12_spans_227 : decode cX12_spans 227 = .ok (.lmul, 1) := by decide +kernel
theorem dX12_spans_228 : decode cX12_spans 228 = .ok (.lcmp, 1) := by decide +kernel
theorem dX12_spans_229 : decode cX12_spans 229 = .ok (.ifCond .gt 7, 3) := by decide +kernel
theorem dX12_spans_232 : decode cX12_spans 232 = .ok (.iconst 1, 1) := by decide +kernel
theorem dX12_spans_233 : decode cX12_spans 233 = .ok (.goto 4, 3) := by decide +kernel
theorem dX12_spans_236 : decode cX12_spans 236 = .ok (.iconst 0, 1) := by decide +kernel
theorem dX12_spans_237 : decode cX12_spans 237 = .ok (.ireturn, 1) := by decide +kernel
theorem dX12_span_0 : decode cX12_span 0 = .ok (.aload_n 0, 1) := by decide +kernel
theorem dX12_span_1 : decode cX12_span 1 = .ok (.iload_n 1, 1) := by decide +kernel
theorem dX12_span_2 : decode cX12_span 2 = .ok (.invokevirtual 115, 3) := by decide +kernel
theorem dX12_span_5 : decode cX12_span 5 = .ok (.ifCond .eq 12, 3) := by decide +kernel
theorem dX12_span_8 : decode cX12_span 8 = .ok (.iload_n 3, 1) := by decide +kernel
theorem dX12_span_9 : decode cX12_span 9 = .ok (.iconst 0, 1) := by decide +kernel
theorem dX12_span_10 : decode cX12_span 10 = .ok (.iconst 4, 1) := by decide +kernel
theorem dX12_span_11 : decode cX12_span 11 = .ok (.invokestatic 85, 3) := by decide +kernel
theorem dX12_span_14 : decode cX12_span 14 = .ok (.ifCond .ne 7, 3) := by decide +kernel
theorem dX12_span_17 : decode cX12_span 17 = .ok (.ldc2_w 178, 3) := by decide +kernel
theorem dX12_span_20 : decode cX12_span 20 = .ok (.lreturn, 1) := by decide +kernel
theorem dX12_span_21 : decode cX12_span 21 = .ok (.aload_n 0, 1) := by decide +kernel
theorem dX12_span_22 : decode cX12_span 22 = .ok (.iload_n 1, 1) := by decide +kernel
theorem dX12_span_23 : decode cX12_span 23 = .ok (.invokevirtual 168, 3) := by decide +kernel
theorem dX12_span_26 : decode cX12_span 26 = .ok (.aload_n 0, 1) := by decide +kernel
theorem dX12_span_27 : decode cX12_span 27 = .ok (.iload_n 2, 1) := by decide +kernel
theorem dX12_span_28 : decode cX12_span 28 = .ok (.invokevirtual 228, 3) := by decide +kernel
theorem dX12_span_31 : decode cX12_span 31 = .ok (.istore 4, 2) := by decide +kernel
theorem dX12_span_33 : decode cX12_span 33 = .ok (.iload 4, 2) := by decide +kernel
theorem dX12_span_35 : decode cX12_span 35 = .ok (.iconst (-1), 1) := by decide +kernel
theorem dX12_span_36 : decode cX12_span 36 = .ok (.if_icmp .ne 7, 3) := by decide +kernel
theorem dX12_span_39 : decode cX12_span 39 = .ok (.ldc2_w 178, 3) := by decide +kernel
theorem dX12_span_42 : decode cX12_span 42 = .ok (.lreturn, 1) := by decide +kernel
theorem dX12_span_43 : decode cX12_span 43 = .ok (.aload_n 0, 1) := by decide +kernel
theorem dX12_span_44 : decode cX12_span 44 = .ok (.iload 4, 2) := by decide +kernel
theorem dX12_span_46 : decode cX12_span 46 = .ok (.invokevirtual 231, 3) := by decide +kernel
theorem dX12_span_49 : decode cX12_span 49 = .ok (.istore 5, 2) := by decide +kernel
theorem dX12_span_51 : decode cX12_span 51 = .ok (.iload_n 3, 1) := by decide +kernel
theorem dX12_span_52 : decode cX12_span 52 = .ok (.ifCond .ne 14, 3) := by decide +kernel
theorem dX12_span_55 : decode cX12_span 55 = .ok (.iload 5, 2) := by decide +kernel
theorem dX12_span_57 : decode cX12_span 57 = .ok (.ifCond .eq 7, 3) := by decide +kernel
theorem dX12_span_60 : decode cX12_span 60 = .ok (.lconst 1, 1) := by decide +kernel
theorem dX12_span_61 : decode cX12_span 61 = .ok (.goto 4, 3) := by decide +kernel
theorem dX12_span_64 : decode cX12_span 64 = .ok (.lconst 0, 1) := by decide +kernel
theorem dX12_span_65 : decode cX12_span 65 = .ok (.lreturn, 1) := by decide +kernel
theorem dX12_span_66 : decode cX12_span 66 = .ok (.iload 5, 2) := by decide +kernel
theorem dX12_span_68 : decode cX12_span 68 = .ok (.ifCond .ne 7, 3) := by decide +kernel
theorem dX12_span_71 : decode cX12_span 71 = .ok (.ldc2_w 178, 3) := by decide +kernel
theorem dX12_span_74 : decode cX12_span 74 = .ok (.lreturn, 1) := by decide +kernel
theorem dX12_span_75 : decode cX12_span 75 = .ok (.iload_n 3, 1) := by decide +kernel
theorem dX12_span_76 : decode cX12_span 76 = .ok (.iconst 3, 1) := by decide +kernel
theorem dX12_span_77 : decode cX12_span 77 = .ok (.if_icmp .ge 10, 3) := by decide +kernel
theorem dX12_span_80 : decode cX12_span 80 = .ok (.aload_n 0, 1) := by decide +kernel
theorem dX12_span_81 : decode cX12_span 81 = .ok (.getfield 215, 3) := by decide +kernel
theorem dX12_span_84 : decode cX12_span 84 = .ok (.goto 7, 3) := by decide +kernel
theorem dX12_span_87 : decode cX12_span 87 = .ok (.aload_n 0, 1) := by decide +kernel
theorem dX12_span_88 : decode cX12_span 88 = .ok (.getfield 222, 3) := by decide +kernel
theorem dX12_span_91 : decode cX12_span 91 = .ok (.lstore 6, 2) := by decide +kernel
theorem dX12_span_93 : decode cX12_span 93 = .ok (.iload_n 3, 1) := by decide +kernel
theorem dX12_span_94 : decode cX12_span 94 = .ok (.iconst 3, 1) := by decide +kernel
theorem dX12_span_95 : decode cX12_span 95 = .ok (.if_icmp .ge 10, 3) := by decide +kernel
theorem dX12_span_98 : decode cX12_span 98 = .ok (.aload_n 0, 1) := by decide +kernel
theorem dX12_span_99 : decode cX12_span 99 = .ok (.getfield 219, 3) := by decide +kernel
theorem dX12_span_102 : decode cX12_span 102 = .ok (.goto 7, 3) := by decide +kernel
theorem dX12_span_105 : decode cX12_span 105 = .ok (.aload_n 0, 1) := by decide +kernel
theorem dX12_span_106 : decode cX12_span 106 = .ok (.getfield 225, 3) := by decide +kernel
theorem dX12_span_109 : decode cX12_span 109 = .ok (.lstore 8, 2) := by decide +kernel
theorem dX12_span_111 : decode cX12_span 111 = .ok (.lload 8, 2) := by decide +kernel
theorem dX12_span_113 : decode cX12_span 113 = .ok (.lconst 0, 1) := by decide +kernel
theorem dX12_span_114 : decode cX12_span 114 = .ok (.lcmp, 1) := by decide +kernel
theorem dX12_span_115 : decode cX12_span 115 = .ok (.ifCond .ne 7, 3) := by decide +kernel
theorem dX12_span_118 : decode cX12_span 118 = .ok (.lconst 0, 1) := by decide +kernel
theorem dX12_span_119 : decode cX12_span 119 = .ok (.goto 22, 3) := by decide +kernel
theorem dX12_span_122 : decode cX12_span 122 = .ok (.lload 6, 2) := by decide +kernel
theorem dX12_span_124 : decode cX12_span 124 = .ok (.lload 8, 2) := by decide +kernel
theorem dX12_span_126 : decode cX12_span 126 = .ok (.iload_n 3, 1) := by decide +kernel
theorem dX12_span_127 : decode cX12_span 127 = .ok (.iconst 2, 1) := by decide +kernel
theorem dX12_span_128 : decode cX12_span 128 = .ok (.irem, 1) := by decide +kernel
theorem dX12_span_129 : decode cX12_span 129 = .ok (.iconst 1, 1) := by decide +kernel
theorem dX12_span_130 : decode cX12_span 130 = .ok (.if_icmp .ne 7, 3) := by decide +kernel
theorem dX12_span_133 : decode cX12_span 133 = .ok (.iconst 0, 1) := by decide +kernel
theorem dX12_span_134 : decode cX12_span 134 = .ok (.goto 4, 3) := by decide +kernel
theorem dX12_span_137 : decode cX12_span 137 = .ok (.iconst 1, 1) := by decide +kernel
theorem dX12_span_138 : decode cX12_span 138 = .ok (.invokestatic 180, 3) := by decide +kernel
theorem dX12_span_141 : decode cX12_span 141 = .ok (.lreturn, 1) := by decide +kernel
theorem dX12_top_0 : decode cX12_top 0 = .ok (.aload_n 0, 1) := by decide +kernel
theorem dX12_top_1 : decode cX12_top 1 = .ok (.iload_n 1, 1) := by decide +kernel
theorem dX12_top_2 : decode cX12_top 2 = .ok (.invokevirtual 115, 3) := by decide +kernel
theorem dX12_top_5 : decode cX12_top 5 = .ok (.ifCond .eq 20, 3) := by decide +kernel
theorem dX12_top_8 : decode cX12_top 8 = .ok (.iload_n 2, 1) := by decide +kernel
theorem dX12_top_9 : decode cX12_top 9 = .ok (.iconst 0, 1) := by decide +kernel
theorem dX12_top_10 : decode cX12_top 10 = .ok (.iconst 3, 1) := by decide +kernel
theorem dX12_top_11 : decode cX12_top 11 = .ok (.invokestatic 85, 3) := by decide +kernel
theorem dX12_top_14 : decode cX12_top 14 = .ok (.ifCond .eq 11, 3) := by decide +kernel
theorem dX12_top_17 : decode cX12_top 17 = .ok (.aload_n 0, 1) := by decide +kernel
theorem dX12_top_18 : decode cX12_top 18 = .ok (.iload_n 1, 1) := by decide +kernel
theorem dX12_top_19 : decode cX12_top 19 = .ok (.invokevirtual 208, 3) := by decide +kernel
theorem dX12_top_22 : decode cX12_top 22 = .ok (.ifCond .ne 7, 3) := by decide +kernel
theorem dX12_top_25 : decode cX12_top 25 = .ok (.ldc2_w 178, 3) := by decide +kernel
theorem dX12_top_28 : decode cX12_top 28 = .ok (.lreturn, 1) := by decide +kernel
theorem dX12_top_29 : decode cX12_top 29 = .ok (.iconst 0, 1) := by decide +kernel
theorem dX12_top_30 : decode cX12_top 30 = .ok (.istore_n 3, 1) := by decide +kernel
theorem dX12_top_31 : decode cX12_top 31 = .ok (.iconst 1, 1) := by decide +kernel
theorem dX12_top_32 : decode cX12_top 32 = .ok (.istore 4, 2) := by decide +kernel
theorem dX12_top_34 : decode cX12_top 34 = .ok (.iload 4, 2) := by decide +kernel
theorem dX12_top_36 : decode cX12_top 36 = .ok (.aload_n 0, 1) := by decide +kernel
theorem dX12_top_37 : decode cX12_top 37 = .ok (.getfield 198, 3) := by decide +kernel
theorem dX12_top_40 : decode cX12_top 40 = .ok (.if_icmp .ge 48, 3) := by decide +kernel
theorem dX12_top_43 : decode cX12_top 43 = .ok (.aload_n 0, 1) := by decide +kernel
theorem dX12_top_44 : decode cX12_top 44 = .ok (.getfield 72, 3) := by decide +kernel
theorem dX12_top_47 : decode cX12_top 47 = .ok (.iload 4, 2) := by decide +kernel
theorem dX12_top_49 : decode cX12_top 49 = .ok (.laload, 1) := by decide +kernel
theorem dX12_top_50 : decode cX12_top 50 = .ok (.aload_n 0, 1) := by decide +kernel
theorem dX12_top_51 : decode cX12_top 51 = .ok (.getfield 69, 3) := by decide +kernel
theorem dX12_top_54 : decode cX12_top 54 = .ok (.iload_n 3, 1) := by decide +kernel
theorem dX12_top_55 : decode cX12_top 55 = .ok (.laload, 1) := by decide +kernel
theorem dX12_top_56 : decode cX12_top 56 = .ok (.lmul, 1) := by decide +kernel
theorem dX12_top_57 : decode cX12_top 57 = .ok (.aload_n 0, 1) := by decide +kernel
theorem dX12_top_58 : decode cX12_top 58 = .ok (.getfield 72, 3) := by decide +kernel
theorem dX12_top_61 : decode cX12_top 61 = .ok (.iload_n 3, 1) := by decide +kernel
theorem dX12_top_62 : decode cX12_top 62 = .ok (.laload, 1) := by decide +kernel
theorem dX12_top_63 : decode cX12_top 63 = .ok (.aload_n 0, 1) := by decide +kernel
theorem dX12_top_64 : decode cX12_top 64 = .ok (.getfield 69, 3) := by decide +kernel
theorem dX12_top_67 : decode cX12_top 67 = .ok (.iload 4, 2) := by decide +kernel
theorem dX12_top_69 : decode cX12_top 69 = .ok (.laload, 1) := by decide +kernel
theorem dX12_top_70 : decode cX12_top 70 = .ok (.lmul, 1) := by decide +kernel
theorem dX12_top_71 : decode cX12_top 71 = .ok (.lcmp, 1) := by decide +kernel
theorem dX12_top_72 : decode cX12_top 72 = .ok (.ifCond .le 8, 3) := by decide +kernel
theorem dX12_top_75 : decode cX12_top 75 = .ok (.iload 4, 2) := by decide +kernel
theorem dX12_top_77 : decode cX12_top 77 = .ok (.goto 4, 3) := by decide +kernel
theorem dX12_top_80 : decode cX12_top 80 = .ok (.iload_n 3, 1) := by decide +kernel
theorem dX12_top_81 : decode cX12_top 81 = .ok (.istore_n 3, 1) := by decide +kernel
theorem dX12_top_82 : decode cX12_top 82 = .ok (.iinc 4 1, 3) := by decide +kernel
theorem dX12_top_85 : decode cX12_top 85 = .ok (.goto (-51), 3) := by decide +kernel
theorem dX12_top_88 : decode cX12_top 88 = .ok (.iload_n 2, 1) := by decide +kernel
theorem dX12_top_89 : decode cX12_top 89 = .ok (.iconst 2, 1) := by decide +kernel
theorem dX12_top_90 : decode cX12_top 90 = .ok (.if_icmp .ge 25, 3) := by decide +kernel
theorem dX12_top_93 : decode cX12_top 93 = .ok (.iload_n 2, 1) := by decide +kernel
theorem dX12_top_94 : decode cX12_top 94 = .ok (.ifCond .ne 12, 3) := by decide +kernel
theorem dX12_top_97 : decode cX12_top 97 = .ok (.aload_n 0, 1) := by decide +kernel
theorem dX12_top_98 : decode cX12_top 98 = .ok (.getfield 66, 3) := by decide +kernel
theorem dX12_top_101 : decode cX12_top 101 = .ok (.iload_n 3, 1) := by decide +kernel
theorem dX12_top_102 : decode cX12_top 102 = .ok (.laload, 1) := by decide +kernel
theorem dX12_top_103 : decode cX12_top 103 = .ok (.goto 30, 3) := by decide +kernel
theorem dX12_top_106 : decode cX12_top 106 = .ok (.aload_n 0, 1) := by decide +kernel
theorem dX12_top_107 : decode cX12_top 107 = .ok (.getfield 69, 3) := by decide +kernel
theorem dX12_top_110 : decode cX12_top 110 = .ok (.iload_n 3, 1) := by decide +kernel
theorem dX12_top_111 : decode cX12_top 111 = .ok (.laload, 1) := by decide +kernel
theorem dX12_top_112 : decode cX12_top 112 = .ok (.goto 21, 3) := by decide +kernel
theorem dX12_top_115 : decode cX12_top 115 = .ok (.aload_n 0, 1) := by decide +kernel
theorem dX12_top_116 : decode cX12_top 116 = .ok (.getfield 72, 3) := by decide +kernel
theorem dX12_top_119 : decode cX12_top 119 = .ok (.iload_n 3, 1) := by decide +kernel
theorem dX12_top_120 : decode cX12_top 120 = .ok (.laload, 1) := by decide +kernel
theorem dX12_top_121 : decode cX12_top 121 = .ok (.aload_n 0, 1) := by decide +kernel
theorem dX12_top_122 : decode cX12_top 122 = .ok (.getfield 69, 3) := by decide +kernel
theorem dX12_top_125 : decode cX12_top 125 = .ok (.iload_n 3, 1) := by decide +kernel
theorem dX12_top_126 : decode cX12_top 126 = .ok (.laload, 1) := by decide +kernel
theorem dX12_top_127 : decode cX12_top 127 = .ok (.iload_n 2, 1) := by decide +kernel
theorem dX12_top_128 : decode cX12_top 128 = .ok (.iconst 2, 1) := by decide +kernel
theorem dX12_top_129 : decode cX12_top 129 = .ok (.isub, 1) := by decide +kernel
theorem dX12_top_130 : decode cX12_top 130 = .ok (.invokestatic 180, 3) := by decide +kernel
theorem dX12_top_133 : decode cX12_top 133 = .ok (.lreturn, 1) := by decide +kernel
theorem dX12_ratio_0 : decode cX12_ratio 0 = .ok (.aload_n 0, 1) := by decide +kernel
theorem dX12_ratio_1 : decode cX12_ratio 1 = .ok (.iload_n 1, 1) := by decide +kernel
theorem dX12_ratio_2 : decode cX12_ratio 2 = .ok (.invokevirtual 115, 3) := by decide +kernel
theorem dX12_ratio_5 : decode cX12_ratio 5 = .ok (.ifCond .eq 12, 3) := by decide +kernel
theorem dX12_ratio_8 : decode cX12_ratio 8 = .ok (.iload_n 2, 1) := by decide +kernel
theorem dX12_ratio_9 : decode cX12_ratio 9 = .ok (.iconst 0, 1) := by decide +kernel
theorem dX12_ratio_10 : decode cX12_ratio 10 = .ok (.iconst 2, 1) := by decide +kernel
theorem dX12_ratio_11 : decode cX12_ratio 11 = .ok (.invokestatic 85, 3) := by decide +kernel
theorem dX12_ratio_14 : decode cX12_ratio 14 = .ok (.ifCond .ne 7, 3) := by decide +kernel
theorem dX12_ratio_17 : decode cX12_ratio 17 = .ok (.ldc2_w 178, 3) := by decide +kernel
theorem dX12_ratio_20 : decode cX12_ratio 20 = .ok (.lreturn, 1) := by decide +kernel
theorem dX12_ratio_21 : decode cX12_ratio 21 = .ok (.aload_n 0, 1) := by decide +kernel
theorem dX12_ratio_22 : decode cX12_ratio 22 = .ok (.iload_n 1, 1) := by decide +kernel
theorem dX12_ratio_23 : decode cX12_ratio 23 = .ok (.invokevirtual 168, 3) := by decide +kernel
theorem dX12_ratio_26 : decode cX12_ratio 26 = .ok (.iconst 0, 1) := by decide +kernel
theorem dX12_ratio_27 : decode cX12_ratio 27 = .ok (.istore_n 3, 1) := by decide +kernel
theorem dX12_ratio_28 : decode cX12_ratio 28 = .ok (.aload_n 0, 1) := by decide +kernel
theorem dX12_ratio_29 : decode cX12_ratio 29 = .ok (.getfield 150, 3) := by decide +kernel
theorem dX12_ratio_32 : decode cX12_ratio 32 = .ok (.ifCond .le 7, 3) := by decide +kernel
theorem dX12_ratio_35 : decode cX12_ratio 35 = .ok (.iconst 1, 1) := by decide +kernel
theorem dX12_ratio_36 : decode cX12_ratio 36 = .ok (.goto 4, 3) := by decide +kernel
theorem dX12_ratio_39 : decode cX12_ratio 39 = .ok (.iconst 0, 1) := by decide +kernel
theorem dX12_ratio_40 : decode cX12_ratio 40 = .ok (.istore 4, 2) := by decide +kernel
theorem dX12_ratio_42 : decode cX12_ratio 42 = .ok (.iconst 0, 1) := by decide +kernel
theorem dX12_ratio_43 : decode cX12_ratio 43 = .ok (.istore 5, 2) := by decide +kernel
theorem dX12_ratio_45 : decode cX12_ratio 45 = .ok (.iload 5, 2) := by decide +kernel
theorem dX12_ratio_47 : decode cX12_ratio 47 = .ok (.aload_n 0, 1) := by decide +kernel
theorem dX12_ratio_48 : decode cX12_ratio 48 = .ok (.getfield 150, 3) := by decide +kernel
theorem dX12_ratio_51 : decode cX12_ratio 51 = .ok (.if_icmp .ge 74, 3) := by decide +kernel
theorem dX12_ratio_54 : decode cX12_ratio 54 = .ok (.iload 4, 2) := by decide +kernel
theorem dX12_ratio_56 : decode cX12_ratio 56 = .ok (.ifCond .eq 17, 3) := by decide +kernel
theorem dX12_ratio_59 : decode cX12_ratio 59 = .ok (.aload_n 0, 1) := by decide +kernel
theorem dX12_ratio_60 : decode cX12_ratio 60 = .ok (.getfield 63, 3) := by decide +kernel
theorem dX12_ratio_63 : decode cX12_ratio 63 = .ok (.iload 5, 2) := by decide +kernel
theorem dX12_ratio_65 : decode cX12_ratio 65 = .ok (.iaload, 1) := by decide +kernel
theorem dX12_ratio_66 : decode cX12_ratio 66 = .ok (.ifCond .le 7, 3) := by decide +kernel
theorem dX12_ratio_69 : decode cX12_ratio 69 = .ok (.iconst 1, 1) := by decide +kernel
theorem dX12_ratio_70 : decode cX12_ratio 70 = .ok (.goto 4, 3) := by decide +kernel
theorem dX12_ratio_73 : decode cX12_ratio 73 = .ok (.iconst 0, 1) := by decide +kernel
theorem dX12_ratio_74 : decode cX12_ratio 74 = .ok (.istore 4, 2) := by decide +kernel
theorem dX12_ratio_76 : decode cX12_ratio 76 = .ok (.aload_n 0, 1) := by decide +kernel
theorem dX12_ratio_77 : decode cX12_ratio 77 = .ok (.getfield 60, 3) := by decide +kernel
theorem dX12_ratio_80 : decode cX12_ratio 80 = .ok (.iload 5, 2) := by decide +kernel
theorem dX12_ratio_82 : decode cX12_ratio 82 = .ok (.iaload, 1) := by decide +kernel
theorem dX12_ratio_83 : decode cX12_ratio 83 = .ok (.i2l, 1) := by decide +kernel
theorem dX12_ratio_84 : decode cX12_ratio 84 = .ok (.aload_n 0, 1) := by decide +kernel
theorem dX12_ratio_85 : decode cX12_ratio 85 = .ok (.getfield 63, 3) := by decide +kernel
theorem dX12_ratio_88 : decode cX12_ratio 88 = .ok (.iload_n 3, 1) := by decide +kernel
theorem dX12_ratio_89 : decode cX12_ratio 89 = .ok (.iaload, 1) := by decide +kernel
theorem dX12_ratio_90 : decode cX12_ratio 90 = .ok (.i2l, 1) := by decide +kernel
theorem dX12_ratio_91 : decode cX12_ratio 91 = .ok (.lmul, 1) := by decide +kernel
theorem dX12_ratio_92 : decode cX12_ratio 92 = .ok (.aload_n 0, 1) := by decide +kernel
theorem dX12_ratio_93 : decode cX12_ratio 93 = .ok (.getfield 60, 3) := by decide +kernel
theorem dX12_ratio_96 : decode cX12_ratio 96 = .ok (.iload_n 3, 1) := by decide +kernel
theorem dX12_ratio_97 : decode cX12_ratio 97 = .ok (.iaload, 1) := by decide +kernel
theorem dX12_ratio_98 : decode cX12_ratio 98 = .ok (.i2l, 1) := by decide +kernel
theorem dX12_ratio_99 : decode cX12_ratio 99 = .ok (.aload_n 0, 1) := by decide +kernel
theorem dX12_ratio_100 : decode cX12_ratio 100 = .ok (.getfield 63, 3) := by decide +kernel
theorem dX12_ratio_103 : decode cX12_ratio 103 = .ok (.iload 5, 2) := by decide +kernel
theorem dX12_ratio_105 : decode cX12_ratio 105 = .ok (.iaload, 1) := by decide +kernel
theorem dX12_ratio_106 : decode cX12_ratio 106 = .ok (.i2l, 1) := by decide +kernel
theorem dX12_ratio_107 : decode cX12_ratio 107 = .ok (.lmul, 1) := by decide +kernel
theorem dX12_ratio_108 : decode cX12_ratio 108 = .ok (.lcmp, 1) := by decide +kernel
theorem dX12_ratio_109 : decode cX12_ratio 109 = .ok (.ifCond .ge 8, 3) := by decide +kernel
theorem dX12_ratio_112 : decode cX12_ratio 112 = .ok (.iload 5, 2) := by decide +kernel
theorem dX12_ratio_114 : decode cX12_ratio 114 = .ok (.goto 4, 3) := by decide +kernel
theorem dX12_ratio_117 : decode cX12_ratio 117 = .ok (.iload_n 3, 1) := by decide +kernel
theorem dX12_ratio_118 : decode cX12_ratio 118 = .ok (.istore_n 3, 1) := by decide +kernel
theorem dX12_ratio_119 : decode cX12_ratio 119 = .ok (.iinc 5 1, 3) := by decide +kernel
theorem dX12_ratio_122 : decode cX12_ratio 122 = .ok (.goto (-77), 3) := by decide +kernel
theorem dX12_ratio_125 : decode cX12_ratio 125 = .ok (.iload 4, 2) := by decide +kernel
theorem dX12_ratio_127 : decode cX12_ratio 127 = .ok (.ifCond .ne 7, 3) := by decide +kernel
theorem dX12_ratio_130 : decode cX12_ratio 130 = .ok (.ldc2_w 178, 3) := by decide +kernel
theorem dX12_ratio_133 : decode cX12_ratio 133 = .ok (.lreturn, 1) := by decide +kernel
theorem dX12_ratio_134 : decode cX12_ratio 134 = .ok (.iload_n 2, 1) := by decide +kernel
theorem dX12_ratio_135 : decode cX12_ratio 135 = .ok (.iconst 2, 1) := by decide +kernel
theorem dX12_ratio_136 : decode cX12_ratio 136 = .ok (.if_icmp .ne 13, 3) := by decide +kernel
theorem dX12_ratio_139 : decode cX12_ratio 139 = .ok (.aload_n 0, 1) := by decide +kernel
theorem dX12_ratio_140 : decode cX12_ratio 140 = .ok (.getfield 57, 3) := by decide +kernel
theorem dX12_ratio_143 : decode cX12_ratio 143 = .ok (.iload_n 3, 1) := by decide +kernel
theorem dX12_ratio_144 : decode cX12_ratio 144 = .ok (.iaload, 1) := by decide +kernel
theorem dX12_ratio_145 : decode cX12_ratio 145 = .ok (.i2l, 1) := by decide +kernel
theorem dX12_ratio_146 : decode cX12_ratio 146 = .ok (.goto 21, 3) := by decide +kernel
theorem dX12_ratio_149 : decode cX12_ratio 149 = .ok (.aload_n 0, 1) := by decide +kernel
theorem dX12_ratio_150 : decode cX12_ratio 150 = .ok (.getfield 60, 3) := by decide +kernel
theorem dX12_ratio_153 : decode cX12_ratio 153 = .ok (.iload_n 3, 1) := by decide +kernel
theorem dX12_ratio_154 : decode cX12_ratio 154 = .ok (.iaload, 1) := by decide +kernel
theorem dX12_ratio_155 : decode cX12_ratio 155 = .ok (.i2l, 1) := by decide +kernel
theorem dX12_ratio_156 : decode cX12_ratio 156 = .ok (.aload_n 0, 1) := by decide +kernel
theorem dX12_ratio_157 : decode cX12_ratio 157 = .ok (.getfield 63, 3) := by decide +kernel
theorem dX12_ratio_160 : decode cX12_ratio 160 = .ok (.iload_n 3, 1) := by decide +kernel
theorem dX12_ratio_161 : decode cX12_ratio 161 = .ok (.iaload, 1) := by decide +kernel
theorem dX12_ratio_162 : decode cX12_ratio 162 = .ok (.i2l, 1) := by decide +kernel
theorem dX12_ratio_163 : decode cX12_ratio 163 = .ok (.iload_n 2, 1) := by decide +kernel
theorem dX12_ratio_164 : decode cX12_ratio 164 = .ok (.invokestatic 180, 3) := by decide +kernel
theorem dX12_ratio_167 : decode cX12_ratio 167 = .ok (.lreturn, 1) := by decide +kernel
theorem dX12_regrets_0 : decode cX12_regrets 0 = .ok (.aload_n 0, 1) := by decide +kernel
theorem dX12_regrets_1 : decode cX12_regrets 1 = .ok (.lconst 0, 1) := by decide +kernel
theorem dX12_regrets_2 : decode cX12_regrets 2 = .ok (.putfield 234, 3) := by decide +kernel
theorem dX12_regrets_5 : decode cX12_regrets 5 = .ok (.aload_n 0, 1) := by decide +kernel
theorem dX12_regrets_6 : decode cX12_regrets 6 = .ok (.lconst 1, 1) := by decide +kernel
theorem dX12_regrets_7 : decode cX12_regrets 7 = .ok (.putfield 237, 3) := by decide +kernel
theorem dX12_regrets_10 : decode cX12_regrets 10 = .ok (.iconst 0, 1) := by decide +kernel
theorem dX12_regrets_11 : decode cX12_regrets 11 = .ok (.istore_n 2, 1) := by decide +kernel
theorem dX12_regrets_12 : decode cX12_regrets 12 = .ok (.iload_n 2, 1) := by decide +kernel
theorem dX12_regrets_13 : decode cX12_regrets 13 = .ok (.aload_n 0, 1) := by decide +kernel
theorem dX12_regrets_14 : decode cX12_regrets 14 = .ok (.getfield 198, 3) := by decide +kernel
theorem dX12_regrets_17 : decode cX12_regrets 17 = .ok (.if_icmp .ge 70, 3) := by decide +kernel
theorem dX12_regrets_20 : decode cX12_regrets 20 = .ok (.aload_n 0, 1) := by decide +kernel
theorem dX12_regrets_21 : decode cX12_regrets 21 = .ok (.iload_n 1, 1) := by decide +kernel
theorem dX12_regrets_22 : decode cX12_regrets 22 = .ok (.aload_n 0, 1) := by decide +kernel
theorem dX12_regrets_23 : decode cX12_regrets 23 = .ok (.getfield 66, 3) := by decide +kernel
theorem dX12_regrets_26 : decode cX12_regrets 26 = .ok (.iload_n 2, 1) := by decide +kernel
theorem dX12_regrets_27 : decode cX12_regrets 27 = .ok (.laload, 1) := by decide +kernel
theorem dX12_regrets_28 : decode cX12_regrets 28 = .ok (.aload_n 0, 1) := by decide +kernel
theorem dX12_regrets_29 : decode cX12_regrets 29 = .ok (.getfield 69, 3) := by decide +kernel
theorem dX12_regrets_32 : decode cX12_regrets 32 = .ok (.iload_n 2, 1) := by decide +kernel
theorem dX12_regrets_33 : decode cX12_regrets 33 = .ok (.laload, 1) := by decide +kernel
theorem dX12_regrets_34 : decode cX12_regrets 34 = .ok (.invokevirtual 184, 3) := by decide +kernel
theorem dX12_regrets_37 : decode cX12_regrets 37 = .ok (.aload_n 0, 1) := by decide +kernel
theorem dX12_regrets_38 : decode cX12_regrets 38 = .ok (.getfield 72, 3) := by decide +kernel
theorem dX12_regrets_41 : decode cX12_regrets 41 = .ok (.iload_n 2, 1) := by decide +kernel
theorem dX12_regrets_42 : decode cX12_regrets 42 = .ok (.laload, 1) := by decide +kernel
theorem dX12_regrets_43 : decode cX12_regrets 43 = .ok (.lsub, 1) := by decide +kernel
theorem dX12_regrets_44 : decode cX12_regrets 44 = .ok (.lstore_n 3, 1) := by decide +kernel
theorem dX12_regrets_45 : decode cX12_regrets 45 = .ok (.lload_n 3, 1) := by decide +kernel
theorem dX12_regrets_46 : decode cX12_regrets 46 = .ok (.aload_n 0, 1) := by decide +kernel
theorem dX12_regrets_47 : decode cX12_regrets 47 = .ok (.getfield 237, 3) := by decide +kernel
theorem dX12_regrets_50 : decode cX12_regrets 50 = .ok (.lmul, 1) := by decide +kernel
theorem dX12_regrets_51 : decode cX12_regrets 51 = .ok (.aload_n 0, 1) := by decide +kernel
theorem dX12_regrets_52 : decode cX12_regrets 52 = .ok (.getfield 234, 3) := by decide +kernel
theorem dX12_regrets_55 : decode cX12_regrets 55 = .ok (.aload_n 0, 1) := by decide +kernel
theorem dX12_regrets_56 : decode cX12_regrets 56 = .ok (.getfield 69, 3) := by decide +kernel
theorem dX12_regrets_59 : decode cX12_regrets 59 = .ok (.iload_n 2, 1) := by decide +kernel
theorem dX12_regrets_60 : decode cX12_regrets 60 = .ok (.laload, 1) := by decide +kernel
theorem dX12_regrets_61 : decode cX12_regrets 61 = .ok (.lmul, 1) := by decide +kernel
theorem dX12_regrets_62 : decode cX12_regrets 62 = .ok (.lcmp, 1) := by decide +kernel
theorem dX12_regrets_63 : decode cX12_regrets 63 = .ok (.ifCond .le 18, 3) := by decide +kernel
theorem dX12_regrets_66 : decode cX12_regrets 66 = .ok (.aload_n 0, 1) := by decide +kernel
theorem dX12_regrets_67 : decode cX12_regrets 67 = .ok (.lload_n 3, 1) := by decide +kernel
theorem dX12_regrets_68 : decode cX12_regrets 68 = .ok (.putfield 234, 3) := by decide +kernel
theorem dX12_regrets_71 : decode cX12_regrets 71 = .ok (.aload_n 0, 1) := by decide +kernel
theorem dX12_regrets_72 : decode cX12_regrets 72 = .ok (.aload_n 0, 1) := by decide +kernel
theorem dX12_regrets_73 : decode cX12_regrets 73 = .ok (.getfield 69, 3) := by decide +kernel
theorem dX12_regrets_76 : decode cX12_regrets 76 = .ok (.iload_n 2, 1) := by decide +kernel
theorem dX12_regrets_77 : decode cX12_regrets 77 = .ok (.laload, 1) := by decide +kernel
theorem dX12_regrets_78 : decode cX12_regrets 78 = .ok (.putfield 237, 3) := by decide +kernel
theorem dX12_regrets_81 : decode cX12_regrets 81 = .ok (.iinc 2 1, 3) := by decide +kernel
theorem dX12_regrets_84 : decode cX12_regrets 84 = .ok (.goto (-72), 3) := by decide +kernel
theorem dX12_regrets_87 : decode cX12_regrets 87 = .ok (.return_, 1) := by decide +kernel
theorem dX12_regret_0 : decode cX12_regret 0 = .ok (.aload_n 0, 1) := by decide +kernel
theorem dX12_regret_1 : decode cX12_regret 1 = .ok (.iload_n 1, 1) := by decide +kernel
theorem dX12_regret_2 : decode cX12_regret 2 = .ok (.invokevirtual 115, 3) := by decide +kernel
theorem dX12_regret_5 : decode cX12_regret 5 = .ok (.ifCond .eq 29, 3) := by decide +kernel
theorem dX12_regret_8 : decode cX12_regret 8 = .ok (.iload_n 3, 1) := by decide +kernel
theorem dX12_regret_9 : decode cX12_regret 9 = .ok (.iconst 0, 1) := by decide +kernel
theorem dX12_regret_10 : decode cX12_regret 10 = .ok (.iconst 1, 1) := by decide +kernel
theorem dX12_regret_11 : decode cX12_regret 11 = .ok (.invokestatic 85, 3) := by decide +kernel
theorem dX12_regret_14 : decode cX12_regret 14 = .ok (.ifCond .eq 20, 3) := by decide +kernel
theorem dX12_regret_17 : decode cX12_regret 17 = .ok (.aload_n 0, 1) := by decide +kernel
theorem dX12_regret_18 : decode cX12_regret 18 = .ok (.iload_n 1, 1) := by decide +kernel
theorem dX12_regret_19 : decode cX12_regret 19 = .ok (.invokevirtual 208, 3) := by decide +kernel
theorem dX12_regret_22 : decode cX12_regret 22 = .ok (.ifCond .eq 12, 3) := by decide +kernel
theorem dX12_regret_25 : decode cX12_regret 25 = .ok (.aload_n 0, 1) := by decide +kernel
theorem dX12_regret_26 : decode cX12_regret 26 = .ok (.iload_n 2, 1) := by decide +kernel
theorem dX12_regret_27 : decode cX12_regret 27 = .ok (.invokevirtual 228, 3) := by decide +kernel
theorem dX12_regret_30 : decode cX12_regret 30 = .ok (.iconst (-1), 1) := by decide +kernel
theorem dX12_regret_31 : decode cX12_regret 31 = .ok (.if_icmp .ne 7, 3) := by decide +kernel
theorem dX12_regret_34 : decode cX12_regret 34 = .ok (.ldc2_w 178, 3) := by decide +kernel
theorem dX12_regret_37 : decode cX12_regret 37 = .ok (.lreturn, 1) := by decide +kernel
theorem dX12_regret_38 : decode cX12_regret 38 = .ok (.aload_n 0, 1) := by decide +kernel
theorem dX12_regret_39 : decode cX12_regret 39 = .ok (.aload_n 0, 1) := by decide +kernel
theorem dX12_regret_40 : decode cX12_regret 40 = .ok (.iload_n 2, 1) := by decide +kernel
theorem dX12_regret_41 : decode cX12_regret 41 = .ok (.invokevirtual 228, 3) := by decide +kernel
theorem dX12_regret_44 : decode cX12_regret 44 = .ok (.invokevirtual 240, 3) := by decide +kernel
theorem dX12_regret_47 : decode cX12_regret 47 = .ok (.aload_n 0, 1) := by decide +kernel
theorem dX12_regret_48 : decode cX12_regret 48 = .ok (.getfield 234, 3) := by decide +kernel
theorem dX12_regret_51 : decode cX12_regret 51 = .ok (.aload_n 0, 1) := by decide +kernel
theorem dX12_regret_52 : decode cX12_regret 52 = .ok (.getfield 237, 3) := by decide +kernel
theorem dX12_regret_55 : decode cX12_regret 55 = .ok (.iload_n 3, 1) := by decide +kernel
theorem dX12_regret_56 : decode cX12_regret 56 = .ok (.invokestatic 180, 3) := by decide +kernel
theorem dX12_regret_59 : decode cX12_regret 59 = .ok (.lreturn, 1) := by decide +kernel
theorem dX12_calm_0 : decode cX12_calm 0 = .ok (.aload_n 0, 1) := by decide +kernel
theorem dX12_calm_1 : decode cX12_calm 1 = .ok (.iload_n 1, 1) := by decide +kernel
theorem dX12_calm_2 : decode cX12_calm 2 = .ok (.invokevirtual 115, 3) := by decide +kernel
theorem dX12_calm_5 : decode cX12_calm 5 = .ok (.ifCond .ne 6, 3) := by decide +kernel
theorem dX12_calm_8 : decode cX12_calm 8 = .ok (.bipush (-2), 2) := by decide +kernel
theorem dX12_calm_10 : decode cX12_calm 10 = .ok (.ireturn, 1) := by decide +kernel
theorem dX12_calm_11 : decode cX12_calm 11 = .ok (.aload_n 0, 1) := by decide +kernel
theorem dX12_calm_12 : decode cX12_calm 12 = .ok (.iload_n 1, 1) := by decide +kernel
theorem dX12_calm_13 : decode cX12_calm 13 = .ok (.invokevirtual 208, 3) := by decide +kernel
theorem dX12_calm_16 : decode cX12_calm 16 = .ok (.ifCond .ne 5, 3) := by decide +kernel
theorem dX12_calm_19 : decode cX12_calm 19 = .ok (.iconst (-1), 1) := by decide +kernel
theorem dX12_calm_20 : decode cX12_calm 20 = .ok (.ireturn, 1) := by decide +kernel
theorem dX12_calm_21 : decode cX12_calm 21 = .ok (.iconst (-1), 1) := by decide +kernel
theorem dX12_calm_22 : decode cX12_calm 22 = .ok (.istore_n 2, 1) := by decide +kernel
theorem dX12_calm_23 : decode cX12_calm 23 = .ok (.lconst 0, 1) := by decide +kernel
theorem dX12_calm_24 : decode cX12_calm 24 = .ok (.lstore_n 3, 1) := by decide +kernel
theorem dX12_calm_25 : decode cX12_calm 25 = .ok (.lconst 1, 1) := by decide +kernel
theorem dX12_calm_26 : decode cX12_calm 26 = .ok (.lstore 5, 2) := by decide +kernel
theorem dX12_calm_28 : decode cX12_calm 28 = .ok (.iconst 0, 1) := by decide +kernel
theorem dX12_calm_29 : decode cX12_calm 29 = .ok (.istore 7, 2) := by decide +kernel
theorem dX12_calm_31 : decode cX12_calm 31 = .ok (.iload 7, 2) := by decide +kernel
theorem dX12_calm_33 : decode cX12_calm 33 = .ok (.aload_n 0, 1) := by decide +kernel
theorem dX12_calm_34 : decode cX12_calm 34 = .ok (.getfield 198, 3) := by decide +kernel
theorem dX12_calm_37 : decode cX12_calm 37 = .ok (.iconst 1, 1) := by decide +kernel
theorem dX12_calm_38 : decode cX12_calm 38 = .ok (.isub, 1) := by decide +kernel
theorem dX12_calm_39 : decode cX12_calm 39 = .ok (.if_icmp .ge 91, 3) := by decide +kernel
theorem dX12_calm_42 : decode cX12_calm 42 = .ok (.aload_n 0, 1) := by decide +kernel
theorem dX12_calm_43 : decode cX12_calm 43 = .ok (.aload_n 0, 1) := by decide +kernel
theorem dX12_calm_44 : decode cX12_calm 44 = .ok (.getfield 66, 3) := by decide +kernel
theorem dX12_calm_47 : decode cX12_calm 47 = .ok (.iload 7, 2) := by decide +kernel
theorem dX12_calm_49 : decode cX12_calm 49 = .ok (.laload, 1) := by decide +kernel
theorem dX12_calm_50 : decode cX12_calm 50 = .ok (.aload_n 0, 1) := by decide +kernel
theorem dX12_calm_51 : decode cX12_calm 51 = .ok (.getfield 69, 3) := by decide +kernel
theorem dX12_calm_54 : decode cX12_calm 54 = .ok (.iload 7, 2) := by decide +kernel
theorem dX12_calm_56 : decode cX12_calm 56 = .ok (.laload, 1) := by decide +kernel
theorem dX12_calm_57 : decode cX12_calm 57 = .ok (.iconst 1, 1) := by decide +kernel
theorem dX12_calm_58 : decode cX12_calm 58 = .ok (.invokevirtual 191, 3) := by decide +kernel
theorem dX12_calm_61 : decode cX12_calm 61 = .ok (.istore 8, 2) := by decide +kernel
theorem dX12_calm_63 : decode cX12_calm 63 = .ok (.aload_n 0, 1) := by decide +kernel
theorem dX12_calm_64 : decode cX12_calm 64 = .ok (.iload 8, 2) := by decide +kernel
theorem dX12_calm_66 : decode cX12_calm 66 = .ok (.invokevirtual 240, 3) := by decide +kernel
theorem dX12_calm_69 : decode cX12_calm 69 = .ok (.aload_n 0, 1) := by decide +kernel
theorem dX12_calm_70 : decode cX12_calm 70 = .ok (.getfield 234, 3) := by decide +kernel
theorem dX12_calm_73 : decode cX12_calm 73 = .ok (.lload 5, 2) := by decide +kernel
theorem dX12_calm_75 : decode cX12_calm 75 = .ok (.lmul, 1) := by decide +kernel
theorem dX12_calm_76 : decode cX12_calm 76 = .ok (.lload_n 3, 1) := by decide +kernel
theorem dX12_calm_77 : decode cX12_calm 77 = .ok (.aload_n 0, 1) := by decide +kernel
theorem dX12_calm_78 : decode cX12_calm 78 = .ok (.getfield 237, 3) := by decide +kernel
theorem dX12_calm_81 : decode cX12_calm 81 = .ok (.lmul, 1) := by decide +kernel
theorem dX12_calm_82 : decode cX12_calm 82 = .ok (.lsub, 1) := by decide +kernel
theorem dX12_calm_83 : decode cX12_calm 83 = .ok (.lstore 9, 2) := by decide +kernel
theorem dX12_calm_85 : decode cX12_calm 85 = .ok (.iload_n 2, 1) := by decide +kernel
theorem dX12_calm_86 : decode cX12_calm 86 = .ok (.iconst (-1), 1) := by decide +kernel
theorem dX12_calm_87 : decode cX12_calm 87 = .ok (.if_icmp .eq 23, 3) := by decide +kernel
theorem dX12_calm_90 : decode cX12_calm 90 = .ok (.lload 9, 2) := by decide +kernel
theorem dX12_calm_92 : decode cX12_calm 92 = .ok (.lconst 0, 1) := by decide +kernel
theorem dX12_calm_93 : decode cX12_calm 93 = .ok (.lcmp, 1) := by decide +kernel
theorem dX12_calm_94 : decode cX12_calm 94 = .ok (.ifCond .lt 16, 3) := by decide +kernel
theorem dX12_calm_97 : decode cX12_calm 97 = .ok (.lload 9, 2) := by decide +kernel
theorem dX12_calm_99 : decode cX12_calm 99 = .ok (.lconst 0, 1) := by decide +kernel
theorem dX12_calm_100 : decode cX12_calm 100 = .ok (.lcmp, 1) := by decide +kernel
theorem dX12_calm_101 : decode cX12_calm 101 = .ok (.ifCond .ne 23, 3) := by decide +kernel
theorem dX12_calm_104 : decode cX12_calm 104 = .ok (.iload 8, 2) := by decide +kernel
theorem dX12_calm_106 : decode cX12_calm 106 = .ok (.iload_n 2, 1) := by decide +kernel
theorem dX12_calm_107 : decode cX12_calm 107 = .ok (.if_icmp .ge 17, 3) := by decide +kernel
theorem dX12_calm_110 : decode cX12_calm 110 = .ok (.iload 8, 2) := by decide +kernel
theorem dX12_calm_112 : decode cX12_calm 112 = .ok (.istore_n 2, 1) := by decide +kernel
theorem dX12_calm_113 : decode cX12_calm 113 = .ok (.aload_n 0, 1) := by decide +kernel
theorem dX12_calm_114 : decode cX12_calm 114 = .ok (.getfield 234, 3) := by decide +kernel
theorem dX12_calm_117 : decode cX12_calm 117 = .ok (.lstore_n 3, 1) := by decide +kernel
theorem dX12_calm_118 : decode cX12_calm 118 = .ok (.aload_n 0, 1) := by decide +kernel
theorem dX12_calm_119 : decode cX12_calm 119 = .ok (.getfield 237, 3) := by decide +kernel
theorem dX12_calm_122 : decode cX12_calm 122 = .ok (.lstore 5, 2) := by decide +kernel
theorem dX12_calm_124 : decode cX12_calm 124 = .ok (.iinc 7 1, 3) := by decide +kernel
theorem dX12_calm_127 : decode cX12_calm 127 = .ok (.goto (-96), 3) := by decide +kernel
theorem dX12_calm_130 : decode cX12_calm 130 = .ok (.aload_n 0, 1) := by decide +kernel
theorem dX12_calm_131 : decode cX12_calm 131 = .ok (.getfield 57, 3) := by decide +kernel
theorem dX12_calm_134 : decode cX12_calm 134 = .ok (.iload_n 2, 1) := by decide +kernel
theorem dX12_calm_135 : decode cX12_calm 135 = .ok (.iaload, 1) := by decide +kernel
theorem dX12_calm_136 : decode cX12_calm 136 = .ok (.ireturn, 1) := by decide +kernel
theorem dX12_lineCost_0 : decode cX12_lineCost 0 = .ok (.aload_n 0, 1) := by decide +kernel
theorem dX12_lineCost_1 : decode cX12_lineCost 1 = .ok (.getfield 7, 3) := by decide +kernel
theorem dX12_lineCost_4 : decode cX12_lineCost 4 = .ok (.iconst 4, 1) := by decide +kernel
theorem dX12_lineCost_5 : decode cX12_lineCost 5 = .ok (.iconst 4, 1) := by decide +kernel
theorem dX12_lineCost_6 : decode cX12_lineCost 6 = .ok (.iload_n 1, 1) := by decide +kernel
theorem dX12_lineCost_7 : decode cX12_lineCost 7 = .ok (.imul, 1) := by decide +kernel
theorem dX12_lineCost_8 : decode cX12_lineCost 8 = .ok (.iadd, 1) := by decide +kernel
theorem dX12_lineCost_9 : decode cX12_lineCost 9 = .ok (.iaload, 1) := by decide +kernel
theorem dX12_lineCost_10 : decode cX12_lineCost 10 = .ok (.i2l, 1) := by decide +kernel
theorem dX12_lineCost_11 : decode cX12_lineCost 11 = .ok (.iload_n 3, 1) := by decide +kernel
theorem dX12_lineCost_12 : decode cX12_lineCost 12 = .ok (.i2l, 1) := by decide +kernel
theorem dX12_lineCost_13 : decode cX12_lineCost 13 = .ok (.lmul, 1) := by decide +kernel
theorem dX12_lineCost_14 : decode cX12_lineCost 14 = .ok (.aload_n 0, 1) := by decide +kernel
theorem dX12_lineCost_15 : decode cX12_lineCost 15 = .ok (.getfield 7, 3) := by decide +kernel
theorem dX12_lineCost_18 : decode cX12_lineCost 18 = .ok (.iconst 5, 1) := by decide +kernel
theorem dX12_lineCost_19 : decode cX12_lineCost 19 = .ok (.iconst 4, 1) := by decide +kernel
theorem dX12_lineCost_20 : decode cX12_lineCost 20 = .ok (.iload_n 1, 1) := by decide +kernel
theorem dX12_lineCost_21 : decode cX12_lineCost 21 = .ok (.imul, 1) := by decide +kernel
theorem dX12_lineCost_22 : decode cX12_lineCost 22 = .ok (.iadd, 1) := by decide +kernel
theorem dX12_lineCost_23 : decode cX12_lineCost 23 = .ok (.iaload, 1) := by decide +kernel
theorem dX12_lineCost_24 : decode cX12_lineCost 24 = .ok (.i2l, 1) := by decide +kernel
theorem dX12_lineCost_25 : decode cX12_lineCost 25 = .ok (.iload_n 2, 1) := by decide +kernel
theorem dX12_lineCost_26 : decode cX12_lineCost 26 = .ok (.i2l, 1) := by decide +kernel
theorem dX12_lineCost_27 : decode cX12_lineCost 27 = .ok (.lmul, 1) := by decide +kernel
theorem dX12_lineCost_28 : decode cX12_lineCost 28 = .ok (.ladd, 1) := by decide +kernel
theorem dX12_lineCost_29 : decode cX12_lineCost 29 = .ok (.lreturn, 1) := by decide +kernel
theorem dX12_dearest_0 : decode cX12_dearest 0 = .ok (.iconst (-1), 1) := by decide +kernel
theorem dX12_dearest_1 : decode cX12_dearest 1 = .ok (.istore 5, 2) := by decide +kernel
theorem dX12_dearest_3 : decode cX12_dearest 3 = .ok (.iconst 0, 1) := by decide +kernel
theorem dX12_dearest_4 : decode cX12_dearest 4 = .ok (.istore 6, 2) := by decide +kernel
theorem dX12_dearest_6 : decode cX12_dearest 6 = .ok (.iload 6, 2) := by decide +kernel
theorem dX12_dearest_8 : decode cX12_dearest 8 = .ok (.aload_n 0, 1) := by decide +kernel
theorem dX12_dearest_9 : decode cX12_dearest 9 = .ok (.invokevirtual 78, 3) := by decide +kernel
theorem dX12_dearest_12 : decode cX12_dearest 12 = .ok (.if_icmp .ge 99, 3) := by decide +kernel
theorem dX12_dearest_15 : decode cX12_dearest 15 = .ok (.iload_n 1, 1) := by decide +kernel
theorem dX12_dearest_16 : decode cX12_dearest 16 = .ok (.iload 6, 2) := by decide +kernel
theorem dX12_dearest_18 : decode cX12_dearest 18 = .ok (.ishr, 1) := by decide +kernel
theorem dX12_dearest_19 : decode cX12_dearest 19 = .ok (.iconst 1, 1) := by decide +kernel
theorem dX12_dearest_20 : decode cX12_dearest 20 = .ok (.iand, 1) := by decide +kernel
theorem dX12_dearest_21 : decode cX12_dearest 21 = .ok (.iconst 1, 1) := by decide +kernel
theorem dX12_dearest_22 : decode cX12_dearest 22 = .ok (.if_icmp .ne 38, 3) := by decide +kernel
theorem dX12_dearest_25 : decode cX12_dearest 25 = .ok (.aload_n 0, 1) := by decide +kernel
theorem dX12_dearest_26 : decode cX12_dearest 26 = .ok (.iload_n 1, 1) := by decide +kernel
theorem dX12_dearest_27 : decode cX12_dearest 27 = .ok (.iconst 1, 1) := by decide +kernel
theorem dX12_dearest_28 : decode cX12_dearest 28 = .ok (.iload 6, 2) := by decide +kernel
theorem dX12_dearest_30 : decode cX12_dearest 30 = .ok (.ishl, 1) := by decide +kernel
theorem dX12_dearest_31 : decode cX12_dearest 31 = .ok (.iconst (-1), 1) := by decide +kernel
theorem dX12_dearest_32 : decode cX12_dearest 32 = .ok (.ixor, 1) := by decide +kernel
theorem dX12_dearest_33 : decode cX12_dearest 33 = .ok (.iand, 1) := by decide +kernel
theorem dX12_dearest_34 : decode cX12_dearest 34 = .ok (.iconst 1, 1) := by decide +kernel
theorem dX12_dearest_35 : decode cX12_dearest 35 = .ok (.aload_n 0, 1) := by decide +kernel
theorem dX12_dearest_36 : decode cX12_dearest 36 = .ok (.iload_n 2, 1) := by decide +kernel
theorem dX12_dearest_37 : decode cX12_dearest 37 = .ok (.invokevirtual 118, 3) := by decide +kernel
theorem dX12_dearest_40 : decode cX12_dearest 40 = .ok (.ishl, 1) := by decide +kernel
theorem dX12_dearest_41 : decode cX12_dearest 41 = .ok (.iconst 1, 1) := by decide +kernel
theorem dX12_dearest_42 : decode cX12_dearest 42 = .ok (.invokevirtual 128, 3) := by decide +kernel
theorem dX12_dearest_45 : decode cX12_dearest 45 = .ok (.aload_n 0, 1) := by decide +kernel
theorem dX12_dearest_46 : decode cX12_dearest 46 = .ok (.iload_n 2, 1) := by decide +kernel
theorem dX12_dearest_47 : decode cX12_dearest 47 = .ok (.invokevirtual 122, 3) := by decide +kernel
theorem dX12_dearest_50 : decode cX12_dearest 50 = .ok (.ishr, 1) := by decide +kernel
theorem dX12_dearest_51 : decode cX12_dearest 51 = .ok (.iconst 1, 1) := by decide +kernel
theorem dX12_dearest_52 : decode cX12_dearest 52 = .ok (.iand, 1) := by decide +kernel
theorem dX12_dearest_53 : decode cX12_dearest 53 = .ok (.ifCond .ne 7, 3) := by decide +kernel
theorem dX12_dearest_56 : decode cX12_dearest 56 = .ok (.iconst 1, 1) := by decide +kernel
theorem dX12_dearest_57 : decode cX12_dearest 57 = .ok (.goto 4, 3) := by decide +kernel
theorem dX12_dearest_60 : decode cX12_dearest 60 = .ok (.iconst 0, 1) := by decide +kernel
theorem dX12_dearest_61 : decode cX12_dearest 61 = .ok (.istore 7, 2) := by decide +kernel
theorem dX12_dearest_63 : decode cX12_dearest 63 = .ok (.iload 7, 2) := by decide +kernel
theorem dX12_dearest_65 : decode cX12_dearest 65 = .ok (.ifCond .eq 36, 3) := by decide +kernel
theorem dX12_dearest_68 : decode cX12_dearest 68 = .ok (.iload 5, 2) := by decide +kernel
theorem dX12_dearest_70 : decode cX12_dearest 70 = .ok (.iconst (-1), 1) := by decide +kernel
theorem dX12_dearest_71 : decode cX12_dearest 71 = .ok (.if_icmp .eq 25, 3) := by decide +kernel
theorem dX12_dearest_74 : decode cX12_dearest 74 = .ok (.aload_n 0, 1) := by decide +kernel
theorem dX12_dearest_75 : decode cX12_dearest 75 = .ok (.iload 6, 2) := by decide +kernel
theorem dX12_dearest_77 : decode cX12_dearest 77 = .ok (.iload_n 3, 1) := by decide +kernel
theorem dX12_dearest_78 : decode cX12_dearest 78 = .ok (.iload 4, 2) := by decide +kernel
theorem dX12_dearest_80 : decode cX12_dearest 80 = .ok (.invokevirtual 243, 3) := by decide +kernel
theorem dX12_dearest_83 : decode cX12_dearest 83 = .ok (.aload_n 0, 1) := by decide +kernel
theorem dX12_dearest_84 : decode cX12_dearest 84 = .ok (.iload 5, 2) := by decide +kernel
theorem dX12_dearest_86 : decode cX12_dearest 86 = .ok (.iload_n 3, 1) := by decide +kernel
theorem dX12_dearest_87 : decode cX12_dearest 87 = .ok (.iload 4, 2) := by decide +kernel
theorem dX12_dearest_89 : decode cX12_dearest 89 = .ok (.invokevirtual 243, 3) := by decide +kernel
theorem dX12_dearest_92 : decode cX12_dearest 92 = .ok (.lcmp, 1) := by decide +kernel
theorem dX12_dearest_93 : decode cX12_dearest 93 = .ok (.ifCond .le 8, 3) := by decide +kernel
theorem dX12_dearest_96 : decode cX12_dearest 96 = .ok (.iload 6, 2) := by decide +kernel
theorem dX12_dearest_98 : decode cX12_dearest 98 = .ok (.goto 5, 3) := by decide +kernel
theorem dX12_dearest_101 : decode cX12_dearest 101 = .ok (.iload 5, 2) := by decide +kernel
theorem dX12_dearest_103 : decode cX12_dearest 103 = .ok (.istore 5, 2) := by decide +kernel
theorem dX12_dearest_105 : decode cX12_dearest 105 = .ok (.iinc 6 1, 3) := by decide +kernel
theorem dX12_dearest_108 : decode cX12_dearest 108 = .ok (.goto (-102), 3) := by decide +kernel
theorem dX12_dearest_111 : decode cX12_dearest 111 = .ok (.iload 5, 2) := by decide +kernel
theorem dX12_dearest_113 : decode cX12_dearest 113 = .ok (.ireturn, 1) := by decide +kernel
theorem dX12_why_0 : decode cX12_why 0 = .ok (.aload_n 0, 1) := by decide +kernel
theorem dX12_why_1 : decode cX12_why 1 = .ok (.iload_n 1, 1) := by decide +kernel
theorem dX12_why_2 : decode cX12_why 2 = .ok (.invokevirtual 115, 3) := by decide +kernel
theorem dX12_why_5 : decode cX12_why 5 = .ok (.ifCond .eq 31, 3) := by decide +kernel
theorem dX12_why_8 : decode cX12_why 8 = .ok (.aload_n 0, 1) := by decide +kernel
theorem dX12_why_9 : decode cX12_why 9 = .ok (.getfield 16, 3) := by decide +kernel
theorem dX12_why_12 : decode cX12_why 12 = .ok (.iload_n 1, 1) := by decide +kernel
theorem dX12_why_13 : decode cX12_why 13 = .ok (.iaload, 1) := by decide +kernel
theorem dX12_why_14 : decode cX12_why 14 = .ok (.iconst 1, 1) := by decide +kernel
theorem dX12_why_15 : decode cX12_why 15 = .ok (.if_icmp .ne 21, 3) := by decide +kernel
theorem dX12_why_18 : decode cX12_why 18 = .ok (.aload_n 0, 1) := by decide +kernel
theorem dX12_why_19 : decode cX12_why 19 = .ok (.iload_n 1, 1) := by decide +kernel
theorem dX12_why_20 : decode cX12_why 20 = .ok (.iload_n 2, 1) := by decide +kernel
theorem dX12_why_21 : decode cX12_why 21 = .ok (.invokevirtual 156, 3) := by decide +kernel
theorem dX12_why_24 : decode cX12_why 24 = .ok (.ifCond .eq 12, 3) := by decide +kernel
theorem dX12_why_27 : decode cX12_why 27 = .ok (.iload_n 3, 1) := by decide +kernel
theorem dX12_why_28 : decode cX12_why 28 = .ok (.iload 4, 2) := by decide +kernel
theorem dX12_why_30 : decode cX12_why 30 = .ok (.invokestatic 175, 3) := by decide +kernel
theorem dX12_why_33 : decode cX12_why 33 = .ok (.ifCond .ne 6, 3) := by decide +kernel
theorem dX12_why_36 : decode cX12_why 36 = .ok (.bipush (-2), 2) := by decide +kernel
theorem dX12_why_38 : decode cX12_why 38 = .ok (.ireturn, 1) := by decide +kernel
theorem dX12_why_39 : decode cX12_why 39 = .ok (.iconst 0, 1) := by decide +kernel
theorem dX12_why_40 : decode cX12_why 40 = .ok (.istore 5, 2) := by decide +kernel
theorem dX12_why_42 : decode cX12_why 42 = .ok (.iload 5, 2) := by decide +kernel
theorem dX12_why_44 : decode cX12_why 44 = .ok (.aload_n 0, 1) := by decide +kernel
theorem dX12_why_45 : decode cX12_why 45 = .ok (.invokevirtual 78, 3) := by decide +kernel
theorem dX12_why_48 : decode cX12_why 48 = .ok (.if_icmp .ge 61, 3) := by decide +kernel
theorem dX12_why_51 : decode cX12_why 51 = .ok (.iload_n 2, 1) := by decide +kernel
theorem dX12_why_52 : decode cX12_why 52 = .ok (.iload 5, 2) := by decide +kernel
theorem dX12_why_54 : decode cX12_why 54 = .ok (.ishr, 1) := by decide +kernel
theorem dX12_why_55 : decode cX12_why 55 = .ok (.iconst 1, 1) := by decide +kernel
theorem dX12_why_56 : decode cX12_why 56 = .ok (.iand, 1) := by decide +kernel
theorem dX12_why_57 : decode cX12_why 57 = .ok (.ifCond .ne 46, 3) := by decide +kernel
theorem dX12_why_60 : decode cX12_why 60 = .ok (.aload_n 0, 1) := by decide +kernel
theorem dX12_why_61 : decode cX12_why 61 = .ok (.iload_n 2, 1) := by decide +kernel
theorem dX12_why_62 : decode cX12_why 62 = .ok (.iload 5, 2) := by decide +kernel
theorem dX12_why_64 : decode cX12_why 64 = .ok (.iload_n 3, 1) := by decide +kernel
theorem dX12_why_65 : decode cX12_why 65 = .ok (.iload 4, 2) := by decide +kernel
theorem dX12_why_67 : decode cX12_why 67 = .ok (.invokevirtual 247, 3) := by decide +kernel
theorem dX12_why_70 : decode cX12_why 70 = .ok (.istore 6, 2) := by decide +kernel
theorem dX12_why_72 : decode cX12_why 72 = .ok (.aload_n 0, 1) := by decide +kernel
theorem dX12_why_73 : decode cX12_why 73 = .ok (.iload 5, 2) := by decide +kernel
theorem dX12_why_75 : decode cX12_why 75 = .ok (.iload_n 3, 1) := by decide +kernel
theorem dX12_why_76 : decode cX12_why 76 = .ok (.iload 4, 2) := by decide +kernel
theorem dX12_why_78 : decode cX12_why 78 = .ok (.invokevirtual 243, 3) := by decide +kernel
theorem dX12_why_81 : decode cX12_why 81 = .ok (.aload_n 0, 1) := by decide +kernel
theorem dX12_why_82 : decode cX12_why 82 = .ok (.iload 6, 2) := by decide +kernel
theorem dX12_why_84 : decode cX12_why 84 = .ok (.iload_n 3, 1) := by decide +kernel
theorem dX12_why_85 : decode cX12_why 85 = .ok (.iload 4, 2) := by decide +kernel
theorem dX12_why_87 : decode cX12_why 87 = .ok (.invokevirtual 243, 3) := by decide +kernel
theorem dX12_why_90 : decode cX12_why 90 = .ok (.lcmp, 1) := by decide +kernel
theorem dX12_why_91 : decode cX12_why 91 = .ok (.ifCond .ge 12, 3) := by decide +kernel
theorem dX12_why_94 : decode cX12_why 94 = .ok (.bipush 12, 2) := by decide +kernel
theorem dX12_why_96 : decode cX12_why 96 = .ok (.iload 5, 2) := by decide +kernel
theorem dX12_why_98 : decode cX12_why 98 = .ok (.imul, 1) := by decide +kernel
theorem dX12_why_99 : decode cX12_why 99 = .ok (.iload 6, 2) := by decide +kernel
theorem dX12_why_101 : decode cX12_why 101 = .ok (.iadd, 1) := by decide +kernel
theorem dX12_why_102 : decode cX12_why 102 = .ok (.ireturn, 1) := by decide +kernel
theorem dX12_why_103 : decode cX12_why 103 = .ok (.iinc 5 1, 3) := by decide +kernel
theorem dX12_why_106 : decode cX12_why 106 = .ok (.goto (-64), 3) := by decide +kernel
theorem dX12_why_109 : decode cX12_why 109 = .ok (.iconst (-1), 1) := by decide +kernel
theorem dX12_why_110 : decode cX12_why 110 = .ok (.ireturn, 1) := by decide +kernel
theorem dX12_write_0 : decode cX12_write 0 = .ok (.aload_n 0, 1) := by decide +kernel
theorem dX12_write_1 : decode cX12_write 1 = .ok (.iload_n 1, 1) := by decide +kernel
theorem dX12_write_2 : decode cX12_write 2 = .ok (.invokevirtual 115, 3) := by decide +kernel
theorem dX12_write_5 : decode cX12_write 5 = .ok (.ifCond .ne 6, 3) := by decide +kernel
theorem dX12_write_8 : decode cX12_write 8 = .ok (.bipush (-2), 2) := by decide +kernel
theorem dX12_write_10 : decode cX12_write 10 = .ok (.ireturn, 1) := by decide +kernel
theorem dX12_write_11 : decode cX12_write 11 = .ok (.aload_n 0, 1) := by decide +kernel
theorem dX12_write_12 : decode cX12_write 12 = .ok (.aload_n 0, 1) := by decide +kernel
theorem dX12_write_13 : decode cX12_write 13 = .ok (.iload_n 1, 1) := by decide +kernel
theorem dX12_write_14 : decode cX12_write 14 = .ok (.invokevirtual 208, 3) := by decide +kernel
theorem dX12_write_17 : decode cX12_write 17 = .ok (.ifCond .eq 12, 3) := by decide +kernel
theorem dX12_write_20 : decode cX12_write 20 = .ok (.aload_n 0, 1) := by decide +kernel
theorem dX12_write_21 : decode cX12_write 21 = .ok (.getfield 198, 3) := by decide +kernel
theorem dX12_write_24 : decode cX12_write 24 = .ok (.iconst 2, 1) := by decide +kernel
theorem dX12_write_25 : decode cX12_write 25 = .ok (.isub, 1) := by decide +kernel
theorem dX12_write_26 : decode cX12_write 26 = .ok (.goto 4, 3) := by decide +kernel
theorem dX12_write_29 : decode cX12_write 29 = .ok (.iconst 0, 1) := by decide +kernel
theorem dX12_write_30 : decode cX12_write 30 = .ok (.putfield 251, 3) := by decide +kernel
theorem dX12_write_33 : decode cX12_write 33 = .ok (.iconst 0, 1) := by decide +kernel
theorem dX12_write_34 : decode cX12_write 34 = .ok (.istore_n 2, 1) := by decide +kernel
theorem dX12_write_35 : decode cX12_write 35 = .ok (.iload_n 2, 1) := by decide +kernel
theorem dX12_write_36 : decode cX12_write 36 = .ok (.aload_n 0, 1) := by decide +kernel
theorem dX12_write_37 : decode cX12_write 37 = .ok (.getfield 251, 3) := by decide +kernel
theorem dX12_write_40 : decode cX12_write 40 = .ok (.if_icmp .ge 38, 3) := by decide +kernel
theorem dX12_write_43 : decode cX12_write 43 = .ok (.iconst 0, 1) := by decide +kernel
theorem dX12_write_44 : decode cX12_write 44 = .ok (.istore_n 3, 1) := by decide +kernel
theorem dX12_write_45 : decode cX12_write 45 = .ok (.iload_n 3, 1) := by decide +kernel
theorem dX12_write_46 : decode cX12_write 46 = .ok (.iconst 4, 1) := by decide +kernel
theorem dX12_write_47 : decode cX12_write 47 = .ok (.if_icmp .ge 25, 3) := by decide +kernel
theorem dX12_write_50 : decode cX12_write 50 = .ok (.aload_n 0, 1) := by decide +kernel
theorem dX12_write_51 : decode cX12_write 51 = .ok (.getfield 41, 3) := by decide +kernel
theorem dX12_write_54 : decode cX12_write 54 = .ok (.iconst 4, 1) := by decide +kernel
theorem dX12_write_55 : decode cX12_write 55 = .ok (.iload_n 2, 1) := by decide +kernel
theorem dX12_write_56 : decode cX12_write 56 = .ok (.imul, 1) := by decide +kernel
theorem dX12_write_57 : decode cX12_write 57 = .ok (.iload_n 3, 1) := by decide +kernel
theorem dX12_write_58 : decode cX12_write 58 = .ok (.iadd, 1) := by decide +kernel
theorem dX12_write_59 : decode cX12_write 59 = .ok (.aload_n 0, 1) := by decide +kernel
theorem dX12_write_60 : decode cX12_write 60 = .ok (.iload_n 2, 1) := by decide +kernel
theorem dX12_write_61 : decode cX12_write 61 = .ok (.iload_n 3, 1) := by decide +kernel
theorem dX12_write_62 : decode cX12_write 62 = .ok (.invokevirtual 211, 3) := by decide +kernel
theorem dX12_write_65 : decode cX12_write 65 = .ok (.lastore, 1) := by decide +kernel
theorem dX12_write_66 : decode cX12_write 66 = .ok (.iinc 3 1, 3) := by decide +kernel
theorem dX12_write_69 : decode cX12_write 69 = .ok (.goto (-24), 3) := by decide +kernel
theorem dX12_write_72 : decode cX12_write 72 = .ok (.iinc 2 1, 3) := by decide +kernel
theorem dX12_write_75 : decode cX12_write 75 = .ok (.goto (-40), 3) := by decide +kernel
theorem dX12_write_78 : decode cX12_write 78 = .ok (.aload_n 0, 1) := by decide +kernel
theorem dX12_write_79 : decode cX12_write 79 = .ok (.getfield 251, 3) := by decide +kernel
theorem dX12_write_82 : decode cX12_write 82 = .ok (.ireturn, 1) := by decide +kernel
theorem dX12_row_0 : decode cX12_row 0 = .ok (.iload_n 1, 1) := by decide +kernel
theorem dX12_row_1 : decode cX12_row 1 = .ok (.iconst 0, 1) := by decide +kernel
theorem dX12_row_2 : decode cX12_row 2 = .ok (.aload_n 0, 1) := by decide +kernel
theorem dX12_row_3 : decode cX12_row 3 = .ok (.getfield 251, 3) := by decide +kernel
theorem dX12_row_6 : decode cX12_row 6 = .ok (.iconst 1, 1) := by decide +kernel
theorem dX12_row_7 : decode cX12_row 7 = .ok (.isub, 1) := by decide +kernel
theorem dX12_row_8 : decode cX12_row 8 = .ok (.invokestatic 85, 3) := by decide +kernel
theorem dX12_row_11 : decode cX12_row 11 = .ok (.ifCond .eq 25, 3) := by decide +kernel
theorem dX12_row_14 : decode cX12_row 14 = .ok (.iload_n 2, 1) := by decide +kernel
theorem dX12_row_15 : decode cX12_row 15 = .ok (.iconst 0, 1) := by decide +kernel
theorem dX12_row_16 : decode cX12_row 16 = .ok (.iconst 3, 1) := by decide +kernel
theorem dX12_row_17 : decode cX12_row 17 = .ok (.invokestatic 85, 3) := by decide +kernel
theorem dX12_row_20 : decode cX12_row 20 = .ok (.ifCond .eq 16, 3) := by decide +kernel
theorem dX12_row_23 : decode cX12_row 23 = .ok (.aload_n 0, 1) := by decide +kernel
theorem dX12_row_24 : decode cX12_row 24 = .ok (.getfield 41, 3) := by decide +kernel
theorem dX12_row_27 : decode cX12_row 27 = .ok (.iconst 4, 1) := by decide +kernel
theorem dX12_row_28 : decode cX12_row 28 = .ok (.iload_n 1, 1) := by decide +kernel
theorem dX12_row_29 : decode cX12_row 29 = .ok (.imul, 1) := by decide +kernel
theorem dX12_row_30 : decode cX12_row 30 = .ok (.iload_n 2, 1) := by decide +kernel
theorem dX12_row_31 : decode cX12_row 31 = .ok (.iadd, 1) := by decide +kernel
theorem dX12_row_32 : decode cX12_row 32 = .ok (.laload, 1) := by decide +kernel
theorem dX12_row_33 : decode cX12_row 33 = .ok (.goto 6, 3) := by decide +kernel
theorem dX12_row_36 : decode cX12_row 36 = .ok (.ldc2_w 178, 3) := by decide +kernel
theorem dX12_row_39 : decode cX12_row 39 = .ok (.lreturn, 1) := by decide +kernel
theorem dX12_forge_0 : decode cX12_forge 0 = .ok (.iload_n 1, 1) := by decide +kernel
theorem dX12_forge_1 : decode cX12_forge 1 = .ok (.iconst 0, 1) := by decide +kernel
theorem dX12_forge_2 : decode cX12_forge 2 = .ok (.aload_n 0, 1) := by decide +kernel
theorem dX12_forge_3 : decode cX12_forge 3 = .ok (.getfield 251, 3) := by decide +kernel
theorem dX12_forge_6 : decode cX12_forge 6 = .ok (.iconst 1, 1) := by decide +kernel
theorem dX12_forge_7 : decode cX12_forge 7 = .ok (.isub, 1) := by decide +kernel
theorem dX12_forge_8 : decode cX12_forge 8 = .ok (.invokestatic 85, 3) := by decide +kernel
theorem dX12_forge_11 : decode cX12_forge 11 = .ok (.ifCond .eq 23, 3) := by decide +kernel
theorem dX12_forge_14 : decode cX12_forge 14 = .ok (.iload_n 2, 1) := by decide +kernel
theorem dX12_forge_15 : decode cX12_forge 15 = .ok (.iconst 0, 1) := by decide +kernel
theorem dX12_forge_16 : decode cX12_forge 16 = .ok (.iconst 3, 1) := by decide +kernel
theorem dX12_forge_17 : decode cX12_forge 17 = .ok (.invokestatic 85, 3) := by decide +kernel
theorem dX12_forge_20 : decode cX12_forge 20 = .ok (.ifCond .eq 14, 3) := by decide +kernel
theorem dX12_forge_23 : decode cX12_forge 23 = .ok (.iload_n 3, 1) := by decide +kernel
theorem dX12_forge_24 : decode cX12_forge 24 = .ok (.ldc 254, 2) := by decide +kernel
theorem dX12_forge_26 : decode cX12_forge 26 = .ok (.ldc 255, 2) := by decide +kernel
theorem dX12_forge_28 : decode cX12_forge 28 = .ok (.invokestatic 85, 3) := by decide +kernel
theorem dX12_forge_31 : decode cX12_forge 31 = .ok (.ifCond .ne 6, 3) := by decide +kernel
theorem dX12_forge_34 : decode cX12_forge 34 = .ok (.bipush (-2), 2) := by decide +kernel
theorem dX12_forge_36 : decode cX12_forge 36 = .ok (.ireturn, 1) := by decide +kernel
theorem dX12_forge_37 : decode cX12_forge 37 = .ok (.aload_n 0, 1) := by decide +kernel
theorem dX12_forge_38 : decode cX12_forge 38 = .ok (.getfield 41, 3) := by decide +kernel
theorem dX12_forge_41 : decode cX12_forge 41 = .ok (.iconst 4, 1) := by decide +kernel
theorem dX12_forge_42 : decode cX12_forge 42 = .ok (.iload_n 1, 1) := by decide +kernel
theorem dX12_forge_43 : decode cX12_forge 43 = .ok (.imul, 1) := by decide +kernel
theorem dX12_forge_44 : decode cX12_forge 44 = .ok (.iload_n 2, 1) := by decide +kernel
theorem dX12_forge_45 : decode cX12_forge 45 = .ok (.iadd, 1) := by decide +kernel
theorem dX12_forge_46 : decode cX12_forge 46 = .ok (.iload_n 3, 1) := by decide +kernel
theorem dX12_forge_47 : decode cX12_forge 47 = .ok (.i2l, 1) := by decide +kernel
theorem dX12_forge_48 : decode cX12_forge 48 = .ok (.lastore, 1) := by decide +kernel
theorem dX12_forge_49 : decode cX12_forge 49 = .ok (.iconst 1, 1) := by decide +kernel
theorem dX12_forge_50 : decode cX12_forge 50 = .ok (.ireturn, 1) := by decide +kernel
theorem dX12_wrong_0 : decode cX12_wrong 0 = .ok (.aload_n 0, 1) := by decide +kernel
theorem dX12_wrong_1 : decode cX12_wrong 1 = .ok (.getfield 41, 3) := by decide +kernel
theorem dX12_wrong_4 : decode cX12_wrong 4 = .ok (.iconst 4, 1) := by decide +kernel
theorem dX12_wrong_5 : decode cX12_wrong 5 = .ok (.iload_n 1, 1) := by decide +kernel
theorem dX12_wrong_6 : decode cX12_wrong 6 = .ok (.imul, 1) := by decide +kernel
theorem dX12_wrong_7 : decode cX12_wrong 7 = .ok (.laload, 1) := by decide +kernel
theorem dX12_wrong_8 : decode cX12_wrong 8 = .ok (.lstore_n 2, 1) := by decide +kernel
theorem dX12_wrong_9 : decode cX12_wrong 9 = .ok (.aload_n 0, 1) := by decide +kernel
theorem dX12_wrong_10 : decode cX12_wrong 10 = .ok (.getfield 41, 3) := by decide +kernel
theorem dX12_wrong_13 : decode cX12_wrong 13 = .ok (.iconst 4, 1) := by decide +kernel
theorem dX12_wrong_14 : decode cX12_wrong 14 = .ok (.iload_n 1, 1) := by decide +kernel
theorem dX12_wrong_15 : decode cX12_wrong 15 = .ok (.imul, 1) := by decide +kernel
theorem dX12_wrong_16 : decode cX12_wrong 16 = .ok (.iconst 1, 1) := by decide +kernel
theorem dX12_wrong_17 : decode cX12_wrong 17 = .ok (.iadd, 1) := by decide +kernel
theorem dX12_wrong_18 : decode cX12_wrong 18 = .ok (.laload, 1) := by decide +kernel
theorem dX12_wrong_19 : decode cX12_wrong 19 = .ok (.lstore 4, 2) := by decide +kernel
theorem dX12_wrong_21 : decode cX12_wrong 21 = .ok (.lload_n 2, 1) := by decide +kernel
theorem dX12_wrong_22 : decode cX12_wrong 22 = .ok (.ldc2_w 256, 3) := by decide +kernel
theorem dX12_wrong_25 : decode cX12_wrong 25 = .ok (.lcmp, 1) := by decide +kernel
theorem dX12_wrong_26 : decode cX12_wrong 26 = .ok (.ifCond .lt 31, 3) := by decide +kernel
theorem dX12_wrong_29 : decode cX12_wrong 29 = .ok (.lload_n 2, 1) := by decide +kernel
theorem dX12_wrong_30 : decode cX12_wrong 30 = .ok (.ldc2_w 258, 3) := by decide +kernel
theorem dX12_wrong_33 : decode cX12_wrong 33 = .ok (.lcmp, 1) := by decide +kernel
theorem dX12_wrong_34 : decode cX12_wrong 34 = .ok (.ifCond .gt 23, 3) := by decide +kernel
theorem dX12_wrong_37 : decode cX12_wrong 37 = .ok (.lload 4, 2) := by decide +kernel
theorem dX12_wrong_39 : decode cX12_wrong 39 = .ok (.lconst 1, 1) := by decide +kernel
theorem dX12_wrong_40 : decode cX12_wrong 40 = .ok (.lcmp, 1) := by decide +kernel
theorem dX12_wrong_41 : decode cX12_wrong 41 = .ok (.ifCond .lt 16, 3) := by decide +kernel
theorem dX12_wrong_44 : decode cX12_wrong 44 = .ok (.lload 4, 2) := by decide +kernel
theorem dX12_wrong_46 : decode cX12_wrong 46 = .ok (.ldc2_w 260, 3) := by decide +kernel
theorem dX12_wrong_49 : decode cX12_wrong 49 = .ok (.lcmp, 1) := by decide +kernel
theorem dX12_wrong_50 : decode cX12_wrong 50 = .ok (.ifCond .gt 7, 3) := by decide +kernel
theorem dX12_wrong_53 : decode cX12_wrong 53 = .ok (.iconst 1, 1) := by decide +kernel
theorem dX12_wrong_54 : decode cX12_wrong 54 = .ok (.goto 4, 3) := by decide +kernel
theorem dX12_wrong_57 : decode cX12_wrong 57 = .ok (.iconst 0, 1) := by decide +kernel
theorem dX12_wrong_58 : decode cX12_wrong 58 = .ok (.istore 6, 2) := by decide +kernel
theorem dX12_wrong_60 : decode cX12_wrong 60 = .ok (.iload 6, 2) := by decide +kernel
theorem dX12_wrong_62 : decode cX12_wrong 62 = .ok (.ifCond .eq 52, 3) := by decide +kernel
theorem dX12_wrong_65 : decode cX12_wrong 65 = .ok (.lload_n 2, 1) := by decide +kernel
theorem dX12_wrong_66 : decode cX12_wrong 66 = .ok (.lload 4, 2) := by decide +kernel
theorem dX12_wrong_68 : decode cX12_wrong 68 = .ok (.invokestatic 92, 3) := by decide +kernel
theorem dX12_wrong_71 : decode cX12_wrong 71 = .ok (.lconst 1, 1) := by decide +kernel
theorem dX12_wrong_72 : decode cX12_wrong 72 = .ok (.lcmp, 1) := by decide +kernel
theorem dX12_wrong_73 : decode cX12_wrong 73 = .ok (.ifCond .ne 41, 3) := by decide +kernel
theorem dX12_wrong_76 : decode cX12_wrong 76 = .ok (.lload_n 2, 1) := by decide +kernel
theorem dX12_wrong_77 : decode cX12_wrong 77 = .ok (.aload_n 0, 1) := by decide +kernel
theorem dX12_wrong_78 : decode cX12_wrong 78 = .ok (.getfield 31, 3) := by decide +kernel
theorem dX12_wrong_81 : decode cX12_wrong 81 = .ok (.i2l, 1) := by decide +kernel
theorem dX12_wrong_82 : decode cX12_wrong 82 = .ok (.lmul, 1) := by decide +kernel
theorem dX12_wrong_83 : decode cX12_wrong 83 = .ok (.aload_n 0, 1) := by decide +kernel
theorem dX12_wrong_84 : decode cX12_wrong 84 = .ok (.getfield 195, 3) := by decide +kernel
theorem dX12_wrong_87 : decode cX12_wrong 87 = .ok (.i2l, 1) := by decide +kernel
theorem dX12_wrong_88 : decode cX12_wrong 88 = .ok (.lload 4, 2) := by decide +kernel
theorem dX12_wrong_90 : decode cX12_wrong 90 = .ok (.lmul, 1) := by decide +kernel
theorem dX12_wrong_91 : decode cX12_wrong 91 = .ok (.lcmp, 1) := by decide +kernel
theorem dX12_wrong_92 : decode cX12_wrong 92 = .ok (.ifCond .le 22, 3) := by decide +kernel
theorem dX12_wrong_95 : decode cX12_wrong 95 = .ok (.lload_n 2, 1) := by decide +kernel
theorem dX12_wrong_96 : decode cX12_wrong 96 = .ok (.aload_n 0, 1) := by decide +kernel
theorem dX12_wrong_97 : decode cX12_wrong 97 = .ok (.getfield 38, 3) := by decide +kernel
theorem dX12_wrong_100 : decode cX12_wrong 100 = .ok (.i2l, 1) := by decide +kernel
theorem dX12_wrong_101 : decode cX12_wrong 101 = .ok (.lmul, 1) := by decide +kernel
theorem dX12_wrong_102 : decode cX12_wrong 102 = .ok (.aload_n 0, 1) := by decide +kernel
theorem dX12_wrong_103 : decode cX12_wrong 103 = .ok (.getfield 35, 3) := by decide +kernel
theorem dX12_wrong_106 : decode cX12_wrong 106 = .ok (.i2l, 1) := by decide +kernel
theorem dX12_wrong_107 : decode cX12_wrong 107 = .ok (.lload 4, 2) := by decide +kernel
theorem dX12_wrong_109 : decode cX12_wrong 109 = .ok (.lmul, 1) := by decide +kernel
theorem dX12_wrong_110 : decode cX12_wrong 110 = .ok (.lcmp, 1) := by decide +kernel
theorem dX12_wrong_111 : decode cX12_wrong 111 = .ok (.ifCond .lt 5, 3) := by decide +kernel
theorem dX12_wrong_114 : decode cX12_wrong 114 = .ok (.iconst 1, 1) := by decide +kernel
theorem dX12_wrong_115 : decode cX12_wrong 115 = .ok (.ireturn, 1) := by decide +kernel
theorem dX12_wrong_116 : decode cX12_wrong 116 = .ok (.iload_n 1, 1) := by decide +kernel
theorem dX12_wrong_117 : decode cX12_wrong 117 = .ok (.ifCond .le 34, 3) := by decide +kernel
theorem dX12_wrong_120 : decode cX12_wrong 120 = .ok (.lload_n 2, 1) := by decide +kernel
theorem dX12_wrong_121 : decode cX12_wrong 121 = .ok (.aload_n 0, 1) := by decide +kernel
theorem dX12_wrong_122 : decode cX12_wrong 122 = .ok (.getfield 41, 3) := by decide +kernel
theorem dX12_wrong_125 : decode cX12_wrong 125 = .ok (.iconst 4, 1) := by decide +kernel
theorem dX12_wrong_126 : decode cX12_wrong 126 = .ok (.iload_n 1, 1) := by decide +kernel
theorem dX12_wrong_127 : decode cX12_wrong 127 = .ok (.imul, 1) := by decide +kernel
theorem dX12_wrong_128 : decode cX12_wrong 128 = .ok (.iconst 3, 1) := by decide +kernel
theorem dX12_wrong_129 : decode cX12_wrong 129 = .ok (.isub, 1) := by decide +kernel
theorem dX12_wrong_130 : decode cX12_wrong 130 = .ok (.laload, 1) := by decide +kernel
theorem dX12_wrong_131 : decode cX12_wrong 131 = .ok (.lmul, 1) := by decide +kernel
theorem dX12_wrong_132 : decode cX12_wrong 132 = .ok (.aload_n 0, 1) := by decide +kernel
theorem dX12_wrong_133 : decode cX12_wrong 133 = .ok (.getfield 41, 3) := by decide +kernel
theorem dX12_wrong_136 : decode cX12_wrong 136 = .ok (.iconst 4, 1) := by decide +kernel
theorem dX12_wrong_137 : decode cX12_wrong 137 = .ok (.iload_n 1, 1) := by decide +kernel
theorem dX12_wrong_138 : decode cX12_wrong 138 = .ok (.imul, 1) := by decide +kernel
theorem dX12_wrong_139 : decode cX12_wrong 139 = .ok (.iconst 4, 1) := by decide +kernel
theorem dX12_wrong_140 : decode cX12_wrong 140 = .ok (.isub, 1) := by decide +kernel
theorem dX12_wrong_141 : decode cX12_wrong 141 = .ok (.laload, 1) := by decide +kernel
theorem dX12_wrong_142 : decode cX12_wrong 142 = .ok (.lload 4, 2) := by decide +kernel
theorem dX12_wrong_144 : decode cX12_wrong 144 = .ok (.lmul, 1) := by decide +kernel
theorem dX12_wrong_145 : decode cX12_wrong 145 = .ok (.lcmp, 1) := by decide +kernel
theorem dX12_wrong_146 : decode cX12_wrong 146 = .ok (.ifCond .gt 5, 3) := by decide +kernel
theorem dX12_wrong_149 : decode cX12_wrong 149 = .ok (.iconst 2, 1) := by decide +kernel
theorem dX12_wrong_150 : decode cX12_wrong 150 = .ok (.ireturn, 1) := by decide +kernel
theorem dX12_wrong_151 : decode cX12_wrong 151 = .ok (.aload_n 0, 1) := by decide +kernel
theorem dX12_wrong_152 : decode cX12_wrong 152 = .ok (.aload_n 0, 1) := by decide +kernel
theorem dX12_wrong_153 : decode cX12_wrong 153 = .ok (.getfield 41, 3) := by decide +kernel
theorem dX12_wrong_156 : decode cX12_wrong 156 = .ok (.iconst 4, 1) := by decide +kernel
theorem dX12_wrong_157 : decode cX12_wrong 157 = .ok (.iload_n 1, 1) := by decide +kernel
theorem dX12_wrong_158 : decode cX12_wrong 158 = .ok (.imul, 1) := by decide +kernel
theorem dX12_wrong_159 : decode cX12_wrong 159 = .ok (.iconst 2, 1) := by decide +kernel
theorem dX12_wrong_160 : decode cX12_wrong 160 = .ok (.iadd, 1) := by decide +kernel
theorem dX12_wrong_161 : decode cX12_wrong 161 = .ok (.laload, 1) := by decide +kernel
theorem dX12_wrong_162 : decode cX12_wrong 162 = .ok (.l2i, 1) := by decide +kernel
theorem dX12_wrong_163 : decode cX12_wrong 163 = .ok (.invokevirtual 228, 3) := by decide +kernel
theorem dX12_wrong_166 : decode cX12_wrong 166 = .ok (.istore 7, 2) := by decide +kernel
theorem dX12_wrong_168 : decode cX12_wrong 168 = .ok (.aload_n 0, 1) := by decide +kernel
theorem dX12_wrong_169 : decode cX12_wrong 169 = .ok (.aload_n 0, 1) := by decide +kernel
theorem dX12_wrong_170 : decode cX12_wrong 170 = .ok (.getfield 41, 3) := by decide +kernel
theorem dX12_wrong_173 : decode cX12_wrong 173 = .ok (.iconst 4, 1) := by decide +kernel
theorem dX12_wrong_174 : decode cX12_wrong 174 = .ok (.iload_n 1, 1) := by decide +kernel
theorem dX12_wrong_175 : decode cX12_wrong 175 = .ok (.imul, 1) := by decide +kernel
theorem dX12_wrong_176 : decode cX12_wrong 176 = .ok (.iconst 3, 1) := by decide +kernel
theorem dX12_wrong_177 : decode cX12_wrong 177 = .ok (.iadd, 1) := by decide +kernel
theorem dX12_wrong_178 : decode cX12_wrong 178 = .ok (.laload, 1) := by decide +kernel
theorem dX12_wrong_179 : decode cX12_wrong 179 = .ok (.l2i, 1) := by decide +kernel
theorem dX12_wrong_180 : decode cX12_wrong 180 = .ok (.invokevirtual 228, 3) := by decide +kernel
theorem dX12_wrong_183 : decode cX12_wrong 183 = .ok (.istore 8, 2) := by decide +kernel
theorem dX12_wrong_185 : decode cX12_wrong 185 = .ok (.iload 7, 2) := by decide +kernel
theorem dX12_wrong_187 : decode cX12_wrong 187 = .ok (.iconst (-1), 1) := by decide +kernel
theorem dX12_wrong_188 : decode cX12_wrong 188 = .ok (.if_icmp .eq 9, 3) := by decide +kernel
theorem dX12_wrong_191 : decode cX12_wrong 191 = .ok (.iload 8, 2) := by decide +kernel
theorem dX12_wrong_193 : decode cX12_wrong 193 = .ok (.iconst (-1), 1) := by decide +kernel
theorem dX12_wrong_194 : decode cX12_wrong 194 = .ok (.if_icmp .ne 15, 3) := by decide +kernel
theorem dX12_wrong_197 : decode cX12_wrong 197 = .ok (.iload 7, 2) := by decide +kernel
theorem dX12_wrong_199 : decode cX12_wrong 199 = .ok (.iconst (-1), 1) := by decide +kernel
theorem dX12_wrong_200 : decode cX12_wrong 200 = .ok (.if_icmp .ne 7, 3) := by decide +kernel
theorem dX12_wrong_203 : decode cX12_wrong 203 = .ok (.iconst 3, 1) := by decide +kernel
theorem dX12_wrong_204 : decode cX12_wrong 204 = .ok (.goto 4, 3) := by decide +kernel
theorem dX12_wrong_207 : decode cX12_wrong 207 = .ok (.iconst 4, 1) := by decide +kernel
theorem dX12_wrong_208 : decode cX12_wrong 208 = .ok (.ireturn, 1) := by decide +kernel
theorem dX12_wrong_209 : decode cX12_wrong 209 = .ok (.aload_n 0, 1) := by decide +kernel
theorem dX12_wrong_210 : decode cX12_wrong 210 = .ok (.iload 7, 2) := by decide +kernel
theorem dX12_wrong_212 : decode cX12_wrong 212 = .ok (.lload_n 2, 1) := by decide +kernel
theorem dX12_wrong_213 : decode cX12_wrong 213 = .ok (.lload 4, 2) := by decide +kernel
theorem dX12_wrong_215 : decode cX12_wrong 215 = .ok (.invokevirtual 184, 3) := by decide +kernel
theorem dX12_wrong_218 : decode cX12_wrong 218 = .ok (.aload_n 0, 1) := by decide +kernel
theorem dX12_wrong_219 : decode cX12_wrong 219 = .ok (.iload 8, 2) := by decide +kernel
theorem dX12_wrong_221 : decode cX12_wrong 221 = .ok (.lload_n 2, 1) := by decide +kernel
theorem dX12_wrong_222 : decode cX12_wrong 222 = .ok (.lload 4, 2) := by decide +kernel
theorem dX12_wrong_224 : decode cX12_wrong 224 = .ok (.invokevirtual 184, 3) := by decide +kernel
theorem dX12_wrong_227 : decode cX12_wrong 227 = .ok (.lcmp, 1) := by decide +kernel
theorem dX12_wrong_228 : decode cX12_wrong 228 = .ok (.ifCond .eq 5, 3) := by decide +kernel
theorem dX12_wrong_231 : decode cX12_wrong 231 = .ok (.iconst 5, 1) := by decide +kernel
theorem dX12_wrong_232 : decode cX12_wrong 232 = .ok (.ireturn, 1) := by decide +kernel
theorem dX12_wrong_233 : decode cX12_wrong 233 = .ok (.aload_n 0, 1) := by decide +kernel
theorem dX12_wrong_234 : decode cX12_wrong 234 = .ok (.lload_n 2, 1) := by decide +kernel
theorem dX12_wrong_235 : decode cX12_wrong 235 = .ok (.lload 4, 2) := by decide +kernel
theorem dX12_wrong_237 : decode cX12_wrong 237 = .ok (.invokevirtual 188, 3) := by decide +kernel
theorem dX12_wrong_240 : decode cX12_wrong 240 = .ok (.aload_n 0, 1) := by decide +kernel
theorem dX12_wrong_241 : decode cX12_wrong 241 = .ok (.iload 7, 2) := by decide +kernel
theorem dX12_wrong_243 : decode cX12_wrong 243 = .ok (.lload_n 2, 1) := by decide +kernel
theorem dX12_wrong_244 : decode cX12_wrong 244 = .ok (.lload 4, 2) := by decide +kernel
theorem dX12_wrong_246 : decode cX12_wrong 246 = .ok (.invokevirtual 184, 3) := by decide +kernel
theorem dX12_wrong_249 : decode cX12_wrong 249 = .ok (.lcmp, 1) := by decide +kernel
theorem dX12_wrong_250 : decode cX12_wrong 250 = .ok (.ifCond .ge 6, 3) := by decide +kernel
theorem dX12_wrong_253 : decode cX12_wrong 253 = .ok (.bipush 6, 2) := by decide +kernel
theorem dX12_wrong_255 : decode cX12_wrong 255 = .ok (.ireturn, 1) := by decide +kernel
theorem dX12_wrong_256 : decode cX12_wrong 256 = .ok (.aload_n 0, 1) := by decide +kernel
theorem dX12_wrong_257 : decode cX12_wrong 257 = .ok (.getfield 63, 3) := by decide +kernel
theorem dX12_wrong_260 : decode cX12_wrong 260 = .ok (.iload 7, 2) := by decide +kernel
theorem dX12_wrong_262 : decode cX12_wrong 262 = .ok (.iaload, 1) := by decide +kernel
theorem dX12_wrong_263 : decode cX12_wrong 263 = .ok (.aload_n 0, 1) := by decide +kernel
theorem dX12_wrong_264 : decode cX12_wrong 264 = .ok (.getfield 63, 3) := by decide +kernel
theorem dX12_wrong_267 : decode cX12_wrong 267 = .ok (.iload 8, 2) := by decide +kernel
theorem dX12_wrong_269 : decode cX12_wrong 269 = .ok (.iaload, 1) := by decide +kernel
theorem dX12_wrong_270 : decode cX12_wrong 270 = .ok (.if_icmp .le 7, 3) := by decide +kernel
theorem dX12_wrong_273 : decode cX12_wrong 273 = .ok (.iconst 0, 1) := by decide +kernel
theorem dX12_wrong_274 : decode cX12_wrong 274 = .ok (.goto 5, 3) := by decide +kernel
theorem dX12_wrong_277 : decode cX12_wrong 277 = .ok (.bipush 7, 2) := by decide +kernel
theorem dX12_wrong_279 : decode cX12_wrong 279 = .ok (.ireturn, 1) := by decide +kernel
theorem dX12_check_0 : decode cX12_check 0 = .ok (.aload_n 0, 1) := by decide +kernel
theorem dX12_check_1 : decode cX12_check 1 = .ok (.iload_n 1, 1) := by decide +kernel
theorem dX12_check_2 : decode cX12_check 2 = .ok (.invokevirtual 115, 3) := by decide +kernel
theorem dX12_check_5 : decode cX12_check 5 = .ok (.ifCond .ne 6, 3) := by decide +kernel
theorem dX12_check_8 : decode cX12_check 8 = .ok (.bipush (-2), 2) := by decide +kernel
theorem dX12_check_10 : decode cX12_check 10 = .ok (.ireturn, 1) := by decide +kernel
theorem dX12_check_11 : decode cX12_check 11 = .ok (.aload_n 0, 1) := by decide +kernel
theorem dX12_check_12 : decode cX12_check 12 = .ok (.iload_n 1, 1) := by decide +kernel
theorem dX12_check_13 : decode cX12_check 13 = .ok (.invokevirtual 208, 3) := by decide +kernel
theorem dX12_check_16 : decode cX12_check 16 = .ok (.ifCond .eq 12, 3) := by decide +kernel
theorem dX12_check_19 : decode cX12_check 19 = .ok (.aload_n 0, 1) := by decide +kernel
theorem dX12_check_20 : decode cX12_check 20 = .ok (.getfield 198, 3) := by decide +kernel
theorem dX12_check_23 : decode cX12_check 23 = .ok (.iconst 2, 1) := by decide +kernel
theorem dX12_check_24 : decode cX12_check 24 = .ok (.isub, 1) := by decide +kernel
theorem dX12_check_25 : decode cX12_check 25 = .ok (.goto 4, 3) := by decide +kernel
theorem dX12_check_28 : decode cX12_check 28 = .ok (.iconst 0, 1) := by decide +kernel
theorem dX12_check_29 : decode cX12_check 29 = .ok (.istore_n 2, 1) := by decide +kernel
theorem dX12_check_30 : decode cX12_check 30 = .ok (.iconst 0, 1) := by decide +kernel
theorem dX12_check_31 : decode cX12_check 31 = .ok (.istore_n 3, 1) := by decide +kernel
theorem dX12_check_32 : decode cX12_check 32 = .ok (.iload_n 3, 1) := by decide +kernel
theorem dX12_check_33 : decode cX12_check 33 = .ok (.aload_n 0, 1) := by decide +kernel
theorem dX12_check_34 : decode cX12_check 34 = .ok (.getfield 251, 3) := by decide +kernel
theorem dX12_check_37 : decode cX12_check 37 = .ok (.if_icmp .ge 29, 3) := by decide +kernel
theorem dX12_check_40 : decode cX12_check 40 = .ok (.aload_n 0, 1) := by decide +kernel
theorem dX12_check_41 : decode cX12_check 41 = .ok (.iload_n 3, 1) := by decide +kernel
theorem dX12_check_42 : decode cX12_check 42 = .ok (.invokevirtual 262, 3) := by decide +kernel
theorem dX12_check_45 : decode cX12_check 45 = .ok (.istore 4, 2) := by decide +kernel
theorem dX12_check_47 : decode cX12_check 47 = .ok (.iload 4, 2) := by decide +kernel
theorem dX12_check_49 : decode cX12_check 49 = .ok (.ifCond .eq 11, 3) := by decide +kernel
theorem dX12_check_52 : decode cX12_check 52 = .ok (.bipush 8, 2) := by decide +kernel
theorem dX12_check_54 : decode cX12_check 54 = .ok (.iload_n 3, 1) := by decide +kernel
theorem dX12_check_55 : decode cX12_check 55 = .ok (.imul, 1) := by decide +kernel
theorem dX12_check_56 : decode cX12_check 56 = .ok (.iload 4, 2) := by decide +kernel
theorem dX12_check_58 : decode cX12_check 58 = .ok (.iadd, 1) := by decide +kernel
theorem dX12_check_59 : decode cX12_check 59 = .ok (.ireturn, 1) := by decide +kernel
theorem dX12_check_60 : decode cX12_check 60 = .ok (.iinc 3 1, 3) := by decide +kernel
theorem dX12_check_63 : decode cX12_check 63 = .ok (.goto (-31), 3) := by decide +kernel
theorem dX12_check_66 : decode cX12_check 66 = .ok (.aload_n 0, 1) := by decide +kernel
theorem dX12_check_67 : decode cX12_check 67 = .ok (.getfield 251, 3) := by decide +kernel
theorem dX12_check_70 : decode cX12_check 70 = .ok (.iload_n 2, 1) := by decide +kernel
theorem dX12_check_71 : decode cX12_check 71 = .ok (.if_icmp .ne 7, 3) := by decide +kernel
theorem dX12_check_74 : decode cX12_check 74 = .ok (.iconst (-1), 1) := by decide +kernel
theorem dX12_check_75 : decode cX12_check 75 = .ok (.goto 5, 3) := by decide +kernel
theorem dX12_check_78 : decode cX12_check 78 = .ok (.bipush (-3), 2) := by decide +kernel
theorem dX12_check_80 : decode cX12_check 80 = .ok (.ireturn, 1) := by decide +kernel
theorem dX12_ran_0 : decode cX12_ran 0 = .ok (.aload_n 0, 1) := by decide +kernel
theorem dX12_ran_1 : decode cX12_ran 1 = .ok (.getfield 265, 3) := by decide +kernel
theorem dX12_ran_4 : decode cX12_ran 4 = .ok (.bipush 40, 2) := by decide +kernel
theorem dX12_ran_6 : decode cX12_ran 6 = .ok (.if_icmp .ge 13, 3) := by decide +kernel
theorem dX12_ran_9 : decode cX12_ran 9 = .ok (.aload_n 0, 1) := by decide +kernel
theorem dX12_ran_10 : decode cX12_ran 10 = .ok (.getfield 45, 3) := by decide +kernel
theorem dX12_ran_13 : decode cX12_ran 13 = .ok (.aload_n 0, 1) := by decide +kernel
theorem dX12_ran_14 : decode cX12_ran 14 = .ok (.getfield 265, 3) := by decide +kernel
theorem dX12_ran_17 : decode cX12_ran 17 = .ok (.iload_n 1, 1) := by decide +kernel
theorem dX12_ran_18 : decode cX12_ran 18 = .ok (.iastore, 1) := by decide +kernel
theorem dX12_ran_19 : decode cX12_ran 19 = .ok (.aload_n 0, 1) := by decide +kernel
theorem dX12_ran_20 : decode cX12_ran 20 = .ok (.dup, 1) := by decide +kernel
theorem dX12_ran_21 : decode cX12_ran 21 = .ok (.getfield 265, 3) := by decide +kernel
theorem dX12_ran_24 : decode cX12_ran 24 = .ok (.iconst 1, 1) := by decide +kernel
theorem dX12_ran_25 : decode cX12_ran 25 = .ok (.iadd, 1) := by decide +kernel
theorem dX12_ran_26 : decode cX12_ran 26 = .ok (.putfield 265, 3) := by decide +kernel
theorem dX12_ran_29 : decode cX12_ran 29 = .ok (.return_, 1) := by decide +kernel
theorem dX12_treeAsks_0 : decode cX12_treeAsks 0 = .ok (.aload_n 0, 1) := by decide +kernel
theorem dX12_treeAsks_1 : decode cX12_treeAsks 1 = .ok (.bipush 20, 2) := by decide +kernel
theorem dX12_treeAsks_3 : decode cX12_treeAsks 3 = .ok (.invokevirtual 268, 3) := by decide +kernel
theorem dX12_treeAsks_6 : decode cX12_treeAsks 6 = .ok (.aload_n 0, 1) := by decide +kernel
theorem dX12_treeAsks_7 : decode cX12_treeAsks 7 = .ok (.bipush 10, 2) := by decide +kernel
theorem dX12_treeAsks_9 : decode cX12_treeAsks 9 = .ok (.invokevirtual 268, 3) := by decide +kernel
theorem dX12_treeAsks_12 : decode cX12_treeAsks 12 = .ok (.iload_n 2, 1) := by decide +kernel
theorem dX12_treeAsks_13 : decode cX12_treeAsks 13 = .ok (.aload_n 0, 1) := by decide +kernel
theorem dX12_treeAsks_14 : decode cX12_treeAsks 14 = .ok (.getfield 271, 3) := by decide +kernel
theorem dX12_treeAsks_17 : decode cX12_treeAsks 17 = .ok (.iadd, 1) := by decide +kernel
theorem dX12_treeAsks_18 : decode cX12_treeAsks 18 = .ok (.iconst 5, 1) := by decide +kernel
theorem dX12_treeAsks_19 : decode cX12_treeAsks 19 = .ok (.ixor, 1) := by decide +kernel
theorem dX12_treeAsks_20 : decode cX12_treeAsks 20 = .ok (.ireturn, 1) := by decide +kernel
theorem dX12_asks_0 : decode cX12_asks 0 = .ok (.aload_n 0, 1) := by decide +kernel
theorem dX12_asks_1 : decode cX12_asks 1 = .ok (.getfield 16, 3) := by decide +kernel
theorem dX12_asks_4 : decode cX12_asks 4 = .ok (.iload_n 1, 1) := by decide +kernel
theorem dX12_asks_5 : decode cX12_asks 5 = .ok (.iaload, 1) := by decide +kernel
theorem dX12_asks_6 : decode cX12_asks 6 = .ok (.lookupswitch 48 #[(1, 26), (3, 33)], 26) := by decide +kernel
theorem dX12_asks_32 : decode cX12_asks 32 = .ok (.aload_n 0, 1) := by decide +kernel
theorem dX12_asks_33 : decode cX12_asks 33 = .ok (.iload_n 1, 1) := by decide +kernel
theorem dX12_asks_34 : decode cX12_asks 34 = .ok (.iload_n 2, 1) := by decide +kernel
theorem dX12_asks_35 : decode cX12_asks 35 = .ok (.invokevirtual 274, 3) := by decide +kernel
theorem dX12_asks_38 : decode cX12_asks 38 = .ok (.ireturn, 1) := by decide +kernel
theorem dX12_asks_39 : decode cX12_asks 39 = .ok (.aload_n 0, 1) := by decide +kernel
theorem dX12_asks_40 : decode cX12_asks 40 = .ok (.bipush 40, 2) := by decide +kernel
theorem dX12_asks_42 : decode cX12_asks 42 = .ok (.invokevirtual 268, 3) := by decide +kernel
theorem dX12_asks_45 : decode cX12_asks 45 = .ok (.aload_n 0, 1) := by decide +kernel
theorem dX12_asks_46 : decode cX12_asks 46 = .ok (.iload_n 1, 1) := by decide +kernel
theorem dX12_asks_47 : decode cX12_asks 47 = .ok (.iload_n 2, 1) := by decide +kernel
theorem dX12_asks_48 : decode cX12_asks 48 = .ok (.invokevirtual 274, 3) := by decide +kernel
theorem dX12_asks_51 : decode cX12_asks 51 = .ok (.iload_n 1, 1) := by decide +kernel
theorem dX12_asks_52 : decode cX12_asks 52 = .ok (.iadd, 1) := by decide +kernel
theorem dX12_asks_53 : decode cX12_asks 53 = .ok (.ireturn, 1) := by decide +kernel
theorem dX12_asks_54 : decode cX12_asks 54 = .ok (.aload_n 0, 1) := by decide +kernel
theorem dX12_asks_55 : decode cX12_asks 55 = .ok (.bipush 10, 2) := by decide +kernel
theorem dX12_asks_57 : decode cX12_asks 57 = .ok (.invokevirtual 268, 3) := by decide +kernel
theorem dX12_asks_60 : decode cX12_asks 60 = .ok (.iload_n 2, 1) := by decide +kernel
theorem dX12_asks_61 : decode cX12_asks 61 = .ok (.aload_n 0, 1) := by decide +kernel
theorem dX12_asks_62 : decode cX12_asks 62 = .ok (.getfield 271, 3) := by decide +kernel
theorem dX12_asks_65 : decode cX12_asks 65 = .ok (.iadd, 1) := by decide +kernel
theorem dX12_asks_66 : decode cX12_asks 66 = .ok (.ireturn, 1) := by decide +kernel
theorem dX12_toldShows_0 : decode cX12_toldShows 0 = .ok (.aload_n 0, 1) := by decide +kernel
theorem dX12_toldShows_1 : decode cX12_toldShows 1 = .ok (.bipush 11, 2) := by decide +kernel
theorem dX12_toldShows_3 : decode cX12_toldShows 3 = .ok (.invokevirtual 268, 3) := by decide +kernel
theorem dX12_toldShows_6 : decode cX12_toldShows 6 = .ok (.aload_n 0, 1) := by decide +kernel
theorem dX12_toldShows_7 : decode cX12_toldShows 7 = .ok (.iload_n 1, 1) := by decide +kernel
theorem dX12_toldShows_8 : decode cX12_toldShows 8 = .ok (.iload_n 2, 1) := by decide +kernel
theorem dX12_toldShows_9 : decode cX12_toldShows 9 = .ok (.invokevirtual 278, 3) := by decide +kernel
theorem dX12_toldShows_12 : decode cX12_toldShows 12 = .ok (.iconst 3, 1) := by decide +kernel
theorem dX12_toldShows_13 : decode cX12_toldShows 13 = .ok (.imul, 1) := by decide +kernel
theorem dX12_toldShows_14 : decode cX12_toldShows 14 = .ok (.ireturn, 1) := by decide +kernel
theorem dX12_shows_0 : decode cX12_shows 0 = .ok (.aload_n 0, 1) := by decide +kernel
theorem dX12_shows_1 : decode cX12_shows 1 = .ok (.getfield 16, 3) := by decide +kernel
theorem dX12_shows_4 : decode cX12_shows 4 = .ok (.iload_n 1, 1) := by decide +kernel
theorem dX12_shows_5 : decode cX12_shows 5 = .ok (.iaload, 1) := by decide +kernel
theorem dX12_shows_6 : decode cX12_shows 6 = .ok (.lookupswitch 65 #[(2, 26), (3, 43)], 26) := by decide +kernel
theorem dX12_shows_32 : decode cX12_shows 32 = .ok (.aload_n 0, 1) := by decide +kernel
theorem dX12_shows_33 : decode cX12_shows 33 = .ok (.bipush 30, 2) := by decide +kernel
theorem dX12_shows_35 : decode cX12_shows 35 = .ok (.invokevirtual 268, 3) := by decide +kernel
theorem dX12_shows_38 : decode cX12_shows 38 = .ok (.aload_n 0, 1) := by decide +kernel
theorem dX12_shows_39 : decode cX12_shows 39 = .ok (.iload_n 1, 1) := by decide +kernel
theorem dX12_shows_40 : decode cX12_shows 40 = .ok (.iload_n 2, 1) := by decide +kernel
theorem dX12_shows_41 : decode cX12_shows 41 = .ok (.iconst 1, 1) := by decide +kernel
theorem dX12_shows_42 : decode cX12_shows 42 = .ok (.isub, 1) := by decide +kernel
theorem dX12_shows_43 : decode cX12_shows 43 = .ok (.invokevirtual 281, 3) := by decide +kernel
theorem dX12_shows_46 : decode cX12_shows 46 = .ok (.iconst 2, 1) := by decide +kernel
theorem dX12_shows_47 : decode cX12_shows 47 = .ok (.imul, 1) := by decide +kernel
theorem dX12_shows_48 : decode cX12_shows 48 = .ok (.ireturn, 1) := by decide +kernel
theorem dX12_shows_49 : decode cX12_shows 49 = .ok (.aload_n 0, 1) := by decide +kernel
theorem dX12_shows_50 : decode cX12_shows 50 = .ok (.bipush 41, 2) := by decide +kernel
theorem dX12_shows_52 : decode cX12_shows 52 = .ok (.invokevirtual 268, 3) := by decide +kernel
theorem dX12_shows_55 : decode cX12_shows 55 = .ok (.aload_n 0, 1) := by decide +kernel
theorem dX12_shows_56 : decode cX12_shows 56 = .ok (.iload_n 1, 1) := by decide +kernel
theorem dX12_shows_57 : decode cX12_shows 57 = .ok (.iload_n 2, 1) := by decide +kernel
theorem dX12_shows_58 : decode cX12_shows 58 = .ok (.invokevirtual 281, 3) := by decide +kernel
theorem dX12_shows_61 : decode cX12_shows 61 = .ok (.istore_n 3, 1) := by decide +kernel
theorem dX12_shows_62 : decode cX12_shows 62 = .ok (.iload_n 3, 1) := by decide +kernel
theorem dX12_shows_63 : decode cX12_shows 63 = .ok (.aload_n 0, 1) := by decide +kernel
theorem dX12_shows_64 : decode cX12_shows 64 = .ok (.iload_n 1, 1) := by decide +kernel
theorem dX12_shows_65 : decode cX12_shows 65 = .ok (.iload_n 2, 1) := by decide +kernel
theorem dX12_shows_66 : decode cX12_shows 66 = .ok (.invokevirtual 274, 3) := by decide +kernel
theorem dX12_shows_69 : decode cX12_shows 69 = .ok (.isub, 1) := by decide +kernel
theorem dX12_shows_70 : decode cX12_shows 70 = .ok (.ireturn, 1) := by decide +kernel
theorem dX12_shows_71 : decode cX12_shows 71 = .ok (.aload_n 0, 1) := by decide +kernel
theorem dX12_shows_72 : decode cX12_shows 72 = .ok (.iload_n 1, 1) := by decide +kernel
theorem dX12_shows_73 : decode cX12_shows 73 = .ok (.iload_n 2, 1) := by decide +kernel
theorem dX12_shows_74 : decode cX12_shows 74 = .ok (.invokevirtual 281, 3) := by decide +kernel
theorem dX12_shows_77 : decode cX12_shows 77 = .ok (.ireturn, 1) := by decide +kernel
theorem dX12_toldTurns_0 : decode cX12_toldTurns 0 = .ok (.aload_n 0, 1) := by decide +kernel
theorem dX12_toldTurns_1 : decode cX12_toldTurns 1 = .ok (.bipush 12, 2) := by decide +kernel
theorem dX12_toldTurns_3 : decode cX12_toldTurns 3 = .ok (.invokevirtual 268, 3) := by decide +kernel
theorem dX12_toldTurns_6 : decode cX12_toldTurns 6 = .ok (.aload_n 0, 1) := by decide +kernel
theorem dX12_toldTurns_7 : decode cX12_toldTurns 7 = .ok (.iload_n 1, 1) := by decide +kernel
theorem dX12_toldTurns_8 : decode cX12_toldTurns 8 = .ok (.iload_n 2, 1) := by decide +kernel
theorem dX12_toldTurns_9 : decode cX12_toldTurns 9 = .ok (.invokevirtual 284, 3) := by decide +kernel
theorem dX12_toldTurns_12 : decode cX12_toldTurns 12 = .ok (.istore_n 3, 1) := by decide +kernel
theorem dX12_toldTurns_13 : decode cX12_toldTurns 13 = .ok (.iload_n 3, 1) := by decide +kernel
theorem dX12_toldTurns_14 : decode cX12_toldTurns 14 = .ok (.aload_n 0, 1) := by decide +kernel
theorem dX12_toldTurns_15 : decode cX12_toldTurns 15 = .ok (.iload_n 1, 1) := by decide +kernel
theorem dX12_toldTurns_16 : decode cX12_toldTurns 16 = .ok (.iload_n 2, 1) := by decide +kernel
theorem dX12_toldTurns_17 : decode cX12_toldTurns 17 = .ok (.iload_n 1, 1) := by decide +kernel
theorem dX12_toldTurns_18 : decode cX12_toldTurns 18 = .ok (.iadd, 1) := by decide +kernel
theorem dX12_toldTurns_19 : decode cX12_toldTurns 19 = .ok (.invokevirtual 278, 3) := by decide +kernel
theorem dX12_toldTurns_22 : decode cX12_toldTurns 22 = .ok (.isub, 1) := by decide +kernel
theorem dX12_toldTurns_23 : decode cX12_toldTurns 23 = .ok (.ireturn, 1) := by decide +kernel
theorem dX12_turns_0 : decode cX12_turns 0 = .ok (.aload_n 0, 1) := by decide +kernel
theorem dX12_turns_1 : decode cX12_turns 1 = .ok (.getfield 16, 3) := by decide +kernel
theorem dX12_turns_4 : decode cX12_turns 4 = .ok (.iload_n 1, 1) := by decide +kernel
theorem dX12_turns_5 : decode cX12_turns 5 = .ok (.iaload, 1) := by decide +kernel
theorem dX12_turns_6 : decode cX12_turns 6 = .ok (.iconst 1, 1) := by decide +kernel
theorem dX12_turns_7 : decode cX12_turns 7 = .ok (.if_icmp .eq 13, 3) := by decide +kernel
theorem dX12_turns_10 : decode cX12_turns 10 = .ok (.aload_n 0, 1) := by decide +kernel
theorem dX12_turns_11 : decode cX12_turns 11 = .ok (.getfield 16, 3) := by decide +kernel
theorem dX12_turns_14 : decode cX12_turns 14 = .ok (.iload_n 1, 1) := by decide +kernel
theorem dX12_turns_15 : decode cX12_turns 15 = .ok (.iaload, 1) := by decide +kernel
theorem dX12_turns_16 : decode cX12_turns 16 = .ok (.iconst 3, 1) := by decide +kernel
theorem dX12_turns_17 : decode cX12_turns 17 = .ok (.if_icmp .ne 25, 3) := by decide +kernel
theorem dX12_turns_20 : decode cX12_turns 20 = .ok (.aload_n 0, 1) := by decide +kernel
theorem dX12_turns_21 : decode cX12_turns 21 = .ok (.bipush 21, 2) := by decide +kernel
theorem dX12_turns_23 : decode cX12_turns 23 = .ok (.invokevirtual 268, 3) := by decide +kernel
theorem dX12_turns_26 : decode cX12_turns 26 = .ok (.aload_n 0, 1) := by decide +kernel
theorem dX12_turns_27 : decode cX12_turns 27 = .ok (.iload_n 1, 1) := by decide +kernel
theorem dX12_turns_28 : decode cX12_turns 28 = .ok (.iload_n 2, 1) := by decide +kernel
theorem dX12_turns_29 : decode cX12_turns 29 = .ok (.invokevirtual 287, 3) := by decide +kernel
theorem dX12_turns_32 : decode cX12_turns 32 = .ok (.istore_n 3, 1) := by decide +kernel
theorem dX12_turns_33 : decode cX12_turns 33 = .ok (.iload_n 3, 1) := by decide +kernel
theorem dX12_turns_34 : decode cX12_turns 34 = .ok (.aload_n 0, 1) := by decide +kernel
theorem dX12_turns_35 : decode cX12_turns 35 = .ok (.iload_n 1, 1) := by decide +kernel
theorem dX12_turns_36 : decode cX12_turns 36 = .ok (.iconst 0, 1) := by decide +kernel
theorem dX12_turns_37 : decode cX12_turns 37 = .ok (.invokevirtual 278, 3) := by decide +kernel
theorem dX12_turns_40 : decode cX12_turns 40 = .ok (.iadd, 1) := by decide +kernel
theorem dX12_turns_41 : decode cX12_turns 41 = .ok (.ireturn, 1) := by decide +kernel
theorem dX12_turns_42 : decode cX12_turns 42 = .ok (.aload_n 0, 1) := by decide +kernel
theorem dX12_turns_43 : decode cX12_turns 43 = .ok (.iload_n 1, 1) := by decide +kernel
theorem dX12_turns_44 : decode cX12_turns 44 = .ok (.iload_n 2, 1) := by decide +kernel
theorem dX12_turns_45 : decode cX12_turns 45 = .ok (.invokevirtual 287, 3) := by decide +kernel
theorem dX12_turns_48 : decode cX12_turns 48 = .ok (.ireturn, 1) := by decide +kernel
theorem dX12_act_0 : decode cX12_act 0 = .ok (.aload_n 0, 1) := by decide +kernel
theorem dX12_act_1 : decode cX12_act 1 = .ok (.iconst 0, 1) := by decide +kernel
theorem dX12_act_2 : decode cX12_act 2 = .ok (.putfield 265, 3) := by decide +kernel
theorem dX12_act_5 : decode cX12_act 5 = .ok (.aload_n 0, 1) := by decide +kernel
theorem dX12_act_6 : decode cX12_act 6 = .ok (.iload_n 1, 1) := by decide +kernel
theorem dX12_act_7 : decode cX12_act 7 = .ok (.invokevirtual 115, 3) := by decide +kernel
theorem dX12_act_10 : decode cX12_act 10 = .ok (.ifCond .eq 12, 3) := by decide +kernel
theorem dX12_act_13 : decode cX12_act 13 = .ok (.iload_n 2, 1) := by decide +kernel
theorem dX12_act_14 : decode cX12_act 14 = .ok (.iconst 0, 1) := by decide +kernel
theorem dX12_act_15 : decode cX12_act 15 = .ok (.iconst 2, 1) := by decide +kernel
theorem dX12_act_16 : decode cX12_act 16 = .ok (.invokestatic 85, 3) := by decide +kernel
theorem dX12_act_19 : decode cX12_act 19 = .ok (.ifCond .ne 5, 3) := by decide +kernel
theorem dX12_act_22 : decode cX12_act 22 = .ok (.iconst 0, 1) := by decide +kernel
theorem dX12_act_23 : decode cX12_act 23 = .ok (.ireturn, 1) := by decide +kernel
theorem dX12_act_24 : decode cX12_act 24 = .ok (.aload_n 0, 1) := by decide +kernel
theorem dX12_act_25 : decode cX12_act 25 = .ok (.iload_n 1, 1) := by decide +kernel
theorem dX12_act_26 : decode cX12_act 26 = .ok (.invokevirtual 168, 3) := by decide +kernel
theorem dX12_act_29 : decode cX12_act 29 = .ok (.aload_n 0, 1) := by decide +kernel
theorem dX12_act_30 : decode cX12_act 30 = .ok (.aload_n 0, 1) := by decide +kernel
theorem dX12_act_31 : decode cX12_act 31 = .ok (.getfield 150, 3) := by decide +kernel
theorem dX12_act_34 : decode cX12_act 34 = .ok (.putfield 271, 3) := by decide +kernel
theorem dX12_act_37 : decode cX12_act 37 = .ok (.iload_n 2, 1) := by decide +kernel
theorem dX12_act_38 : decode cX12_act 38 = .ok (.ifCond .ne 12, 3) := by decide +kernel
theorem dX12_act_41 : decode cX12_act 41 = .ok (.aload_n 0, 1) := by decide +kernel
theorem dX12_act_42 : decode cX12_act 42 = .ok (.iload_n 1, 1) := by decide +kernel
theorem dX12_act_43 : decode cX12_act 43 = .ok (.iload_n 3, 1) := by decide +kernel
theorem dX12_act_44 : decode cX12_act 44 = .ok (.invokevirtual 278, 3) := by decide +kernel
theorem dX12_act_47 : decode cX12_act 47 = .ok (.goto 23, 3) := by decide +kernel
theorem dX12_act_50 : decode cX12_act 50 = .ok (.iload_n 2, 1) := by decide +kernel
theorem dX12_act_51 : decode cX12_act 51 = .ok (.iconst 1, 1) := by decide +kernel
theorem dX12_act_52 : decode cX12_act 52 = .ok (.if_icmp .ne 12, 3) := by decide +kernel
theorem dX12_act_55 : decode cX12_act 55 = .ok (.aload_n 0, 1) := by decide +kernel
theorem dX12_act_56 : decode cX12_act 56 = .ok (.iload_n 1, 1) := by decide +kernel
theorem dX12_act_57 : decode cX12_act 57 = .ok (.iload_n 3, 1) := by decide +kernel
theorem dX12_act_58 : decode cX12_act 58 = .ok (.invokevirtual 284, 3) := by decide +kernel
theorem dX12_act_61 : decode cX12_act 61 = .ok (.goto 9, 3) := by decide +kernel
theorem dX12_act_64 : decode cX12_act 64 = .ok (.aload_n 0, 1) := by decide +kernel
theorem dX12_act_65 : decode cX12_act 65 = .ok (.iload_n 1, 1) := by decide +kernel
theorem dX12_act_66 : decode cX12_act 66 = .ok (.iload_n 3, 1) := by decide +kernel
theorem dX12_act_67 : decode cX12_act 67 = .ok (.invokevirtual 290, 3) := by decide +kernel
theorem dX12_act_70 : decode cX12_act 70 = .ok (.ireturn, 1) := by decide +kernel
theorem dX12_trace_0 : decode cX12_trace 0 = .ok (.iload_n 1, 1) := by decide +kernel
theorem dX12_trace_1 : decode cX12_trace 1 = .ok (.iconst 0, 1) := by decide +kernel
theorem dX12_trace_2 : decode cX12_trace 2 = .ok (.aload_n 0, 1) := by decide +kernel
theorem dX12_trace_3 : decode cX12_trace 3 = .ok (.getfield 265, 3) := by decide +kernel
theorem dX12_trace_6 : decode cX12_trace 6 = .ok (.bipush 40, 2) := by decide +kernel
theorem dX12_trace_8 : decode cX12_trace 8 = .ok (.if_icmp .ge 10, 3) := by decide +kernel
theorem dX12_trace_11 : decode cX12_trace 11 = .ok (.aload_n 0, 1) := by decide +kernel
theorem dX12_trace_12 : decode cX12_trace 12 = .ok (.getfield 265, 3) := by decide +kernel
theorem dX12_trace_15 : decode cX12_trace 15 = .ok (.goto 5, 3) := by decide +kernel
theorem dX12_trace_18 : decode cX12_trace 18 = .ok (.bipush 40, 2) := by decide +kernel
theorem dX12_trace_20 : decode cX12_trace 20 = .ok (.iconst 1, 1) := by decide +kernel
theorem dX12_trace_21 : decode cX12_trace 21 = .ok (.isub, 1) := by decide +kernel
theorem dX12_trace_22 : decode cX12_trace 22 = .ok (.invokestatic 85, 3) := by decide +kernel
theorem dX12_trace_25 : decode cX12_trace 25 = .ok (.ifCond .eq 12, 3) := by decide +kernel
theorem dX12_trace_28 : decode cX12_trace 28 = .ok (.aload_n 0, 1) := by decide +kernel
theorem dX12_trace_29 : decode cX12_trace 29 = .ok (.getfield 45, 3) := by decide +kernel
theorem dX12_trace_32 : decode cX12_trace 32 = .ok (.iload_n 1, 1) := by decide +kernel
theorem dX12_trace_33 : decode cX12_trace 33 = .ok (.iaload, 1) := by decide +kernel
theorem dX12_trace_34 : decode cX12_trace 34 = .ok (.goto 4, 3) := by decide +kernel
theorem dX12_trace_37 : decode cX12_trace 37 = .ok (.iconst (-1), 1) := by decide +kernel
theorem dX12_trace_38 : decode cX12_trace 38 = .ok (.ireturn, 1) := by decide +kernel
theorem dX12_count_0 : decode cX12_count 0 = .ok (.iload_n 1, 1) := by decide +kernel
theorem dX12_count_1 : decode cX12_count 1 = .ok (.ifCond .ne 10, 3) := by decide +kernel
theorem dX12_count_4 : decode cX12_count 4 = .ok (.aload_n 0, 1) := by decide +kernel
theorem dX12_count_5 : decode cX12_count 5 = .ok (.invokevirtual 82, 3) := by decide +kernel
theorem dX12_count_8 : decode cX12_count 8 = .ok (.goto 53, 3) := by decide +kernel
theorem dX12_count_11 : decode cX12_count 11 = .ok (.iload_n 1, 1) := by decide +kernel
theorem dX12_count_12 : decode cX12_count 12 = .ok (.iconst 1, 1) := by decide +kernel
theorem dX12_count_13 : decode cX12_count 13 = .ok (.if_icmp .ne 10, 3) := by decide +kernel
theorem dX12_count_16 : decode cX12_count 16 = .ok (.aload_n 0, 1) := by decide +kernel
theorem dX12_count_17 : decode cX12_count 17 = .ok (.invokevirtual 78, 3) := by decide +kernel
theorem dX12_count_20 : decode cX12_count 20 = .ok (.goto 41, 3) := by decide +kernel
theorem dX12_count_23 : decode cX12_count 23 = .ok (.iload_n 1, 1) := by decide +kernel
theorem dX12_count_24 : decode cX12_count 24 = .ok (.iconst 2, 1) := by decide +kernel
theorem dX12_count_25 : decode cX12_count 25 = .ok (.if_icmp .ne 10, 3) := by decide +kernel
theorem dX12_count_28 : decode cX12_count 28 = .ok (.aload_n 0, 1) := by decide +kernel
theorem dX12_count_29 : decode cX12_count 29 = .ok (.getfield 89, 3) := by decide +kernel
theorem dX12_count_32 : decode cX12_count 32 = .ok (.goto 29, 3) := by decide +kernel
theorem dX12_count_35 : decode cX12_count 35 = .ok (.iload_n 1, 1) := by decide +kernel
theorem dX12_count_36 : decode cX12_count 36 = .ok (.iconst 3, 1) := by decide +kernel
theorem dX12_count_37 : decode cX12_count 37 = .ok (.if_icmp .ne 10, 3) := by decide +kernel
theorem dX12_count_40 : decode cX12_count 40 = .ok (.aload_n 0, 1) := by decide +kernel
theorem dX12_count_41 : decode cX12_count 41 = .ok (.getfield 251, 3) := by decide +kernel
theorem dX12_count_44 : decode cX12_count 44 = .ok (.goto 17, 3) := by decide +kernel
theorem dX12_count_47 : decode cX12_count 47 = .ok (.iload_n 1, 1) := by decide +kernel
theorem dX12_count_48 : decode cX12_count 48 = .ok (.iconst 4, 1) := by decide +kernel
theorem dX12_count_49 : decode cX12_count 49 = .ok (.if_icmp .ne 10, 3) := by decide +kernel
theorem dX12_count_52 : decode cX12_count 52 = .ok (.aload_n 0, 1) := by decide +kernel
theorem dX12_count_53 : decode cX12_count 53 = .ok (.getfield 265, 3) := by decide +kernel
theorem dX12_count_56 : decode cX12_count 56 = .ok (.goto 5, 3) := by decide +kernel
theorem dX12_count_59 : decode cX12_count 59 = .ok (.bipush (-2), 2) := by decide +kernel
theorem dX12_count_61 : decode cX12_count 61 = .ok (.ireturn, 1) := by decide +kernel
theorem dX12_isSheet_0 : decode cX12_isSheet 0 = .ok (.iload_n 0, 1) := by decide +kernel
theorem dX12_isSheet_1 : decode cX12_isSheet 1 = .ok (.iconst 0, 1) := by decide +kernel
theorem dX12_isSheet_2 : decode cX12_isSheet 2 = .ok (.iconst 3, 1) := by decide +kernel
theorem dX12_isSheet_3 : decode cX12_isSheet 3 = .ok (.invokestatic 85, 3) := by decide +kernel
theorem dX12_isSheet_6 : decode cX12_isSheet 6 = .ok (.ireturn, 1) := by decide +kernel
theorem dX12_sheet_0 : decode cX12_sheet 0 = .ok (.iload_n 1, 1) := by decide +kernel
theorem dX12_sheet_1 : decode cX12_sheet 1 = .ok (.invokestatic 293, 3) := by decide +kernel
theorem dX12_sheet_4 : decode cX12_sheet 4 = .ok (.ifCond .eq 23, 3) := by decide +kernel
theorem dX12_sheet_7 : decode cX12_sheet 7 = .ok (.iload_n 2, 1) := by decide +kernel
theorem dX12_sheet_8 : decode cX12_sheet 8 = .ok (.iconst (-1), 1) := by decide +kernel
theorem dX12_sheet_9 : decode cX12_sheet 9 = .ok (.iconst 2, 1) := by decide +kernel
theorem dX12_sheet_10 : decode cX12_sheet 10 = .ok (.invokestatic 85, 3) := by decide +kernel
theorem dX12_sheet_13 : decode cX12_sheet 13 = .ok (.ifCond .eq 14, 3) := by decide +kernel
theorem dX12_sheet_16 : decode cX12_sheet 16 = .ok (.iload_n 2, 1) := by decide +kernel
theorem dX12_sheet_17 : decode cX12_sheet 17 = .ok (.iconst (-1), 1) := by decide +kernel
theorem dX12_sheet_18 : decode cX12_sheet 18 = .ok (.if_icmp .eq 12, 3) := by decide +kernel
theorem dX12_sheet_21 : decode cX12_sheet 21 = .ok (.iload_n 3, 1) := by decide +kernel
theorem dX12_sheet_22 : decode cX12_sheet 22 = .ok (.bipush 40, 2) := by decide +kernel
theorem dX12_sheet_24 : decode cX12_sheet 24 = .ok (.if_icmp .le 6, 3) := by decide +kernel
theorem dX12_sheet_27 : decode cX12_sheet 27 = .ok (.bipush (-2), 2) := by decide +kernel
theorem dX12_sheet_29 : decode cX12_sheet 29 = .ok (.ireturn, 1) := by decide +kernel
theorem dX12_sheet_30 : decode cX12_sheet 30 = .ok (.iload_n 2, 1) := by decide +kernel
theorem dX12_sheet_31 : decode cX12_sheet 31 = .ok (.iconst (-1), 1) := by decide +kernel
theorem dX12_sheet_32 : decode cX12_sheet 32 = .ok (.if_icmp .eq 10, 3) := by decide +kernel
theorem dX12_sheet_35 : decode cX12_sheet 35 = .ok (.iload_n 3, 1) := by decide +kernel
theorem dX12_sheet_36 : decode cX12_sheet 36 = .ok (.ifCond .ge 6, 3) := by decide +kernel
theorem dX12_sheet_39 : decode cX12_sheet 39 = .ok (.bipush (-14), 2) := by decide +kernel
theorem dX12_sheet_41 : decode cX12_sheet 41 = .ok (.ireturn, 1) := by decide +kernel
theorem dX12_sheet_42 : decode cX12_sheet 42 = .ok (.aload_n 0, 1) := by decide +kernel
theorem dX12_sheet_43 : decode cX12_sheet 43 = .ok (.getfield 48, 3) := by decide +kernel
theorem dX12_sheet_46 : decode cX12_sheet 46 = .ok (.iload_n 1, 1) := by decide +kernel
theorem dX12_sheet_47 : decode cX12_sheet 47 = .ok (.iload_n 2, 1) := by decide +kernel
theorem dX12_sheet_48 : decode cX12_sheet 48 = .ok (.iastore, 1) := by decide +kernel
theorem dX12_sheet_49 : decode cX12_sheet 49 = .ok (.aload_n 0, 1) := by decide +kernel
theorem dX12_sheet_50 : decode cX12_sheet 50 = .ok (.getfield 51, 3) := by decide +kernel
theorem dX12_sheet_53 : decode cX12_sheet 53 = .ok (.iload_n 1, 1) := by decide +kernel
theorem dX12_sheet_54 : decode cX12_sheet 54 = .ok (.iload_n 2, 1) := by decide +kernel
theorem dX12_sheet_55 : decode cX12_sheet 55 = .ok (.iconst (-1), 1) := by decide +kernel
theorem dX12_sheet_56 : decode cX12_sheet 56 = .ok (.if_icmp .ne 7, 3) := by decide +kernel
theorem dX12_sheet_59 : decode cX12_sheet 59 = .ok (.iconst 0, 1) := by decide +kernel
theorem dX12_sheet_60 : decode cX12_sheet 60 = .ok (.goto 4, 3) := by decide +kernel
theorem dX12_sheet_63 : decode cX12_sheet 63 = .ok (.iload_n 3, 1) := by decide +kernel
theorem dX12_sheet_64 : decode cX12_sheet 64 = .ok (.iastore, 1) := by decide +kernel
theorem dX12_sheet_65 : decode cX12_sheet 65 = .ok (.iconst 0, 1) := by decide +kernel
theorem dX12_sheet_66 : decode cX12_sheet 66 = .ok (.istore 4, 2) := by decide +kernel
theorem dX12_sheet_68 : decode cX12_sheet 68 = .ok (.iload 4, 2) := by decide +kernel
theorem dX12_sheet_70 : decode cX12_sheet 70 = .ok (.bipush 40, 2) := by decide +kernel
theorem dX12_sheet_72 : decode cX12_sheet 72 = .ok (.if_icmp .ge 22, 3) := by decide +kernel
theorem dX12_sheet_75 : decode cX12_sheet 75 = .ok (.aload_n 0, 1) := by decide +kernel
theorem dX12_sheet_76 : decode cX12_sheet 76 = .ok (.getfield 54, 3) := by decide +kernel
theorem dX12_sheet_79 : decode cX12_sheet 79 = .ok (.bipush 40, 2) := by decide +kernel
theorem dX12_sheet_81 : decode cX12_sheet 81 = .ok (.iload_n 1, 1) := by decide +kernel
theorem dX12_sheet_82 : decode cX12_sheet 82 = .ok (.imul, 1) := by decide +kernel
theorem dX12_sheet_83 : decode cX12_sheet 83 = .ok (.iload 4, 2) := by decide +kernel
theorem dX12_sheet_85 : decode cX12_sheet 85 = .ok (.iadd, 1) := by decide +kernel
theorem dX12_sheet_86 : decode cX12_sheet 86 = .ok (.lconst 0, 1) := by decide +kernel
theorem dX12_sheet_87 : decode cX12_sheet 87 = .ok (.lastore, 1) := by decide +kernel
theorem dX12_sheet_88 : decode cX12_sheet 88 = .ok (.iinc 4 1, 3) := by decide +kernel
theorem dX12_sheet_91 : decode cX12_sheet 91 = .ok (.goto (-23), 3) := by decide +kernel
theorem dX12_sheet_94 : decode cX12_sheet 94 = .ok (.iconst 1, 1) := by decide +kernel
theorem dX12_sheet_95 : decode cX12_sheet 95 = .ok (.ireturn, 1) := by decide +kernel
theorem dX12_cell_0 : decode cX12_cell 0 = .ok (.iload_n 1, 1) := by decide +kernel
theorem dX12_cell_1 : decode cX12_cell 1 = .ok (.invokestatic 293, 3) := by decide +kernel
theorem dX12_cell_4 : decode cX12_cell 4 = .ok (.ifCond .ne 6, 3) := by decide +kernel
theorem dX12_cell_7 : decode cX12_cell 7 = .ok (.bipush (-2), 2) := by decide +kernel
theorem dX12_cell_9 : decode cX12_cell 9 = .ok (.ireturn, 1) := by decide +kernel
theorem dX12_cell_10 : decode cX12_cell 10 = .ok (.aload_n 0, 1) := by decide +kernel
theorem dX12_cell_11 : decode cX12_cell 11 = .ok (.getfield 48, 3) := by decide +kernel
theorem dX12_cell_14 : decode cX12_cell 14 = .ok (.iload_n 1, 1) := by decide +kernel
theorem dX12_cell_15 : decode cX12_cell 15 = .ok (.iaload, 1) := by decide +kernel
theorem dX12_cell_16 : decode cX12_cell 16 = .ok (.iconst (-1), 1) := by decide +kernel
theorem dX12_cell_17 : decode cX12_cell 17 = .ok (.if_icmp .ne 6, 3) := by decide +kernel
theorem dX12_cell_20 : decode cX12_cell 20 = .ok (.bipush (-11), 2) := by decide +kernel
theorem dX12_cell_22 : decode cX12_cell 22 = .ok (.ireturn, 1) := by decide +kernel
theorem dX12_cell_23 : decode cX12_cell 23 = .ok (.iload_n 2, 1) := by decide +kernel
theorem dX12_cell_24 : decode cX12_cell 24 = .ok (.iconst 0, 1) := by decide +kernel
theorem dX12_cell_25 : decode cX12_cell 25 = .ok (.aload_n 0, 1) := by decide +kernel
theorem dX12_cell_26 : decode cX12_cell 26 = .ok (.getfield 51, 3) := by decide +kernel
theorem dX12_cell_29 : decode cX12_cell 29 = .ok (.iload_n 1, 1) := by decide +kernel
theorem dX12_cell_30 : decode cX12_cell 30 = .ok (.iaload, 1) := by decide +kernel
theorem dX12_cell_31 : decode cX12_cell 31 = .ok (.iconst 1, 1) := by decide +kernel
theorem dX12_cell_32 : decode cX12_cell 32 = .ok (.isub, 1) := by decide +kernel
theorem dX12_cell_33 : decode cX12_cell 33 = .ok (.invokestatic 85, 3) := by decide +kernel
theorem dX12_cell_36 : decode cX12_cell 36 = .ok (.ifCond .ne 6, 3) := by decide +kernel
theorem dX12_cell_39 : decode cX12_cell 39 = .ok (.bipush (-12), 2) := by decide +kernel
theorem dX12_cell_41 : decode cX12_cell 41 = .ok (.ireturn, 1) := by decide +kernel
theorem dX12_cell_42 : decode cX12_cell 42 = .ok (.aload_n 0, 1) := by decide +kernel
theorem dX12_cell_43 : decode cX12_cell 43 = .ok (.getfield 54, 3) := by decide +kernel
theorem dX12_cell_46 : decode cX12_cell 46 = .ok (.bipush 40, 2) := by decide +kernel
theorem dX12_cell_48 : decode cX12_cell 48 = .ok (.iload_n 1, 1) := by decide +kernel
theorem dX12_cell_49 : decode cX12_cell 49 = .ok (.imul, 1) := by decide +kernel
theorem dX12_cell_50 : decode cX12_cell 50 = .ok (.iload_n 2, 1) := by decide +kernel
theorem dX12_cell_51 : decode cX12_cell 51 = .ok (.iadd, 1) := by decide +kernel
theorem dX12_cell_52 : decode cX12_cell 52 = .ok (.aload_n 0, 1) := by decide +kernel
theorem dX12_cell_53 : decode cX12_cell 53 = .ok (.getfield 48, 3) := by decide +kernel
theorem dX12_cell_56 : decode cX12_cell 56 = .ok (.iload_n 1, 1) := by decide +kernel
theorem dX12_cell_57 : decode cX12_cell 57 = .ok (.iaload, 1) := by decide +kernel
theorem dX12_cell_58 : decode cX12_cell 58 = .ok (.ifCond .ne 9, 3) := by decide +kernel
theorem dX12_cell_61 : decode cX12_cell 61 = .ok (.iload_n 3, 1) := by decide +kernel
theorem dX12_cell_62 : decode cX12_cell 62 = .ok (.i2b, 1) := by decide +kernel
theorem dX12_cell_63 : decode cX12_cell 63 = .ok (.i2l, 1) := by decide +kernel
theorem dX12_cell_64 : decode cX12_cell 64 = .ok (.goto 5, 3) := by decide +kernel
theorem dX12_cell_67 : decode cX12_cell 67 = .ok (.iload_n 3, 1) := by decide +kernel
theorem dX12_cell_68 : decode cX12_cell 68 = .ok (.i2l, 1) := by decide +kernel
theorem dX12_cell_69 : decode cX12_cell 69 = .ok (.lastore, 1) := by decide +kernel
theorem dX12_cell_70 : decode cX12_cell 70 = .ok (.iconst 1, 1) := by decide +kernel
theorem dX12_cell_71 : decode cX12_cell 71 = .ok (.ireturn, 1) := by decide +kernel
theorem dX12_lay_0 : decode cX12_lay 0 = .ok (.iload_n 1, 1) := by decide +kernel
theorem dX12_lay_1 : decode cX12_lay 1 = .ok (.invokestatic 293, 3) := by decide +kernel
theorem dX12_lay_4 : decode cX12_lay 4 = .ok (.ifCond .eq 12, 3) := by decide +kernel
theorem dX12_lay_7 : decode cX12_lay 7 = .ok (.iload_n 2, 1) := by decide +kernel
theorem dX12_lay_8 : decode cX12_lay 8 = .ok (.iconst 0, 1) := by decide +kernel
theorem dX12_lay_9 : decode cX12_lay 9 = .ok (.iconst 2, 1) := by decide +kernel
theorem dX12_lay_10 : decode cX12_lay 10 = .ok (.invokestatic 85, 3) := by decide +kernel
theorem dX12_lay_13 : decode cX12_lay 13 = .ok (.ifCond .ne 6, 3) := by decide +kernel
theorem dX12_lay_16 : decode cX12_lay 16 = .ok (.bipush (-2), 2) := by decide +kernel
theorem dX12_lay_18 : decode cX12_lay 18 = .ok (.ireturn, 1) := by decide +kernel
theorem dX12_lay_19 : decode cX12_lay 19 = .ok (.aload_n 0, 1) := by decide +kernel
theorem dX12_lay_20 : decode cX12_lay 20 = .ok (.getfield 48, 3) := by decide +kernel
theorem dX12_lay_23 : decode cX12_lay 23 = .ok (.iload_n 1, 1) := by decide +kernel
theorem dX12_lay_24 : decode cX12_lay 24 = .ok (.iaload, 1) := by decide +kernel
theorem dX12_lay_25 : decode cX12_lay 25 = .ok (.iconst (-1), 1) := by decide +kernel
theorem dX12_lay_26 : decode cX12_lay 26 = .ok (.if_icmp .eq 16, 3) := by decide +kernel
theorem dX12_lay_29 : decode cX12_lay 29 = .ok (.aload_n 0, 1) := by decide +kernel
theorem dX12_lay_30 : decode cX12_lay 30 = .ok (.getfield 48, 3) := by decide +kernel
theorem dX12_lay_33 : decode cX12_lay 33 = .ok (.iload_n 1, 1) := by decide +kernel
theorem dX12_lay_34 : decode cX12_lay 34 = .ok (.iaload, 1) := by decide +kernel
theorem dX12_lay_35 : decode cX12_lay 35 = .ok (.iload_n 2, 1) := by decide +kernel
theorem dX12_lay_36 : decode cX12_lay 36 = .ok (.if_icmp .eq 6, 3) := by decide +kernel
theorem dX12_lay_39 : decode cX12_lay 39 = .ok (.bipush (-13), 2) := by decide +kernel
theorem dX12_lay_41 : decode cX12_lay 41 = .ok (.ireturn, 1) := by decide +kernel
theorem dX12_lay_42 : decode cX12_lay 42 = .ok (.aload_n 0, 1) := by decide +kernel
theorem dX12_lay_43 : decode cX12_lay 43 = .ok (.getfield 48, 3) := by decide +kernel
theorem dX12_lay_46 : decode cX12_lay 46 = .ok (.iload_n 1, 1) := by decide +kernel
theorem dX12_lay_47 : decode cX12_lay 47 = .ok (.iaload, 1) := by decide +kernel
theorem dX12_lay_48 : decode cX12_lay 48 = .ok (.iconst (-1), 1) := by decide +kernel
theorem dX12_lay_49 : decode cX12_lay 49 = .ok (.if_icmp .ne 6, 3) := by decide +kernel
theorem dX12_lay_52 : decode cX12_lay 52 = .ok (.bipush (-11), 2) := by decide +kernel
theorem dX12_lay_54 : decode cX12_lay 54 = .ok (.ireturn, 1) := by decide +kernel
theorem dX12_lay_55 : decode cX12_lay 55 = .ok (.iload_n 3, 1) := by decide +kernel
theorem dX12_lay_56 : decode cX12_lay 56 = .ok (.ifCond .lt 15, 3) := by decide +kernel
theorem dX12_lay_59 : decode cX12_lay 59 = .ok (.iload_n 3, 1) := by decide +kernel
theorem dX12_lay_60 : decode cX12_lay 60 = .ok (.aload_n 0, 1) := by decide +kernel
theorem dX12_lay_61 : decode cX12_lay 61 = .ok (.getfield 51, 3) := by decide +kernel
theorem dX12_lay_64 : decode cX12_lay 64 = .ok (.iload_n 1, 1) := by decide +kernel
theorem dX12_lay_65 : decode cX12_lay 65 = .ok (.iaload, 1) := by decide +kernel
theorem dX12_lay_66 : decode cX12_lay 66 = .ok (.iconst 4, 1) := by decide +kernel
theorem dX12_lay_67 : decode cX12_lay 67 = .ok (.isub, 1) := by decide +kernel
theorem dX12_lay_68 : decode cX12_lay 68 = .ok (.if_icmp .le 6, 3) := by decide +kernel
theorem dX12_lay_71 : decode cX12_lay 71 = .ok (.bipush (-12), 2) := by decide +kernel
theorem dX12_lay_73 : decode cX12_lay 73 = .ok (.ireturn, 1) := by decide +kernel
theorem dX12_lay_74 : decode cX12_lay 74 = .ok (.bipush 40, 2) := by decide +kernel
theorem dX12_lay_76 : decode cX12_lay 76 = .ok (.iload_n 1, 1) := by decide +kernel
theorem dX12_lay_77 : decode cX12_lay 77 = .ok (.imul, 1) := by decide +kernel
theorem dX12_lay_78 : decode cX12_lay 78 = .ok (.iload_n 3, 1) := by decide +kernel
theorem dX12_lay_79 : decode cX12_lay 79 = .ok (.iadd, 1) := by decide +kernel
theorem dX12_lay_80 : decode cX12_lay 80 = .ok (.istore 4, 2) := by decide +kernel
theorem dX12_lay_82 : decode cX12_lay 82 = .ok (.aload_n 0, 1) := by decide +kernel
theorem dX12_lay_83 : decode cX12_lay 83 = .ok (.aload_n 0, 1) := by decide +kernel
theorem dX12_lay_84 : decode cX12_lay 84 = .ok (.getfield 54, 3) := by decide +kernel
theorem dX12_lay_87 : decode cX12_lay 87 = .ok (.iload 4, 2) := by decide +kernel
theorem dX12_lay_89 : decode cX12_lay 89 = .ok (.laload, 1) := by decide +kernel
theorem dX12_lay_90 : decode cX12_lay 90 = .ok (.l2i, 1) := by decide +kernel
theorem dX12_lay_91 : decode cX12_lay 91 = .ok (.aload_n 0, 1) := by decide +kernel
theorem dX12_lay_92 : decode cX12_lay 92 = .ok (.getfield 54, 3) := by decide +kernel
theorem dX12_lay_95 : decode cX12_lay 95 = .ok (.iload 4, 2) := by decide +kernel
theorem dX12_lay_97 : decode cX12_lay 97 = .ok (.iconst 1, 1) := by decide +kernel
theorem dX12_lay_98 : decode cX12_lay 98 = .ok (.iadd, 1) := by decide +kernel
theorem dX12_lay_99 : decode cX12_lay 99 = .ok (.laload, 1) := by decide +kernel
theorem dX12_lay_100 : decode cX12_lay 100 = .ok (.l2i, 1) := by decide +kernel
theorem dX12_lay_101 : decode cX12_lay 101 = .ok (.aload_n 0, 1) := by decide +kernel
theorem dX12_lay_102 : decode cX12_lay 102 = .ok (.getfield 54, 3) := by decide +kernel
theorem dX12_lay_105 : decode cX12_lay 105 = .ok (.iload 4, 2) := by decide +kernel
theorem dX12_lay_107 : decode cX12_lay 107 = .ok (.iconst 2, 1) := by decide +kernel
theorem dX12_lay_108 : decode cX12_lay 108 = .ok (.iadd, 1) := by decide +kernel
theorem dX12_lay_109 : decode cX12_lay 109 = .ok (.laload, 1) := by decide +kernel
theorem dX12_lay_110 : decode cX12_lay 110 = .ok (.l2i, 1) := by decide +kernel
theorem dX12_lay_111 : decode cX12_lay 111 = .ok (.aload_n 0, 1) := by decide +kernel
theorem dX12_lay_112 : decode cX12_lay 112 = .ok (.getfield 54, 3) := by decide +kernel
theorem dX12_lay_115 : decode cX12_lay 115 = .ok (.iload 4, 2) := by decide +kernel
theorem dX12_lay_117 : decode cX12_lay 117 = .ok (.iconst 3, 1) := by decide +kernel
theorem dX12_lay_118 : decode cX12_lay 118 = .ok (.iadd, 1) := by decide +kernel
theorem dX12_lay_119 : decode cX12_lay 119 = .ok (.laload, 1) := by decide +kernel
theorem dX12_lay_120 : decode cX12_lay 120 = .ok (.l2i, 1) := by decide +kernel
theorem dX12_lay_121 : decode cX12_lay 121 = .ok (.invokevirtual 296, 3) := by decide +kernel
theorem dX12_lay_124 : decode cX12_lay 124 = .ok (.ireturn, 1) := by decide +kernel
theorem dX12_copy_0 : decode cX12_copy 0 = .ok (.iload_n 1, 1) := by decide +kernel
theorem dX12_copy_1 : decode cX12_copy 1 = .ok (.invokestatic 293, 3) := by decide +kernel
theorem dX12_copy_4 : decode cX12_copy 4 = .ok (.ifCond .eq 10, 3) := by decide +kernel
theorem dX12_copy_7 : decode cX12_copy 7 = .ok (.iload_n 3, 1) := by decide +kernel
theorem dX12_copy_8 : decode cX12_copy 8 = .ok (.invokestatic 293, 3) := by decide +kernel
theorem dX12_copy_11 : decode cX12_copy 11 = .ok (.ifCond .ne 6, 3) := by decide +kernel
theorem dX12_copy_14 : decode cX12_copy 14 = .ok (.bipush (-2), 2) := by decide +kernel
theorem dX12_copy_16 : decode cX12_copy 16 = .ok (.ireturn, 1) := by decide +kernel
theorem dX12_copy_17 : decode cX12_copy 17 = .ok (.aload_n 0, 1) := by decide +kernel
theorem dX12_copy_18 : decode cX12_copy 18 = .ok (.getfield 48, 3) := by decide +kernel
theorem dX12_copy_21 : decode cX12_copy 21 = .ok (.iload_n 1, 1) := by decide +kernel
theorem dX12_copy_22 : decode cX12_copy 22 = .ok (.iaload, 1) := by decide +kernel
theorem dX12_copy_23 : decode cX12_copy 23 = .ok (.iconst (-1), 1) := by decide +kernel
theorem dX12_copy_24 : decode cX12_copy 24 = .ok (.if_icmp .eq 13, 3) := by decide +kernel
theorem dX12_copy_27 : decode cX12_copy 27 = .ok (.aload_n 0, 1) := by decide +kernel
theorem dX12_copy_28 : decode cX12_copy 28 = .ok (.getfield 48, 3) := by decide +kernel
theorem dX12_copy_31 : decode cX12_copy 31 = .ok (.iload_n 3, 1) := by decide +kernel
theorem dX12_copy_32 : decode cX12_copy 32 = .ok (.iaload, 1) := by decide +kernel
theorem dX12_copy_33 : decode cX12_copy 33 = .ok (.iconst (-1), 1) := by decide +kernel
theorem dX12_copy_34 : decode cX12_copy 34 = .ok (.if_icmp .ne 6, 3) := by decide +kernel
theorem dX12_copy_37 : decode cX12_copy 37 = .ok (.bipush (-11), 2) := by decide +kernel
theorem dX12_copy_39 : decode cX12_copy 39 = .ok (.ireturn, 1) := by decide +kernel
theorem dX12_copy_40 : decode cX12_copy 40 = .ok (.aload_n 0, 1) := by decide +kernel
theorem dX12_copy_41 : decode cX12_copy 41 = .ok (.getfield 48, 3) := by decide +kernel
theorem dX12_copy_44 : decode cX12_copy 44 = .ok (.iload_n 1, 1) := by decide +kernel
theorem dX12_copy_45 : decode cX12_copy 45 = .ok (.iaload, 1) := by decide +kernel
theorem dX12_copy_46 : decode cX12_copy 46 = .ok (.aload_n 0, 1) := by decide +kernel
theorem dX12_copy_47 : decode cX12_copy 47 = .ok (.getfield 48, 3) := by decide +kernel
theorem dX12_copy_50 : decode cX12_copy 50 = .ok (.iload_n 3, 1) := by decide +kernel
theorem dX12_copy_51 : decode cX12_copy 51 = .ok (.iaload, 1) := by decide +kernel
theorem dX12_copy_52 : decode cX12_copy 52 = .ok (.if_icmp .eq 6, 3) := by decide +kernel
theorem dX12_copy_55 : decode cX12_copy 55 = .ok (.bipush (-13), 2) := by decide +kernel
theorem dX12_copy_57 : decode cX12_copy 57 = .ok (.ireturn, 1) := by decide +kernel
theorem dX12_copy_58 : decode cX12_copy 58 = .ok (.iload 5, 2) := by decide +kernel
theorem dX12_copy_60 : decode cX12_copy 60 = .ok (.ifCond .lt 39, 3) := by decide +kernel
theorem dX12_copy_63 : decode cX12_copy 63 = .ok (.iload_n 2, 1) := by decide +kernel
theorem dX12_copy_64 : decode cX12_copy 64 = .ok (.ifCond .lt 35, 3) := by decide +kernel
theorem dX12_copy_67 : decode cX12_copy 67 = .ok (.iload 4, 2) := by decide +kernel
theorem dX12_copy_69 : decode cX12_copy 69 = .ok (.ifCond .lt 30, 3) := by decide +kernel
theorem dX12_copy_72 : decode cX12_copy 72 = .ok (.iload_n 2, 1) := by decide +kernel
theorem dX12_copy_73 : decode cX12_copy 73 = .ok (.aload_n 0, 1) := by decide +kernel
theorem dX12_copy_74 : decode cX12_copy 74 = .ok (.getfield 51, 3) := by decide +kernel
theorem dX12_copy_77 : decode cX12_copy 77 = .ok (.iload_n 1, 1) := by decide +kernel
theorem dX12_copy_78 : decode cX12_copy 78 = .ok (.iaload, 1) := by decide +kernel
theorem dX12_copy_79 : decode cX12_copy 79 = .ok (.iload 5, 2) := by decide +kernel
theorem dX12_copy_81 : decode cX12_copy 81 = .ok (.isub, 1) := by decide +kernel
theorem dX12_copy_82 : decode cX12_copy 82 = .ok (.if_icmp .gt 17, 3) := by decide +kernel
theorem dX12_copy_85 : decode cX12_copy 85 = .ok (.iload 4, 2) := by decide +kernel
theorem dX12_copy_87 : decode cX12_copy 87 = .ok (.aload_n 0, 1) := by decide +kernel
theorem dX12_copy_88 : decode cX12_copy 88 = .ok (.getfield 51, 3) := by decide +kernel
theorem dX12_copy_91 : decode cX12_copy 91 = .ok (.iload_n 3, 1) := by decide +kernel
theorem dX12_copy_92 : decode cX12_copy 92 = .ok (.iaload, 1) := by decide +kernel
theorem dX12_copy_93 : decode cX12_copy 93 = .ok (.iload 5, 2) := by decide +kernel
theorem dX12_copy_95 : decode cX12_copy 95 = .ok (.isub, 1) := by decide +kernel
theorem dX12_copy_96 : decode cX12_copy 96 = .ok (.if_icmp .le 6, 3) := by decide +kernel
theorem dX12_copy_99 : decode cX12_copy 99 = .ok (.bipush (-12), 2) := by decide +kernel
theorem dX12_copy_101 : decode cX12_copy 101 = .ok (.ireturn, 1) := by decide +kernel
theorem dX12_copy_102 : decode cX12_copy 102 = .ok (.iconst 0, 1) := by decide +kernel
theorem dX12_copy_103 : decode cX12_copy 103 = .ok (.istore 6, 2) := by decide +kernel
theorem dX12_copy_105 : decode cX12_copy 105 = .ok (.iload 6, 2) := by decide +kernel
theorem dX12_copy_107 : decode cX12_copy 107 = .ok (.iload 5, 2) := by decide +kernel
theorem dX12_copy_109 : decode cX12_copy 109 = .ok (.if_icmp .ge 30, 3) := by decide +kernel
theorem dX12_copy_112 : decode cX12_copy 112 = .ok (.aload_n 0, 1) := by decide +kernel
theorem dX12_copy_113 : decode cX12_copy 113 = .ok (.getfield 75, 3) := by decide +kernel
theorem dX12_copy_116 : decode cX12_copy 116 = .ok (.iload 6, 2) := by decide +kernel
theorem dX12_copy_118 : decode cX12_copy 118 = .ok (.aload_n 0, 1) := by decide +kernel
theorem dX12_copy_119 : decode cX12_copy 119 = .ok (.getfield 54, 3) := by decide +kernel
theorem dX12_copy_122 : decode cX12_copy 122 = .ok (.bipush 40, 2) := by decide +kernel
theorem dX12_copy_124 : decode cX12_copy 124 = .ok (.iload_n 1, 1) := by decide +kernel
theorem dX12_copy_125 : decode cX12_copy 125 = .ok (.imul, 1) := by decide +kernel
theorem dX12_copy_126 : decode cX12_copy 126 = .ok (.iload_n 2, 1) := by decide +kernel
theorem dX12_copy_127 : decode cX12_copy 127 = .ok (.iadd, 1) := by decide +kernel
theorem dX12_copy_128 : decode cX12_copy 128 = .ok (.iload 6, 2) := by decide +kernel
theorem dX12_copy_130 : decode cX12_copy 130 = .ok (.iadd, 1) := by decide +kernel
theorem dX12_copy_131 : decode cX12_copy 131 = .ok (.laload, 1) := by decide +kernel
theorem dX12_copy_132 : decode cX12_copy 132 = .ok (.lastore, 1) := by decide +kernel
theorem dX12_copy_133 : decode cX12_copy 133 = .ok (.iinc 6 1, 3) := by decide +kernel
theorem dX12_copy_136 : decode cX12_copy 136 = .ok (.goto (-31), 3) := by decide +kernel
theorem dX12_copy_139 : decode cX12_copy 139 = .ok (.iconst 0, 1) := by decide +kernel
theorem dX12_copy_140 : decode cX12_copy 140 = .ok (.istore 6, 2) := by decide +kernel
theorem dX12_copy_142 : decode cX12_copy 142 = .ok (.iload 6, 2) := by decide +kernel
theorem dX12_copy_144 : decode cX12_copy 144 = .ok (.iload 5, 2) := by decide +kernel
theorem dX12_copy_146 : decode cX12_copy 146 = .ok (.if_icmp .ge 31, 3) := by decide +kernel
theorem dX12_copy_149 : decode cX12_copy 149 = .ok (.aload_n 0, 1) := by decide +kernel
theorem dX12_copy_150 : decode cX12_copy 150 = .ok (.getfield 54, 3) := by decide +kernel
theorem dX12_copy_153 : decode cX12_copy 153 = .ok (.bipush 40, 2) := by decide +kernel
theorem dX12_copy_155 : decode cX12_copy 155 = .ok (.iload_n 3, 1) := by decide +kernel
theorem dX12_copy_156 : decode cX12_copy 156 = .ok (.imul, 1) := by decide +kernel
theorem dX12_copy_157 : decode cX12_copy 157 = .ok (.iload 4, 2) := by decide +kernel
theorem dX12_copy_159 : decode cX12_copy 159 = .ok (.iadd, 1) := by decide +kernel
theorem dX12_copy_160 : decode cX12_copy 160 = .ok (.iload 6, 2) := by decide +kernel
theorem dX12_copy_162 : decode cX12_copy 162 = .ok (.iadd, 1) := by decide +kernel
theorem dX12_copy_163 : decode cX12_copy 163 = .ok (.aload_n 0, 1) := by decide +kernel
theorem dX12_copy_164 : decode cX12_copy 164 = .ok (.getfield 75, 3) := by decide +kernel
theorem dX12_copy_167 : decode cX12_copy 167 = .ok (.iload 6, 2) := by decide +kernel
theorem dX12_copy_169 : decode cX12_copy 169 = .ok (.laload, 1) := by decide +kernel
theorem dX12_copy_170 : decode cX12_copy 170 = .ok (.lastore, 1) := by decide +kernel
theorem dX12_copy_171 : decode cX12_copy 171 = .ok (.iinc 6 1, 3) := by decide +kernel
theorem dX12_copy_174 : decode cX12_copy 174 = .ok (.goto (-32), 3) := by decide +kernel
theorem dX12_copy_177 : decode cX12_copy 177 = .ok (.iload 5, 2) := by decide +kernel
theorem dX12_copy_179 : decode cX12_copy 179 = .ok (.ireturn, 1) := by decide +kernel
theorem dX12_taken_0 : decode cX12_taken 0 = .ok (.iload_n 2, 1) := by decide +kernel
theorem dX12_taken_1 : decode cX12_taken 1 = .ok (.iconst 0, 1) := by decide +kernel
theorem dX12_taken_2 : decode cX12_taken 2 = .ok (.iconst 3, 1) := by decide +kernel
theorem dX12_taken_3 : decode cX12_taken 3 = .ok (.invokestatic 85, 3) := by decide +kernel
theorem dX12_taken_6 : decode cX12_taken 6 = .ok (.ifCond .ne 6, 3) := by decide +kernel
theorem dX12_taken_9 : decode cX12_taken 9 = .ok (.bipush (-2), 2) := by decide +kernel
theorem dX12_taken_11 : decode cX12_taken 11 = .ok (.ireturn, 1) := by decide +kernel
theorem dX12_taken_12 : decode cX12_taken 12 = .ok (.aload_n 0, 1) := by decide +kernel
theorem dX12_taken_13 : decode cX12_taken 13 = .ok (.iload_n 1, 1) := by decide +kernel
theorem dX12_taken_14 : decode cX12_taken 14 = .ok (.invokevirtual 115, 3) := by decide +kernel
theorem dX12_taken_17 : decode cX12_taken 17 = .ok (.ifCond .ne 6, 3) := by decide +kernel
theorem dX12_taken_20 : decode cX12_taken 20 = .ok (.bipush (-11), 2) := by decide +kernel
theorem dX12_taken_22 : decode cX12_taken 22 = .ok (.ireturn, 1) := by decide +kernel
theorem dX12_taken_23 : decode cX12_taken 23 = .ok (.iload_n 2, 1) := by decide +kernel
theorem dX12_taken_24 : decode cX12_taken 24 = .ok (.ifCond .eq 28, 3) := by decide +kernel
theorem dX12_taken_27 : decode cX12_taken 27 = .ok (.aload_n 0, 1) := by decide +kernel
theorem dX12_taken_28 : decode cX12_taken 28 = .ok (.getfield 16, 3) := by decide +kernel
theorem dX12_taken_31 : decode cX12_taken 31 = .ok (.iload_n 1, 1) := by decide +kernel
theorem dX12_taken_32 : decode cX12_taken 32 = .ok (.iaload, 1) := by decide +kernel
theorem dX12_taken_33 : decode cX12_taken 33 = .ok (.iload_n 2, 1) := by decide +kernel
theorem dX12_taken_34 : decode cX12_taken 34 = .ok (.if_icmp .eq 18, 3) := by decide +kernel
theorem dX12_taken_37 : decode cX12_taken 37 = .ok (.aload_n 0, 1) := by decide +kernel
theorem dX12_taken_38 : decode cX12_taken 38 = .ok (.getfield 16, 3) := by decide +kernel
theorem dX12_taken_41 : decode cX12_taken 41 = .ok (.iload_n 1, 1) := by decide +kernel
theorem dX12_taken_42 : decode cX12_taken 42 = .ok (.iaload, 1) := by decide +kernel
theorem dX12_taken_43 : decode cX12_taken 43 = .ok (.iconst 3, 1) := by decide +kernel
theorem dX12_taken_44 : decode cX12_taken 44 = .ok (.if_icmp .ne 12, 3) := by decide +kernel
theorem dX12_taken_47 : decode cX12_taken 47 = .ok (.iload_n 2, 1) := by decide +kernel
theorem dX12_taken_48 : decode cX12_taken 48 = .ok (.iconst 1, 1) := by decide +kernel
theorem dX12_taken_49 : decode cX12_taken 49 = .ok (.if_icmp .ne 7, 3) := by decide +kernel
theorem dX12_taken_52 : decode cX12_taken 52 = .ok (.iconst 1, 1) := by decide +kernel
theorem dX12_taken_53 : decode cX12_taken 53 = .ok (.goto 4, 3) := by decide +kernel
theorem dX12_taken_56 : decode cX12_taken 56 = .ok (.iconst 0, 1) := by decide +kernel
theorem dX12_taken_57 : decode cX12_taken 57 = .ok (.istore_n 3, 1) := by decide +kernel
theorem dX12_taken_58 : decode cX12_taken 58 = .ok (.iload_n 3, 1) := by decide +kernel
theorem dX12_taken_59 : decode cX12_taken 59 = .ok (.ifCond .ne 6, 3) := by decide +kernel
theorem dX12_taken_62 : decode cX12_taken 62 = .ok (.bipush (-13), 2) := by decide +kernel
theorem dX12_taken_64 : decode cX12_taken 64 = .ok (.ireturn, 1) := by decide +kernel
theorem dX12_taken_65 : decode cX12_taken 65 = .ok (.aload_n 0, 1) := by decide +kernel
theorem dX12_taken_66 : decode cX12_taken 66 = .ok (.iload_n 1, 1) := by decide +kernel
theorem dX12_taken_67 : decode cX12_taken 67 = .ok (.invokevirtual 168, 3) := by decide +kernel
theorem dX12_taken_70 : decode cX12_taken 70 = .ok (.aload_n 0, 1) := by decide +kernel
theorem dX12_taken_71 : decode cX12_taken 71 = .ok (.getfield 150, 3) := by decide +kernel
theorem dX12_taken_74 : decode cX12_taken 74 = .ok (.ireturn, 1) := by decide +kernel
