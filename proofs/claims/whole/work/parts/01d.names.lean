theorem dX8_init_42 : decode cX8_init 42 = .ok (.bipush 6, 2) := by decide +kernel
theorem dX8_init_44 : decode cX8_init 44 = .ok (.newarray .int, 2) := by decide +kernel
theorem dX8_init_46 : decode cX8_init 46 = .ok (.putfield 26, 3) := by decide +kernel
theorem dX8_init_49 : decode cX8_init 49 = .ok (.aload_n 0, 1) := by decide +kernel
theorem dX8_init_50 : decode cX8_init 50 = .ok (.bipush 18, 2) := by decide +kernel
theorem dX8_init_52 : decode cX8_init 52 = .ok (.newarray .int, 2) := by decide +kernel
theorem dX8_init_54 : decode cX8_init 54 = .ok (.putfield 29, 3) := by decide +kernel
theorem dX8_init_57 : decode cX8_init 57 = .ok (.aload_n 0, 1) := by decide +kernel
theorem dX8_init_58 : decode cX8_init 58 = .ok (.bipush 18, 2) := by decide +kernel
theorem dX8_init_60 : decode cX8_init 60 = .ok (.newarray .boolean, 2) := by decide +kernel
theorem dX8_init_62 : decode cX8_init 62 = .ok (.putfield 32, 3) := by decide +kernel
theorem dX8_init_65 : decode cX8_init 65 = .ok (.aload_n 0, 1) := by decide +kernel
theorem dX8_init_66 : decode cX8_init 66 = .ok (.bipush 18, 2) := by decide +kernel
theorem dX8_init_68 : decode cX8_init 68 = .ok (.newarray .int, 2) := by decide +kernel
theorem dX8_init_70 : decode cX8_init 70 = .ok (.putfield 35, 3) := by decide +kernel
theorem dX8_init_73 : decode cX8_init 73 = .ok (.aload_n 0, 1) := by decide +kernel
theorem dX8_init_74 : decode cX8_init 74 = .ok (.bipush 18, 2) := by decide +kernel
theorem dX8_init_76 : decode cX8_init 76 = .ok (.newarray .int, 2) := by decide +kernel
theorem dX8_init_78 : decode cX8_init 78 = .ok (.putfield 38, 3) := by decide +kernel
theorem dX8_init_81 : decode cX8_init 81 = .ok (.aload_n 0, 1) := by decide +kernel
theorem dX8_init_82 : decode cX8_init 82 = .ok (.ldc 41, 2) := by decide +kernel
theorem dX8_init_84 : decode cX8_init 84 = .ok (.newarray .int, 2) := by decide +kernel
theorem dX8_init_86 : decode cX8_init 86 = .ok (.putfield 42, 3) := by decide +kernel
theorem dX8_init_89 : decode cX8_init 89 = .ok (.aload_n 0, 1) := by decide +kernel
theorem dX8_init_90 : decode cX8_init 90 = .ok (.ldc 45, 2) := by decide +kernel
theorem dX8_init_92 : decode cX8_init 92 = .ok (.newarray .int, 2) := by decide +kernel
theorem dX8_init_94 : decode cX8_init 94 = .ok (.putfield 46, 3) := by decide +kernel
theorem dX8_init_97 : decode cX8_init 97 = .ok (.aload_n 0, 1) := by decide +kernel
theorem dX8_init_98 : decode cX8_init 98 = .ok (.ldc 45, 2) := by decide +kernel
theorem dX8_init_100 : decode cX8_init 100 = .ok (.newarray .int, 2) := by decide +kernel
theorem dX8_init_102 : decode cX8_init 102 = .ok (.putfield 49, 3) := by decide +kernel
theorem dX8_init_105 : decode cX8_init 105 = .ok (.aload_n 0, 1) := by decide +kernel
theorem dX8_init_106 : decode cX8_init 106 = .ok (.sipush 512, 3) := by decide +kernel
theorem dX8_init_109 : decode cX8_init 109 = .ok (.newarray .int, 2) := by decide +kernel
theorem dX8_init_111 : decode cX8_init 111 = .ok (.putfield 52, 3) := by decide +kernel
theorem dX8_init_114 : decode cX8_init 114 = .ok (.aload_n 0, 1) := by decide +kernel
theorem dX8_init_115 : decode cX8_init 115 = .ok (.bipush 36, 2) := by decide +kernel
theorem dX8_init_117 : decode cX8_init 117 = .ok (.newarray .int, 2) := by decide +kernel
theorem dX8_init_119 : decode cX8_init 119 = .ok (.putfield 55, 3) := by decide +kernel
theorem dX8_init_122 : decode cX8_init 122 = .ok (.aload_n 0, 1) := by decide +kernel
theorem dX8_init_123 : decode cX8_init 123 = .ok (.bipush 18, 2) := by decide +kernel
theorem dX8_init_125 : decode cX8_init 125 = .ok (.newarray .int, 2) := by decide +kernel
theorem dX8_init_127 : decode cX8_init 127 = .ok (.putfield 58, 3) := by decide +kernel
theorem dX8_init_130 : decode cX8_init 130 = .ok (.aload_n 0, 1) := by decide +kernel
theorem dX8_init_131 : decode cX8_init 131 = .ok (.bipush 18, 2) := by decide +kernel
theorem dX8_init_133 : decode cX8_init 133 = .ok (.newarray .int, 2) := by decide +kernel
theorem dX8_init_135 : decode cX8_init 135 = .ok (.putfield 61, 3) := by decide +kernel
theorem dX8_init_138 : decode cX8_init 138 = .ok (.aload_n 0, 1) := by decide +kernel
theorem dX8_init_139 : decode cX8_init 139 = .ok (.bipush 18, 2) := by decide +kernel
theorem dX8_init_141 : decode cX8_init 141 = .ok (.newarray .long, 2) := by decide +kernel
theorem dX8_init_143 : decode cX8_init 143 = .ok (.putfield 64, 3) := by decide +kernel
theorem dX8_init_146 : decode cX8_init 146 = .ok (.aload_n 0, 1) := by decide +kernel
theorem dX8_init_147 : decode cX8_init 147 = .ok (.bipush 60, 2) := by decide +kernel
theorem dX8_init_149 : decode cX8_init 149 = .ok (.newarray .long, 2) := by decide +kernel
theorem dX8_init_151 : decode cX8_init 151 = .ok (.putfield 68, 3) := by decide +kernel
theorem dX8_init_154 : decode cX8_init 154 = .ok (.aload_n 0, 1) := by decide +kernel
theorem dX8_init_155 : decode cX8_init 155 = .ok (.bipush 60, 2) := by decide +kernel
theorem dX8_init_157 : decode cX8_init 157 = .ok (.newarray .int, 2) := by decide +kernel
theorem dX8_init_159 : decode cX8_init 159 = .ok (.putfield 71, 3) := by decide +kernel
theorem dX8_init_162 : decode cX8_init 162 = .ok (.aload_n 0, 1) := by decide +kernel
theorem dX8_init_163 : decode cX8_init 163 = .ok (.lconst 1, 1) := by decide +kernel
theorem dX8_init_164 : decode cX8_init 164 = .ok (.putfield 74, 3) := by decide +kernel
theorem dX8_init_167 : decode cX8_init 167 = .ok (.return_, 1) := by decide +kernel
theorem dX8_within_0 : decode cX8_within 0 = .ok (.iload_n 0, 1) := by decide +kernel
theorem dX8_within_1 : decode cX8_within 1 = .ok (.iload_n 1, 1) := by decide +kernel
theorem dX8_within_2 : decode cX8_within 2 = .ok (.if_icmp .lt 12, 3) := by decide +kernel
theorem dX8_within_5 : decode cX8_within 5 = .ok (.iload_n 0, 1) := by decide +kernel
theorem dX8_within_6 : decode cX8_within 6 = .ok (.iload_n 2, 1) := by decide +kernel
theorem dX8_within_7 : decode cX8_within 7 = .ok (.if_icmp .gt 7, 3) := by decide +kernel
theorem dX8_within_10 : decode cX8_within 10 = .ok (.iconst 1, 1) := by decide +kernel
theorem dX8_within_11 : decode cX8_within 11 = .ok (.goto 4, 3) := by decide +kernel
theorem dX8_within_14 : decode cX8_within 14 = .ok (.iconst 0, 1) := by decide +kernel
theorem dX8_within_15 : decode cX8_within 15 = .ok (.ireturn, 1) := by decide +kernel
set_option maxRecDepth 20000 in
theorem ggX8_parses_X8_within : GoodIn wsX8_parses wsX8_within := goodIn_r _ [7] rfl (by decide +kernel)
set_option maxRecDepth 20000 in
theorem gX8_parses_X8_within : GoodIn wsX8_parses (va_wsS RX8 84 yX8_within wsX8_within) := goodIn_app (goodIn_of _ (by decide +kernel)) ggX8_parses_X8_within
theorem dX8_parses_0 : decode cX8_parses 0 = .ok (.aload_n 0, 1) := by decide +kernel
theorem dX8_parses_1 : decode cX8_parses 1 = .ok (.iconst 0, 1) := by decide +kernel
theorem dX8_parses_2 : decode cX8_parses 2 = .ok (.putfield 78, 3) := by decide +kernel
theorem dX8_parses_5 : decode cX8_parses 5 = .ok (.lload_n 1, 1) := by decide +kernel
theorem dX8_parses_6 : decode cX8_parses 6 = .ok (.lstore_n 3, 1) := by decide +kernel
theorem dX8_parses_7 : decode cX8_parses 7 = .ok (.lload_n 3, 1) := by decide +kernel
theorem dX8_parses_8 : decode cX8_parses 8 = .ok (.lconst 0, 1) := by decide +kernel
theorem dX8_parses_9 : decode cX8_parses 9 = .ok (.lcmp, 1) := by decide +kernel
theorem dX8_parses_10 : decode cX8_parses 10 = .ok (.ifCond .le 22, 3) := by decide +kernel
theorem dX8_parses_13 : decode cX8_parses 13 = .ok (.aload_n 0, 1) := by decide +kernel
theorem dX8_parses_14 : decode cX8_parses 14 = .ok (.dup, 1) := by decide +kernel
theorem dX8_parses_15 : decode cX8_parses 15 = .ok (.getfield 78, 3) := by decide +kernel
theorem dX8_parses_18 : decode cX8_parses 18 = .ok (.iconst 1, 1) := by decide +kernel
theorem dX8_parses_19 : decode cX8_parses 19 = .ok (.iadd, 1) := by decide +kernel
theorem dX8_parses_20 : decode cX8_parses 20 = .ok (.putfield 78, 3) := by decide +kernel
theorem dX8_parses_23 : decode cX8_parses 23 = .ok (.lload_n 3, 1) := by decide +kernel
theorem dX8_parses_24 : decode cX8_parses 24 = .ok (.ldc2_w 82, 3) := by decide +kernel
theorem dX8_parses_27 : decode cX8_parses 27 = .ok (.ldiv, 1) := by decide +kernel
theorem dX8_parses_28 : decode cX8_parses 28 = .ok (.lstore_n 3, 1) := by decide +kernel
theorem dX8_parses_29 : decode cX8_parses 29 = .ok (.goto (-22), 3) := by decide +kernel
theorem dX8_parses_32 : decode cX8_parses 32 = .ok (.aload_n 0, 1) := by decide +kernel
theorem dX8_parses_33 : decode cX8_parses 33 = .ok (.getfield 78, 3) := by decide +kernel
theorem dX8_parses_36 : decode cX8_parses 36 = .ok (.iconst 1, 1) := by decide +kernel
theorem dX8_parses_37 : decode cX8_parses 37 = .ok (.bipush 18, 2) := by decide +kernel
theorem dX8_parses_39 : decode cX8_parses 39 = .ok (.invokestatic 84, 3) := by decide +kernel
theorem dX8_parses_42 : decode cX8_parses 42 = .ok (.ifCond .ne 5, 3) := by decide +kernel
theorem dX8_parses_45 : decode cX8_parses 45 = .ok (.iconst 0, 1) := by decide +kernel
theorem dX8_parses_46 : decode cX8_parses 46 = .ok (.ireturn, 1) := by decide +kernel
theorem dX8_parses_47 : decode cX8_parses 47 = .ok (.lload_n 1, 1) := by decide +kernel
theorem dX8_parses_48 : decode cX8_parses 48 = .ok (.lstore_n 3, 1) := by decide +kernel
theorem dX8_parses_49 : decode cX8_parses 49 = .ok (.aload_n 0, 1) := by decide +kernel
theorem dX8_parses_50 : decode cX8_parses 50 = .ok (.getfield 78, 3) := by decide +kernel
theorem dX8_parses_53 : decode cX8_parses 53 = .ok (.iconst 1, 1) := by decide +kernel
theorem dX8_parses_54 : decode cX8_parses 54 = .ok (.isub, 1) := by decide +kernel
theorem dX8_parses_55 : decode cX8_parses 55 = .ok (.istore 5, 2) := by decide +kernel
theorem dX8_parses_57 : decode cX8_parses 57 = .ok (.iload 5, 2) := by decide +kernel
theorem dX8_parses_59 : decode cX8_parses 59 = .ok (.ifCond .lt 28, 3) := by decide +kernel
theorem dX8_parses_62 : decode cX8_parses 62 = .ok (.aload_n 0, 1) := by decide +kernel
theorem dX8_parses_63 : decode cX8_parses 63 = .ok (.getfield 7, 3) := by decide +kernel
theorem dX8_parses_66 : decode cX8_parses 66 = .ok (.iload 5, 2) := by decide +kernel
theorem dX8_parses_68 : decode cX8_parses 68 = .ok (.lload_n 3, 1) := by decide +kernel
theorem dX8_parses_69 : decode cX8_parses 69 = .ok (.ldc2_w 82, 3) := by decide +kernel
theorem dX8_parses_72 : decode cX8_parses 72 = .ok (.lrem, 1) := by decide +kernel
theorem dX8_parses_73 : decode cX8_parses 73 = .ok (.l2i, 1) := by decide +kernel
theorem dX8_parses_74 : decode cX8_parses 74 = .ok (.iastore, 1) := by decide +kernel
theorem dX8_parses_75 : decode cX8_parses 75 = .ok (.lload_n 3, 1) := by decide +kernel
theorem dX8_parses_76 : decode cX8_parses 76 = .ok (.ldc2_w 82, 3) := by decide +kernel
theorem dX8_parses_79 : decode cX8_parses 79 = .ok (.ldiv, 1) := by decide +kernel
theorem dX8_parses_80 : decode cX8_parses 80 = .ok (.lstore_n 3, 1) := by decide +kernel
theorem dX8_parses_81 : decode cX8_parses 81 = .ok (.iinc 5 (-1), 3) := by decide +kernel
theorem dX8_parses_84 : decode cX8_parses 84 = .ok (.goto (-27), 3) := by decide +kernel
theorem dX8_parses_87 : decode cX8_parses 87 = .ok (.iconst 1, 1) := by decide +kernel
theorem dX8_parses_88 : decode cX8_parses 88 = .ok (.istore 5, 2) := by decide +kernel
theorem dX8_parses_90 : decode cX8_parses 90 = .ok (.iconst 0, 1) := by decide +kernel
theorem dX8_parses_91 : decode cX8_parses 91 = .ok (.istore 6, 2) := by decide +kernel
theorem dX8_parses_93 : decode cX8_parses 93 = .ok (.iload 6, 2) := by decide +kernel
theorem dX8_parses_95 : decode cX8_parses 95 = .ok (.aload_n 0, 1) := by decide +kernel
theorem dX8_parses_96 : decode cX8_parses 96 = .ok (.getfield 78, 3) := by decide +kernel
theorem dX8_parses_99 : decode cX8_parses 99 = .ok (.if_icmp .ge 70, 3) := by decide +kernel
theorem dX8_parses_102 : decode cX8_parses 102 = .ok (.iload 5, 2) := by decide +kernel
theorem dX8_parses_104 : decode cX8_parses 104 = .ok (.ifCond .eq 19, 3) := by decide +kernel
theorem dX8_parses_107 : decode cX8_parses 107 = .ok (.aload_n 0, 1) := by decide +kernel
theorem dX8_parses_108 : decode cX8_parses 108 = .ok (.getfield 7, 3) := by decide +kernel
theorem dX8_parses_111 : decode cX8_parses 111 = .ok (.iload 6, 2) := by decide +kernel
theorem dX8_parses_113 : decode cX8_parses 113 = .ok (.iaload, 1) := by decide +kernel
theorem dX8_parses_114 : decode cX8_parses 114 = .ok (.iconst 1, 1) := by decide +kernel
theorem dX8_parses_115 : decode cX8_parses 115 = .ok (.bipush 8, 2) := by decide +kernel
theorem dX8_parses_117 : decode cX8_parses 117 = .ok (.invokestatic 84, 3) := by decide +kernel
theorem dX8_parses_120 : decode cX8_parses 120 = .ok (.ifCond .ne 5, 3) := by decide +kernel
theorem dX8_parses_123 : decode cX8_parses 123 = .ok (.iconst 0, 1) := by decide +kernel
theorem dX8_parses_124 : decode cX8_parses 124 = .ok (.ireturn, 1) := by decide +kernel
theorem dX8_parses_125 : decode cX8_parses 125 = .ok (.iload 5, 2) := by decide +kernel
theorem dX8_parses_127 : decode cX8_parses 127 = .ok (.aload_n 0, 1) := by decide +kernel
theorem dX8_parses_128 : decode cX8_parses 128 = .ok (.getfield 7, 3) := by decide +kernel
theorem dX8_parses_131 : decode cX8_parses 131 = .ok (.iload 6, 2) := by decide +kernel
theorem dX8_parses_133 : decode cX8_parses 133 = .ok (.iaload, 1) := by decide +kernel
theorem dX8_parses_134 : decode cX8_parses 134 = .ok (.bipush 6, 2) := by decide +kernel
theorem dX8_parses_136 : decode cX8_parses 136 = .ok (.if_icmp .ge 7, 3) := by decide +kernel
theorem dX8_parses_139 : decode cX8_parses 139 = .ok (.iconst (-1), 1) := by decide +kernel
theorem dX8_parses_140 : decode cX8_parses 140 = .ok (.goto 20, 3) := by decide +kernel
theorem dX8_parses_143 : decode cX8_parses 143 = .ok (.aload_n 0, 1) := by decide +kernel
theorem dX8_parses_144 : decode cX8_parses 144 = .ok (.getfield 7, 3) := by decide +kernel
theorem dX8_parses_147 : decode cX8_parses 147 = .ok (.iload 6, 2) := by decide +kernel
theorem dX8_parses_149 : decode cX8_parses 149 = .ok (.iaload, 1) := by decide +kernel
theorem dX8_parses_150 : decode cX8_parses 150 = .ok (.bipush 8, 2) := by decide +kernel
theorem dX8_parses_152 : decode cX8_parses 152 = .ok (.if_icmp .ne 7, 3) := by decide +kernel
theorem dX8_parses_155 : decode cX8_parses 155 = .ok (.iconst 0, 1) := by decide +kernel
theorem dX8_parses_156 : decode cX8_parses 156 = .ok (.goto 4, 3) := by decide +kernel
theorem dX8_parses_159 : decode cX8_parses 159 = .ok (.iconst 1, 1) := by decide +kernel
theorem dX8_parses_160 : decode cX8_parses 160 = .ok (.iadd, 1) := by decide +kernel
theorem dX8_parses_161 : decode cX8_parses 161 = .ok (.istore 5, 2) := by decide +kernel
theorem dX8_parses_163 : decode cX8_parses 163 = .ok (.iinc 6 1, 3) := by decide +kernel
theorem dX8_parses_166 : decode cX8_parses 166 = .ok (.goto (-73), 3) := by decide +kernel
theorem dX8_parses_169 : decode cX8_parses 169 = .ok (.iload 5, 2) := by decide +kernel
theorem dX8_parses_171 : decode cX8_parses 171 = .ok (.ifCond .ne 7, 3) := by decide +kernel
theorem dX8_parses_174 : decode cX8_parses 174 = .ok (.iconst 1, 1) := by decide +kernel
theorem dX8_parses_175 : decode cX8_parses 175 = .ok (.goto 4, 3) := by decide +kernel
theorem dX8_parses_178 : decode cX8_parses 178 = .ok (.iconst 0, 1) := by decide +kernel
theorem dX8_parses_179 : decode cX8_parses 179 = .ok (.ireturn, 1) := by decide +kernel
theorem dX8_endOf_0 : decode cX8_endOf 0 = .ok (.iconst 1, 1) := by decide +kernel
theorem dX8_endOf_1 : decode cX8_endOf 1 = .ok (.istore_n 2, 1) := by decide +kernel
theorem dX8_endOf_2 : decode cX8_endOf 2 = .ok (.iload_n 1, 1) := by decide +kernel
theorem dX8_endOf_3 : decode cX8_endOf 3 = .ok (.istore_n 3, 1) := by decide +kernel
theorem dX8_endOf_4 : decode cX8_endOf 4 = .ok (.iload_n 2, 1) := by decide +kernel
theorem dX8_endOf_5 : decode cX8_endOf 5 = .ok (.ifCond .le 43, 3) := by decide +kernel
theorem dX8_endOf_8 : decode cX8_endOf 8 = .ok (.iload_n 2, 1) := by decide +kernel
theorem dX8_endOf_9 : decode cX8_endOf 9 = .ok (.aload_n 0, 1) := by decide +kernel
theorem dX8_endOf_10 : decode cX8_endOf 10 = .ok (.getfield 7, 3) := by decide +kernel
theorem dX8_endOf_13 : decode cX8_endOf 13 = .ok (.iload_n 3, 1) := by decide +kernel
theorem dX8_endOf_14 : decode cX8_endOf 14 = .ok (.iaload, 1) := by decide +kernel
theorem dX8_endOf_15 : decode cX8_endOf 15 = .ok (.bipush 6, 2) := by decide +kernel
theorem dX8_endOf_17 : decode cX8_endOf 17 = .ok (.if_icmp .ge 7, 3) := by decide +kernel
theorem dX8_endOf_20 : decode cX8_endOf 20 = .ok (.iconst (-1), 1) := by decide +kernel
theorem dX8_endOf_21 : decode cX8_endOf 21 = .ok (.goto 19, 3) := by decide +kernel
theorem dX8_endOf_24 : decode cX8_endOf 24 = .ok (.aload_n 0, 1) := by decide +kernel
theorem dX8_endOf_25 : decode cX8_endOf 25 = .ok (.getfield 7, 3) := by decide +kernel
theorem dX8_endOf_28 : decode cX8_endOf 28 = .ok (.iload_n 3, 1) := by decide +kernel
theorem dX8_endOf_29 : decode cX8_endOf 29 = .ok (.iaload, 1) := by decide +kernel
theorem dX8_endOf_30 : decode cX8_endOf 30 = .ok (.bipush 8, 2) := by decide +kernel
theorem dX8_endOf_32 : decode cX8_endOf 32 = .ok (.if_icmp .ne 7, 3) := by decide +kernel
theorem dX8_endOf_35 : decode cX8_endOf 35 = .ok (.iconst 0, 1) := by decide +kernel
theorem dX8_endOf_36 : decode cX8_endOf 36 = .ok (.goto 4, 3) := by decide +kernel
theorem dX8_endOf_39 : decode cX8_endOf 39 = .ok (.iconst 1, 1) := by decide +kernel
theorem dX8_endOf_40 : decode cX8_endOf 40 = .ok (.iadd, 1) := by decide +kernel
theorem dX8_endOf_41 : decode cX8_endOf 41 = .ok (.istore_n 2, 1) := by decide +kernel
theorem dX8_endOf_42 : decode cX8_endOf 42 = .ok (.iinc 3 1, 3) := by decide +kernel
theorem dX8_endOf_45 : decode cX8_endOf 45 = .ok (.goto (-41), 3) := by decide +kernel
theorem dX8_endOf_48 : decode cX8_endOf 48 = .ok (.iload_n 3, 1) := by decide +kernel
theorem dX8_endOf_49 : decode cX8_endOf 49 = .ok (.ireturn, 1) := by decide +kernel
set_option maxRecDepth 20000 in
theorem ggX8_areSame_X8_endOf : GoodIn wsX8_areSame wsX8_endOf := goodIn_r _ [6, 1, 7, 8, 9, 10, 11, 12, 13, 14, 15, 16, 17, 18, 19, 20, 21, 22, 23, 24, 25, 26, 27, 28, 29, 30, 31, 32, 33, 34, 35, 36] rfl (by decide +kernel)
set_option maxRecDepth 20000 in
theorem gX8_areSame_X8_endOf : GoodIn wsX8_areSame (wsV RX8 88 RX8 yX8_endOf wsX8_endOf) := goodIn_app (goodIn_of _ (by decide +kernel)) ggX8_areSame_X8_endOf
theorem dX8_areSame_0 : decode cX8_areSame 0 = .ok (.aload_n 0, 1) := by decide +kernel
theorem dX8_areSame_1 : decode cX8_areSame 1 = .ok (.iload_n 1, 1) := by decide +kernel
theorem dX8_areSame_2 : decode cX8_areSame 2 = .ok (.invokevirtual 88, 3) := by decide +kernel
theorem dX8_areSame_5 : decode cX8_areSame 5 = .ok (.iload_n 1, 1) := by decide +kernel
theorem dX8_areSame_6 : decode cX8_areSame 6 = .ok (.isub, 1) := by decide +kernel
theorem dX8_areSame_7 : decode cX8_areSame 7 = .ok (.istore_n 3, 1) := by decide +kernel
theorem dX8_areSame_8 : decode cX8_areSame 8 = .ok (.aload_n 0, 1) := by decide +kernel
theorem dX8_areSame_9 : decode cX8_areSame 9 = .ok (.iload_n 2, 1) := by decide +kernel
theorem dX8_areSame_10 : decode cX8_areSame 10 = .ok (.invokevirtual 88, 3) := by decide +kernel
theorem dX8_areSame_13 : decode cX8_areSame 13 = .ok (.iload_n 2, 1) := by decide +kernel
theorem dX8_areSame_14 : decode cX8_areSame 14 = .ok (.isub, 1) := by decide +kernel
theorem dX8_areSame_15 : decode cX8_areSame 15 = .ok (.iload_n 3, 1) := by decide +kernel
theorem dX8_areSame_16 : decode cX8_areSame 16 = .ok (.if_icmp .eq 5, 3) := by decide +kernel
theorem dX8_areSame_19 : decode cX8_areSame 19 = .ok (.iconst 0, 1) := by decide +kernel
theorem dX8_areSame_20 : decode cX8_areSame 20 = .ok (.ireturn, 1) := by decide +kernel
theorem dX8_areSame_21 : decode cX8_areSame 21 = .ok (.iconst 0, 1) := by decide +kernel
theorem dX8_areSame_22 : decode cX8_areSame 22 = .ok (.istore 4, 2) := by decide +kernel
theorem dX8_areSame_24 : decode cX8_areSame 24 = .ok (.iload 4, 2) := by decide +kernel
theorem dX8_areSame_26 : decode cX8_areSame 26 = .ok (.iload_n 3, 1) := by decide +kernel
theorem dX8_areSame_27 : decode cX8_areSame 27 = .ok (.if_icmp .ge 32, 3) := by decide +kernel
theorem dX8_areSame_30 : decode cX8_areSame 30 = .ok (.aload_n 0, 1) := by decide +kernel
theorem dX8_areSame_31 : decode cX8_areSame 31 = .ok (.getfield 7, 3) := by decide +kernel
theorem dX8_areSame_34 : decode cX8_areSame 34 = .ok (.iload_n 1, 1) := by decide +kernel
theorem dX8_areSame_35 : decode cX8_areSame 35 = .ok (.iload 4, 2) := by decide +kernel
theorem dX8_areSame_37 : decode cX8_areSame 37 = .ok (.iadd, 1) := by decide +kernel
theorem dX8_areSame_38 : decode cX8_areSame 38 = .ok (.iaload, 1) := by decide +kernel
theorem dX8_areSame_39 : decode cX8_areSame 39 = .ok (.aload_n 0, 1) := by decide +kernel
theorem dX8_areSame_40 : decode cX8_areSame 40 = .ok (.getfield 7, 3) := by decide +kernel
theorem dX8_areSame_43 : decode cX8_areSame 43 = .ok (.iload_n 2, 1) := by decide +kernel
theorem dX8_areSame_44 : decode cX8_areSame 44 = .ok (.iload 4, 2) := by decide +kernel
theorem dX8_areSame_46 : decode cX8_areSame 46 = .ok (.iadd, 1) := by decide +kernel
theorem dX8_areSame_47 : decode cX8_areSame 47 = .ok (.iaload, 1) := by decide +kernel
theorem dX8_areSame_48 : decode cX8_areSame 48 = .ok (.if_icmp .eq 5, 3) := by decide +kernel
theorem dX8_areSame_51 : decode cX8_areSame 51 = .ok (.iconst 0, 1) := by decide +kernel
theorem dX8_areSame_52 : decode cX8_areSame 52 = .ok (.ireturn, 1) := by decide +kernel
theorem dX8_areSame_53 : decode cX8_areSame 53 = .ok (.iinc 4 1, 3) := by decide +kernel
theorem dX8_areSame_56 : decode cX8_areSame 56 = .ok (.goto (-32), 3) := by decide +kernel
theorem dX8_areSame_59 : decode cX8_areSame 59 = .ok (.iconst 1, 1) := by decide +kernel
theorem dX8_areSame_60 : decode cX8_areSame 60 = .ok (.ireturn, 1) := by decide +kernel
set_option maxRecDepth 20000 in
theorem ggX8_size_X8_parses : GoodIn wsX8_size wsX8_parses := goodIn_r _ [6, 1, 7, 8, 9, 10, 5, 11, 12, 13, 14, 15, 16, 17, 18, 19, 20, 21, 22, 23, 24, 25, 26, 27, 28, 29, 30, 31, 32, 33, 34, 35, 36, 37, 38, 39, 40, 41] rfl (by decide +kernel)
set_option maxRecDepth 20000 in
theorem gX8_size_X8_parses : GoodIn wsX8_size (wsV RX8 92 RX8 yX8_parses wsX8_parses) := goodIn_app (goodIn_of _ (by decide +kernel)) ggX8_size_X8_parses
theorem dX8_size_0 : decode cX8_size 0 = .ok (.aload_n 0, 1) := by decide +kernel
theorem dX8_size_1 : decode cX8_size 1 = .ok (.lload_n 1, 1) := by decide +kernel
theorem dX8_size_2 : decode cX8_size 2 = .ok (.invokevirtual 92, 3) := by decide +kernel
theorem dX8_size_5 : decode cX8_size 5 = .ok (.ifCond .eq 10, 3) := by decide +kernel
theorem dX8_size_8 : decode cX8_size 8 = .ok (.aload_n 0, 1) := by decide +kernel
theorem dX8_size_9 : decode cX8_size 9 = .ok (.getfield 78, 3) := by decide +kernel
theorem dX8_size_12 : decode cX8_size 12 = .ok (.goto 4, 3) := by decide +kernel
theorem dX8_size_15 : decode cX8_size 15 = .ok (.iconst (-1), 1) := by decide +kernel
theorem dX8_size_16 : decode cX8_size 16 = .ok (.ireturn, 1) := by decide +kernel
set_option maxRecDepth 20000 in
theorem ggX8_starHeight_X8_parses : GoodIn wsX8_starHeight wsX8_parses := goodIn_r _ [8, 1, 9, 2, 10, 11, 7, 12, 13, 14, 15, 16, 17, 18, 19, 20, 21, 22, 23, 24, 25, 26, 27, 28, 29, 30, 31, 32, 33, 34, 35, 36, 37, 38, 39, 40, 41, 42] rfl (by decide +kernel)
set_option maxRecDepth 20000 in
theorem gX8_starHeight_X8_parses : GoodIn wsX8_starHeight (wsV RX8 92 RX8 yX8_parses wsX8_parses) := goodIn_app (goodIn_of _ (by decide +kernel)) ggX8_starHeight_X8_parses
theorem dX8_starHeight_0 : decode cX8_starHeight 0 = .ok (.aload_n 0, 1) := by decide +kernel
theorem dX8_starHeight_1 : decode cX8_starHeight 1 = .ok (.lload_n 1, 1) := by decide +kernel
theorem dX8_starHeight_2 : decode cX8_starHeight 2 = .ok (.invokevirtual 92, 3) := by decide +kernel
theorem dX8_starHeight_5 : decode cX8_starHeight 5 = .ok (.ifCond .ne 5, 3) := by decide +kernel
theorem dX8_starHeight_8 : decode cX8_starHeight 8 = .ok (.iconst (-1), 1) := by decide +kernel
theorem dX8_starHeight_9 : decode cX8_starHeight 9 = .ok (.ireturn, 1) := by decide +kernel
theorem dX8_starHeight_10 : decode cX8_starHeight 10 = .ok (.iconst 0, 1) := by decide +kernel
theorem dX8_starHeight_11 : decode cX8_starHeight 11 = .ok (.istore_n 3, 1) := by decide +kernel
theorem dX8_starHeight_12 : decode cX8_starHeight 12 = .ok (.aload_n 0, 1) := by decide +kernel
theorem dX8_starHeight_13 : decode cX8_starHeight 13 = .ok (.getfield 78, 3) := by decide +kernel
theorem dX8_starHeight_16 : decode cX8_starHeight 16 = .ok (.iconst 1, 1) := by decide +kernel
theorem dX8_starHeight_17 : decode cX8_starHeight 17 = .ok (.isub, 1) := by decide +kernel
theorem dX8_starHeight_18 : decode cX8_starHeight 18 = .ok (.istore 4, 2) := by decide +kernel
theorem dX8_starHeight_20 : decode cX8_starHeight 20 = .ok (.iload 4, 2) := by decide +kernel
theorem dX8_starHeight_22 : decode cX8_starHeight 22 = .ok (.ifCond .lt 106, 3) := by decide +kernel
theorem dX8_starHeight_25 : decode cX8_starHeight 25 = .ok (.aload_n 0, 1) := by decide +kernel
theorem dX8_starHeight_26 : decode cX8_starHeight 26 = .ok (.getfield 7, 3) := by decide +kernel
theorem dX8_starHeight_29 : decode cX8_starHeight 29 = .ok (.iload 4, 2) := by decide +kernel
theorem dX8_starHeight_31 : decode cX8_starHeight 31 = .ok (.iaload, 1) := by decide +kernel
theorem dX8_starHeight_32 : decode cX8_starHeight 32 = .ok (.bipush 6, 2) := by decide +kernel
theorem dX8_starHeight_34 : decode cX8_starHeight 34 = .ok (.if_icmp .ge 16, 3) := by decide +kernel
theorem dX8_starHeight_37 : decode cX8_starHeight 37 = .ok (.aload_n 0, 1) := by decide +kernel
theorem dX8_starHeight_38 : decode cX8_starHeight 38 = .ok (.getfield 13, 3) := by decide +kernel
theorem dX8_starHeight_41 : decode cX8_starHeight 41 = .ok (.iload_n 3, 1) := by decide +kernel
theorem dX8_starHeight_42 : decode cX8_starHeight 42 = .ok (.iconst 0, 1) := by decide +kernel
theorem dX8_starHeight_43 : decode cX8_starHeight 43 = .ok (.iastore, 1) := by decide +kernel
theorem dX8_starHeight_44 : decode cX8_starHeight 44 = .ok (.iinc 3 1, 3) := by decide +kernel
theorem dX8_starHeight_47 : decode cX8_starHeight 47 = .ok (.goto 75, 3) := by decide +kernel
theorem dX8_starHeight_50 : decode cX8_starHeight 50 = .ok (.aload_n 0, 1) := by decide +kernel
theorem dX8_starHeight_51 : decode cX8_starHeight 51 = .ok (.getfield 7, 3) := by decide +kernel
theorem dX8_starHeight_54 : decode cX8_starHeight 54 = .ok (.iload 4, 2) := by decide +kernel
theorem dX8_starHeight_56 : decode cX8_starHeight 56 = .ok (.iaload, 1) := by decide +kernel
theorem dX8_starHeight_57 : decode cX8_starHeight 57 = .ok (.bipush 8, 2) := by decide +kernel
theorem dX8_starHeight_59 : decode cX8_starHeight 59 = .ok (.if_icmp .ne 18, 3) := by decide +kernel
theorem dX8_starHeight_62 : decode cX8_starHeight 62 = .ok (.aload_n 0, 1) := by decide +kernel
theorem dX8_starHeight_63 : decode cX8_starHeight 63 = .ok (.getfield 13, 3) := by decide +kernel
theorem dX8_starHeight_66 : decode cX8_starHeight 66 = .ok (.iload_n 3, 1) := by decide +kernel
theorem dX8_starHeight_67 : decode cX8_starHeight 67 = .ok (.iconst 1, 1) := by decide +kernel
theorem dX8_starHeight_68 : decode cX8_starHeight 68 = .ok (.isub, 1) := by decide +kernel
theorem dX8_starHeight_69 : decode cX8_starHeight 69 = .ok (.dup2, 1) := by decide +kernel
theorem dX8_starHeight_70 : decode cX8_starHeight 70 = .ok (.iaload, 1) := by decide +kernel
theorem dX8_starHeight_71 : decode cX8_starHeight 71 = .ok (.iconst 1, 1) := by decide +kernel
theorem dX8_starHeight_72 : decode cX8_starHeight 72 = .ok (.iadd, 1) := by decide +kernel
theorem dX8_starHeight_73 : decode cX8_starHeight 73 = .ok (.iastore, 1) := by decide +kernel
theorem dX8_starHeight_74 : decode cX8_starHeight 74 = .ok (.goto 48, 3) := by decide +kernel
theorem dX8_starHeight_77 : decode cX8_starHeight 77 = .ok (.iinc 3 (-1), 3) := by decide +kernel
theorem dX8_starHeight_80 : decode cX8_starHeight 80 = .ok (.aload_n 0, 1) := by decide +kernel
theorem dX8_starHeight_81 : decode cX8_starHeight 81 = .ok (.getfield 13, 3) := by decide +kernel
theorem dX8_starHeight_84 : decode cX8_starHeight 84 = .ok (.iload_n 3, 1) := by decide +kernel
theorem dX8_starHeight_85 : decode cX8_starHeight 85 = .ok (.iconst 1, 1) := by decide +kernel
theorem dX8_starHeight_86 : decode cX8_starHeight 86 = .ok (.isub, 1) := by decide +kernel
theorem dX8_starHeight_87 : decode cX8_starHeight 87 = .ok (.aload_n 0, 1) := by decide +kernel
theorem dX8_starHeight_88 : decode cX8_starHeight 88 = .ok (.getfield 13, 3) := by decide +kernel
theorem dX8_starHeight_91 : decode cX8_starHeight 91 = .ok (.iload_n 3, 1) := by decide +kernel
theorem dX8_starHeight_92 : decode cX8_starHeight 92 = .ok (.iconst 1, 1) := by decide +kernel
theorem dX8_starHeight_93 : decode cX8_starHeight 93 = .ok (.isub, 1) := by decide +kernel
theorem dX8_starHeight_94 : decode cX8_starHeight 94 = .ok (.iaload, 1) := by decide +kernel
theorem dX8_starHeight_95 : decode cX8_starHeight 95 = .ok (.aload_n 0, 1) := by decide +kernel
theorem dX8_starHeight_96 : decode cX8_starHeight 96 = .ok (.getfield 13, 3) := by decide +kernel
theorem dX8_starHeight_99 : decode cX8_starHeight 99 = .ok (.iload_n 3, 1) := by decide +kernel
theorem dX8_starHeight_100 : decode cX8_starHeight 100 = .ok (.iaload, 1) := by decide +kernel
theorem dX8_starHeight_101 : decode cX8_starHeight 101 = .ok (.if_icmp .le 14, 3) := by decide +kernel
theorem dX8_starHeight_104 : decode cX8_starHeight 104 = .ok (.aload_n 0, 1) := by decide +kernel
theorem dX8_starHeight_105 : decode cX8_starHeight 105 = .ok (.getfield 13, 3) := by decide +kernel
theorem dX8_starHeight_108 : decode cX8_starHeight 108 = .ok (.iload_n 3, 1) := by decide +kernel
theorem dX8_starHeight_109 : decode cX8_starHeight 109 = .ok (.iconst 1, 1) := by decide +kernel
theorem dX8_starHeight_110 : decode cX8_starHeight 110 = .ok (.isub, 1) := by decide +kernel
theorem dX8_starHeight_111 : decode cX8_starHeight 111 = .ok (.iaload, 1) := by decide +kernel
theorem dX8_starHeight_112 : decode cX8_starHeight 112 = .ok (.goto 9, 3) := by decide +kernel
theorem dX8_starHeight_115 : decode cX8_starHeight 115 = .ok (.aload_n 0, 1) := by decide +kernel
theorem dX8_starHeight_116 : decode cX8_starHeight 116 = .ok (.getfield 13, 3) := by decide +kernel
theorem dX8_starHeight_119 : decode cX8_starHeight 119 = .ok (.iload_n 3, 1) := by decide +kernel
theorem dX8_starHeight_120 : decode cX8_starHeight 120 = .ok (.iaload, 1) := by decide +kernel
theorem dX8_starHeight_121 : decode cX8_starHeight 121 = .ok (.iastore, 1) := by decide +kernel
theorem dX8_starHeight_122 : decode cX8_starHeight 122 = .ok (.iinc 4 (-1), 3) := by decide +kernel
theorem dX8_starHeight_125 : decode cX8_starHeight 125 = .ok (.goto (-105), 3) := by decide +kernel
theorem dX8_starHeight_128 : decode cX8_starHeight 128 = .ok (.aload_n 0, 1) := by decide +kernel
theorem dX8_starHeight_129 : decode cX8_starHeight 129 = .ok (.getfield 13, 3) := by decide +kernel
theorem dX8_starHeight_132 : decode cX8_starHeight 132 = .ok (.iconst 0, 1) := by decide +kernel
theorem dX8_starHeight_133 : decode cX8_starHeight 133 = .ok (.iaload, 1) := by decide +kernel
theorem dX8_starHeight_134 : decode cX8_starHeight 134 = .ok (.ireturn, 1) := by decide +kernel
theorem dX8_pushLeaf_0 : decode cX8_pushLeaf 0 = .ok (.aload_n 0, 1) := by decide +kernel
theorem dX8_pushLeaf_1 : decode cX8_pushLeaf 1 = .ok (.getfield 32, 3) := by decide +kernel
theorem dX8_pushLeaf_4 : decode cX8_pushLeaf 4 = .ok (.iload_n 2, 1) := by decide +kernel
theorem dX8_pushLeaf_5 : decode cX8_pushLeaf 5 = .ok (.iload_n 3, 1) := by decide +kernel
theorem dX8_pushLeaf_6 : decode cX8_pushLeaf 6 = .ok (.iconst 2, 1) := by decide +kernel
theorem dX8_pushLeaf_7 : decode cX8_pushLeaf 7 = .ok (.if_icmp .ne 7, 3) := by decide +kernel
theorem dX8_pushLeaf_10 : decode cX8_pushLeaf 10 = .ok (.iconst 1, 1) := by decide +kernel
theorem dX8_pushLeaf_11 : decode cX8_pushLeaf 11 = .ok (.goto 4, 3) := by decide +kernel
theorem dX8_pushLeaf_14 : decode cX8_pushLeaf 14 = .ok (.iconst 0, 1) := by decide +kernel
theorem dX8_pushLeaf_15 : decode cX8_pushLeaf 15 = .ok (.bastore, 1) := by decide +kernel
theorem dX8_pushLeaf_16 : decode cX8_pushLeaf 16 = .ok (.aload_n 0, 1) := by decide +kernel
theorem dX8_pushLeaf_17 : decode cX8_pushLeaf 17 = .ok (.getfield 35, 3) := by decide +kernel
theorem dX8_pushLeaf_20 : decode cX8_pushLeaf 20 = .ok (.iload_n 2, 1) := by decide +kernel
theorem dX8_pushLeaf_21 : decode cX8_pushLeaf 21 = .ok (.iconst 0, 1) := by decide +kernel
theorem dX8_pushLeaf_22 : decode cX8_pushLeaf 22 = .ok (.iastore, 1) := by decide +kernel
theorem dX8_pushLeaf_23 : decode cX8_pushLeaf 23 = .ok (.iload_n 3, 1) := by decide +kernel
theorem dX8_pushLeaf_24 : decode cX8_pushLeaf 24 = .ok (.iconst 2, 1) := by decide +kernel
theorem dX8_pushLeaf_25 : decode cX8_pushLeaf 25 = .ok (.if_icmp .le 46, 3) := by decide +kernel
theorem dX8_pushLeaf_28 : decode cX8_pushLeaf 28 = .ok (.aload_n 0, 1) := by decide +kernel
theorem dX8_pushLeaf_29 : decode cX8_pushLeaf 29 = .ok (.getfield 35, 3) := by decide +kernel
theorem dX8_pushLeaf_32 : decode cX8_pushLeaf 32 = .ok (.iload_n 2, 1) := by decide +kernel
theorem dX8_pushLeaf_33 : decode cX8_pushLeaf 33 = .ok (.iconst 1, 1) := by decide +kernel
theorem dX8_pushLeaf_34 : decode cX8_pushLeaf 34 = .ok (.aload_n 0, 1) := by decide +kernel
theorem dX8_pushLeaf_35 : decode cX8_pushLeaf 35 = .ok (.getfield 96, 3) := by decide +kernel
theorem dX8_pushLeaf_38 : decode cX8_pushLeaf 38 = .ok (.ishl, 1) := by decide +kernel
theorem dX8_pushLeaf_39 : decode cX8_pushLeaf 39 = .ok (.iastore, 1) := by decide +kernel
theorem dX8_pushLeaf_40 : decode cX8_pushLeaf 40 = .ok (.aload_n 0, 1) := by decide +kernel
theorem dX8_pushLeaf_41 : decode cX8_pushLeaf 41 = .ok (.getfield 26, 3) := by decide +kernel
theorem dX8_pushLeaf_44 : decode cX8_pushLeaf 44 = .ok (.iconst 3, 1) := by decide +kernel
theorem dX8_pushLeaf_45 : decode cX8_pushLeaf 45 = .ok (.iload_n 1, 1) := by decide +kernel
theorem dX8_pushLeaf_46 : decode cX8_pushLeaf 46 = .ok (.imul, 1) := by decide +kernel
theorem dX8_pushLeaf_47 : decode cX8_pushLeaf 47 = .ok (.iload_n 3, 1) := by decide +kernel
theorem dX8_pushLeaf_48 : decode cX8_pushLeaf 48 = .ok (.iadd, 1) := by decide +kernel
theorem dX8_pushLeaf_49 : decode cX8_pushLeaf 49 = .ok (.iconst 3, 1) := by decide +kernel
theorem dX8_pushLeaf_50 : decode cX8_pushLeaf 50 = .ok (.isub, 1) := by decide +kernel
theorem dX8_pushLeaf_51 : decode cX8_pushLeaf 51 = .ok (.dup2, 1) := by decide +kernel
theorem dX8_pushLeaf_52 : decode cX8_pushLeaf 52 = .ok (.iaload, 1) := by decide +kernel
theorem dX8_pushLeaf_53 : decode cX8_pushLeaf 53 = .ok (.iconst 1, 1) := by decide +kernel
theorem dX8_pushLeaf_54 : decode cX8_pushLeaf 54 = .ok (.aload_n 0, 1) := by decide +kernel
theorem dX8_pushLeaf_55 : decode cX8_pushLeaf 55 = .ok (.getfield 96, 3) := by decide +kernel
theorem dX8_pushLeaf_58 : decode cX8_pushLeaf 58 = .ok (.ishl, 1) := by decide +kernel
theorem dX8_pushLeaf_59 : decode cX8_pushLeaf 59 = .ok (.ior, 1) := by decide +kernel
theorem dX8_pushLeaf_60 : decode cX8_pushLeaf 60 = .ok (.iastore, 1) := by decide +kernel
theorem dX8_pushLeaf_61 : decode cX8_pushLeaf 61 = .ok (.aload_n 0, 1) := by decide +kernel
theorem dX8_pushLeaf_62 : decode cX8_pushLeaf 62 = .ok (.dup, 1) := by decide +kernel
theorem dX8_pushLeaf_63 : decode cX8_pushLeaf 63 = .ok (.getfield 96, 3) := by decide +kernel
theorem dX8_pushLeaf_66 : decode cX8_pushLeaf 66 = .ok (.iconst 1, 1) := by decide +kernel
theorem dX8_pushLeaf_67 : decode cX8_pushLeaf 67 = .ok (.iadd, 1) := by decide +kernel
theorem dX8_pushLeaf_68 : decode cX8_pushLeaf 68 = .ok (.putfield 96, 3) := by decide +kernel
theorem dX8_pushLeaf_71 : decode cX8_pushLeaf 71 = .ok (.aload_n 0, 1) := by decide +kernel
theorem dX8_pushLeaf_72 : decode cX8_pushLeaf 72 = .ok (.getfield 38, 3) := by decide +kernel
theorem dX8_pushLeaf_75 : decode cX8_pushLeaf 75 = .ok (.iload_n 2, 1) := by decide +kernel
theorem dX8_pushLeaf_76 : decode cX8_pushLeaf 76 = .ok (.aload_n 0, 1) := by decide +kernel
theorem dX8_pushLeaf_77 : decode cX8_pushLeaf 77 = .ok (.getfield 35, 3) := by decide +kernel
theorem dX8_pushLeaf_80 : decode cX8_pushLeaf 80 = .ok (.iload_n 2, 1) := by decide +kernel
theorem dX8_pushLeaf_81 : decode cX8_pushLeaf 81 = .ok (.iaload, 1) := by decide +kernel
theorem dX8_pushLeaf_82 : decode cX8_pushLeaf 82 = .ok (.iastore, 1) := by decide +kernel
theorem dX8_pushLeaf_83 : decode cX8_pushLeaf 83 = .ok (.return_, 1) := by decide +kernel
theorem dX8_link_0 : decode cX8_link 0 = .ok (.iconst 0, 1) := by decide +kernel
theorem dX8_link_1 : decode cX8_link 1 = .ok (.istore 4, 2) := by decide +kernel
theorem dX8_link_3 : decode cX8_link 3 = .ok (.iload 4, 2) := by decide +kernel
theorem dX8_link_5 : decode cX8_link 5 = .ok (.aload_n 0, 1) := by decide +kernel
theorem dX8_link_6 : decode cX8_link 6 = .ok (.getfield 96, 3) := by decide +kernel
theorem dX8_link_9 : decode cX8_link 9 = .ok (.if_icmp .ge 39, 3) := by decide +kernel
theorem dX8_link_12 : decode cX8_link 12 = .ok (.aload_n 0, 1) := by decide +kernel
theorem dX8_link_13 : decode cX8_link 13 = .ok (.getfield 29, 3) := by decide +kernel
theorem dX8_link_16 : decode cX8_link 16 = .ok (.bipush 9, 2) := by decide +kernel
theorem dX8_link_18 : decode cX8_link 18 = .ok (.iload_n 1, 1) := by decide +kernel
theorem dX8_link_19 : decode cX8_link 19 = .ok (.imul, 1) := by decide +kernel
theorem dX8_link_20 : decode cX8_link 20 = .ok (.iload 4, 2) := by decide +kernel
theorem dX8_link_22 : decode cX8_link 22 = .ok (.iadd, 1) := by decide +kernel
theorem dX8_link_23 : decode cX8_link 23 = .ok (.dup2, 1) := by decide +kernel
theorem dX8_link_24 : decode cX8_link 24 = .ok (.iaload, 1) := by decide +kernel
theorem dX8_link_25 : decode cX8_link 25 = .ok (.iload_n 2, 1) := by decide +kernel
theorem dX8_link_26 : decode cX8_link 26 = .ok (.iload 4, 2) := by decide +kernel
theorem dX8_link_28 : decode cX8_link 28 = .ok (.ishr, 1) := by decide +kernel
theorem dX8_link_29 : decode cX8_link 29 = .ok (.iconst 1, 1) := by decide +kernel
theorem dX8_link_30 : decode cX8_link 30 = .ok (.iand, 1) := by decide +kernel
theorem dX8_link_31 : decode cX8_link 31 = .ok (.iconst 1, 1) := by decide +kernel
theorem dX8_link_32 : decode cX8_link 32 = .ok (.if_icmp .ne 7, 3) := by decide +kernel
theorem dX8_link_35 : decode cX8_link 35 = .ok (.iload_n 3, 1) := by decide +kernel
theorem dX8_link_36 : decode cX8_link 36 = .ok (.goto 4, 3) := by decide +kernel
theorem dX8_link_39 : decode cX8_link 39 = .ok (.iconst 0, 1) := by decide +kernel
theorem dX8_link_40 : decode cX8_link 40 = .ok (.ior, 1) := by decide +kernel
theorem dX8_link_41 : decode cX8_link 41 = .ok (.iastore, 1) := by decide +kernel
theorem dX8_link_42 : decode cX8_link 42 = .ok (.iinc 4 1, 3) := by decide +kernel
theorem dX8_link_45 : decode cX8_link 45 = .ok (.goto (-42), 3) := by decide +kernel
theorem dX8_link_48 : decode cX8_link 48 = .ok (.return_, 1) := by decide +kernel
set_option maxRecDepth 20000 in
theorem ggX8_join_X8_link : GoodIn wsX8_join wsX8_link := goodIn_r _ [8, 9, 10, 11, 12, 13, 14, 15, 16, 17, 18, 19, 20, 21, 22, 23, 24, 25, 26, 27, 28, 29, 30, 31, 32, 33, 34, 35, 36, 37, 38, 39, 40] rfl (by decide +kernel)
set_option maxRecDepth 20000 in
theorem gX8_join_X8_link : GoodIn wsX8_join (wsV RX8 99 RX8 yX8_link wsX8_link) := goodIn_app (goodIn_of _ (by decide +kernel)) ggX8_join_X8_link
theorem dX8_join_0 : decode cX8_join 0 = .ok (.iload_n 2, 1) := by decide +kernel
theorem dX8_join_1 : decode cX8_join 1 = .ok (.iconst 1, 1) := by decide +kernel
theorem dX8_join_2 : decode cX8_join 2 = .ok (.isub, 1) := by decide +kernel
theorem dX8_join_3 : decode cX8_join 3 = .ok (.istore 4, 2) := by decide +kernel
theorem dX8_join_5 : decode cX8_join 5 = .ok (.iload_n 3, 1) := by decide +kernel
theorem dX8_join_6 : decode cX8_join 6 = .ok (.ifCond .eq 52, 3) := by decide +kernel
theorem dX8_join_9 : decode cX8_join 9 = .ok (.aload_n 0, 1) := by decide +kernel
theorem dX8_join_10 : decode cX8_join 10 = .ok (.getfield 32, 3) := by decide +kernel
theorem dX8_join_13 : decode cX8_join 13 = .ok (.iload 4, 2) := by decide +kernel
theorem dX8_join_15 : decode cX8_join 15 = .ok (.dup2, 1) := by decide +kernel
theorem dX8_join_16 : decode cX8_join 16 = .ok (.baload, 1) := by decide +kernel
theorem dX8_join_17 : decode cX8_join 17 = .ok (.aload_n 0, 1) := by decide +kernel
theorem dX8_join_18 : decode cX8_join 18 = .ok (.getfield 32, 3) := by decide +kernel
theorem dX8_join_21 : decode cX8_join 21 = .ok (.iload_n 2, 1) := by decide +kernel
theorem dX8_join_22 : decode cX8_join 22 = .ok (.baload, 1) := by decide +kernel
theorem dX8_join_23 : decode cX8_join 23 = .ok (.ior, 1) := by decide +kernel
theorem dX8_join_24 : decode cX8_join 24 = .ok (.bastore, 1) := by decide +kernel
theorem dX8_join_25 : decode cX8_join 25 = .ok (.aload_n 0, 1) := by decide +kernel
theorem dX8_join_26 : decode cX8_join 26 = .ok (.getfield 35, 3) := by decide +kernel
theorem dX8_join_29 : decode cX8_join 29 = .ok (.iload 4, 2) := by decide +kernel
theorem dX8_join_31 : decode cX8_join 31 = .ok (.dup2, 1) := by decide +kernel
theorem dX8_join_32 : decode cX8_join 32 = .ok (.iaload, 1) := by decide +kernel
theorem dX8_join_33 : decode cX8_join 33 = .ok (.aload_n 0, 1) := by decide +kernel
theorem dX8_join_34 : decode cX8_join 34 = .ok (.getfield 35, 3) := by decide +kernel
theorem dX8_join_37 : decode cX8_join 37 = .ok (.iload_n 2, 1) := by decide +kernel
theorem dX8_join_38 : decode cX8_join 38 = .ok (.iaload, 1) := by decide +kernel
theorem dX8_join_39 : decode cX8_join 39 = .ok (.ior, 1) := by decide +kernel
theorem dX8_join_40 : decode cX8_join 40 = .ok (.iastore, 1) := by decide +kernel
theorem dX8_join_41 : decode cX8_join 41 = .ok (.aload_n 0, 1) := by decide +kernel
theorem dX8_join_42 : decode cX8_join 42 = .ok (.getfield 38, 3) := by decide +kernel
theorem dX8_join_45 : decode cX8_join 45 = .ok (.iload 4, 2) := by decide +kernel
theorem dX8_join_47 : decode cX8_join 47 = .ok (.dup2, 1) := by decide +kernel
theorem dX8_join_48 : decode cX8_join 48 = .ok (.iaload, 1) := by decide +kernel
theorem dX8_join_49 : decode cX8_join 49 = .ok (.aload_n 0, 1) := by decide +kernel
theorem dX8_join_50 : decode cX8_join 50 = .ok (.getfield 38, 3) := by decide +kernel
theorem dX8_join_53 : decode cX8_join 53 = .ok (.iload_n 2, 1) := by decide +kernel
theorem dX8_join_54 : decode cX8_join 54 = .ok (.iaload, 1) := by decide +kernel
theorem dX8_join_55 : decode cX8_join 55 = .ok (.ior, 1) := by decide +kernel
theorem dX8_join_56 : decode cX8_join 56 = .ok (.iastore, 1) := by decide +kernel
theorem dX8_join_57 : decode cX8_join 57 = .ok (.return_, 1) := by decide +kernel
theorem dX8_join_58 : decode cX8_join 58 = .ok (.aload_n 0, 1) := by decide +kernel
theorem dX8_join_59 : decode cX8_join 59 = .ok (.iload_n 1, 1) := by decide +kernel
theorem dX8_join_60 : decode cX8_join 60 = .ok (.aload_n 0, 1) := by decide +kernel
theorem dX8_join_61 : decode cX8_join 61 = .ok (.getfield 38, 3) := by decide +kernel
theorem dX8_join_64 : decode cX8_join 64 = .ok (.iload_n 2, 1) := by decide +kernel
theorem dX8_join_65 : decode cX8_join 65 = .ok (.iaload, 1) := by decide +kernel
theorem dX8_join_66 : decode cX8_join 66 = .ok (.aload_n 0, 1) := by decide +kernel
theorem dX8_join_67 : decode cX8_join 67 = .ok (.getfield 35, 3) := by decide +kernel
theorem dX8_join_70 : decode cX8_join 70 = .ok (.iload 4, 2) := by decide +kernel
theorem dX8_join_72 : decode cX8_join 72 = .ok (.iaload, 1) := by decide +kernel
theorem dX8_join_73 : decode cX8_join 73 = .ok (.invokevirtual 99, 3) := by decide +kernel
theorem dX8_join_76 : decode cX8_join 76 = .ok (.aload_n 0, 1) := by decide +kernel
theorem dX8_join_77 : decode cX8_join 77 = .ok (.getfield 35, 3) := by decide +kernel
theorem dX8_join_80 : decode cX8_join 80 = .ok (.iload_n 2, 1) := by decide +kernel
theorem dX8_join_81 : decode cX8_join 81 = .ok (.iaload, 1) := by decide +kernel
theorem dX8_join_82 : decode cX8_join 82 = .ok (.aload_n 0, 1) := by decide +kernel
theorem dX8_join_83 : decode cX8_join 83 = .ok (.getfield 32, 3) := by decide +kernel
theorem dX8_join_86 : decode cX8_join 86 = .ok (.iload_n 2, 1) := by decide +kernel
theorem dX8_join_87 : decode cX8_join 87 = .ok (.baload, 1) := by decide +kernel
theorem dX8_join_88 : decode cX8_join 88 = .ok (.ifCond .eq 13, 3) := by decide +kernel
theorem dX8_join_91 : decode cX8_join 91 = .ok (.aload_n 0, 1) := by decide +kernel
theorem dX8_join_92 : decode cX8_join 92 = .ok (.getfield 35, 3) := by decide +kernel
theorem dX8_join_95 : decode cX8_join 95 = .ok (.iload 4, 2) := by decide +kernel
theorem dX8_join_97 : decode cX8_join 97 = .ok (.iaload, 1) := by decide +kernel
theorem dX8_join_98 : decode cX8_join 98 = .ok (.goto 4, 3) := by decide +kernel
theorem dX8_join_101 : decode cX8_join 101 = .ok (.iconst 0, 1) := by decide +kernel
theorem dX8_join_102 : decode cX8_join 102 = .ok (.ior, 1) := by decide +kernel
theorem dX8_join_103 : decode cX8_join 103 = .ok (.istore 5, 2) := by decide +kernel
theorem dX8_join_105 : decode cX8_join 105 = .ok (.aload_n 0, 1) := by decide +kernel
theorem dX8_join_106 : decode cX8_join 106 = .ok (.getfield 38, 3) := by decide +kernel
theorem dX8_join_109 : decode cX8_join 109 = .ok (.iload 4, 2) := by decide +kernel
theorem dX8_join_111 : decode cX8_join 111 = .ok (.iaload, 1) := by decide +kernel
theorem dX8_join_112 : decode cX8_join 112 = .ok (.aload_n 0, 1) := by decide +kernel
theorem dX8_join_113 : decode cX8_join 113 = .ok (.getfield 32, 3) := by decide +kernel
theorem dX8_join_116 : decode cX8_join 116 = .ok (.iload 4, 2) := by decide +kernel
theorem dX8_join_118 : decode cX8_join 118 = .ok (.baload, 1) := by decide +kernel
theorem dX8_join_119 : decode cX8_join 119 = .ok (.ifCond .eq 12, 3) := by decide +kernel
theorem dX8_join_122 : decode cX8_join 122 = .ok (.aload_n 0, 1) := by decide +kernel
theorem dX8_join_123 : decode cX8_join 123 = .ok (.getfield 38, 3) := by decide +kernel
theorem dX8_join_126 : decode cX8_join 126 = .ok (.iload_n 2, 1) := by decide +kernel
theorem dX8_join_127 : decode cX8_join 127 = .ok (.iaload, 1) := by decide +kernel
theorem dX8_join_128 : decode cX8_join 128 = .ok (.goto 4, 3) := by decide +kernel
theorem dX8_join_131 : decode cX8_join 131 = .ok (.iconst 0, 1) := by decide +kernel
theorem dX8_join_132 : decode cX8_join 132 = .ok (.ior, 1) := by decide +kernel
theorem dX8_join_133 : decode cX8_join 133 = .ok (.istore 6, 2) := by decide +kernel
theorem dX8_join_135 : decode cX8_join 135 = .ok (.aload_n 0, 1) := by decide +kernel
theorem dX8_join_136 : decode cX8_join 136 = .ok (.getfield 32, 3) := by decide +kernel
theorem dX8_join_139 : decode cX8_join 139 = .ok (.iload 4, 2) := by decide +kernel
theorem dX8_join_141 : decode cX8_join 141 = .ok (.dup2, 1) := by decide +kernel
theorem dX8_join_142 : decode cX8_join 142 = .ok (.baload, 1) := by decide +kernel
theorem dX8_join_143 : decode cX8_join 143 = .ok (.aload_n 0, 1) := by decide +kernel
theorem dX8_join_144 : decode cX8_join 144 = .ok (.getfield 32, 3) := by decide +kernel
theorem dX8_join_147 : decode cX8_join 147 = .ok (.iload_n 2, 1) := by decide +kernel
theorem dX8_join_148 : decode cX8_join 148 = .ok (.baload, 1) := by decide +kernel
theorem dX8_join_149 : decode cX8_join 149 = .ok (.iand, 1) := by decide +kernel
theorem dX8_join_150 : decode cX8_join 150 = .ok (.bastore, 1) := by decide +kernel
theorem dX8_join_151 : decode cX8_join 151 = .ok (.aload_n 0, 1) := by decide +kernel
theorem dX8_join_152 : decode cX8_join 152 = .ok (.getfield 35, 3) := by decide +kernel
theorem dX8_join_155 : decode cX8_join 155 = .ok (.iload 4, 2) := by decide +kernel
theorem dX8_join_157 : decode cX8_join 157 = .ok (.iload 5, 2) := by decide +kernel
theorem dX8_join_159 : decode cX8_join 159 = .ok (.iastore, 1) := by decide +kernel
theorem dX8_join_160 : decode cX8_join 160 = .ok (.aload_n 0, 1) := by decide +kernel
theorem dX8_join_161 : decode cX8_join 161 = .ok (.getfield 38, 3) := by decide +kernel
theorem dX8_join_164 : decode cX8_join 164 = .ok (.iload 4, 2) := by decide +kernel
theorem dX8_join_166 : decode cX8_join 166 = .ok (.iload 6, 2) := by decide +kernel
theorem dX8_join_168 : decode cX8_join 168 = .ok (.iastore, 1) := by decide +kernel
theorem dX8_join_169 : decode cX8_join 169 = .ok (.return_, 1) := by decide +kernel
set_option maxRecDepth 20000 in
theorem ggX8_builds_X8_pushLeaf : GoodIn wsX8_builds wsX8_pushLeaf := goodIn_r _ [16, 8, 7, 1, 3, 6, 25, 26, 27, 28, 29, 30, 31, 32, 33, 34, 35, 36, 37, 38, 39, 40, 41, 42, 43, 44, 45, 46, 47, 48, 49, 50, 51, 52, 53, 54] rfl (by decide +kernel)
set_option maxRecDepth 20000 in
theorem gX8_builds_X8_pushLeaf : GoodIn wsX8_builds (wsV RX8 103 RX8 yX8_pushLeaf wsX8_pushLeaf) := goodIn_app (goodIn_of _ (by decide +kernel)) ggX8_builds_X8_pushLeaf
set_option maxRecDepth 20000 in
theorem ggX8_builds_X8_link : GoodIn wsX8_builds wsX8_link := goodIn_r _ [20, 1, 2, 25, 26, 27, 28, 29, 30, 31, 32, 33, 34, 35, 36, 37, 38, 39, 40, 41, 42, 43, 44, 45, 46, 47, 48, 49, 50, 51, 52, 53, 54] rfl (by decide +kernel)
set_option maxRecDepth 20000 in
theorem gX8_builds_X8_link : GoodIn wsX8_builds (wsV RX8 99 RX8 yX8_link wsX8_link) := goodIn_app (goodIn_of _ (by decide +kernel)) ggX8_builds_X8_link
set_option maxRecDepth 20000 in
theorem ggX8_builds_X8_join : GoodIn wsX8_builds wsX8_join := goodIn_r _ [24, 8, 7, 6, 17, 18, 19, 15, 20, 1, 2, 25, 26, 27, 28, 29, 30, 31, 32, 33, 34, 35, 36, 37, 38, 39, 40, 41, 42, 43, 44, 45, 46, 47, 48, 49, 50, 51, 52, 53, 54] rfl (by decide +kernel)
set_option maxRecDepth 20000 in
theorem gX8_builds_X8_join : GoodIn wsX8_builds (wsV RX8 106 RX8 yX8_join wsX8_join) := goodIn_app (goodIn_of _ (by decide +kernel)) ggX8_builds_X8_join
theorem dX8_builds_0 : decode cX8_builds 0 = .ok (.aload_n 0, 1) := by decide +kernel
theorem dX8_builds_1 : decode cX8_builds 1 = .ok (.iconst 0, 1) := by decide +kernel
theorem dX8_builds_2 : decode cX8_builds 2 = .ok (.putfield 96, 3) := by decide +kernel
theorem dX8_builds_5 : decode cX8_builds 5 = .ok (.iconst 0, 1) := by decide +kernel
theorem dX8_builds_6 : decode cX8_builds 6 = .ok (.istore_n 2, 1) := by decide +kernel
theorem dX8_builds_7 : decode cX8_builds 7 = .ok (.iload_n 2, 1) := by decide +kernel
theorem dX8_builds_8 : decode cX8_builds 8 = .ok (.bipush 9, 2) := by decide +kernel
theorem dX8_builds_10 : decode cX8_builds 10 = .ok (.if_icmp .ge 21, 3) := by decide +kernel
theorem dX8_builds_13 : decode cX8_builds 13 = .ok (.aload_n 0, 1) := by decide +kernel
theorem dX8_builds_14 : decode cX8_builds 14 = .ok (.getfield 29, 3) := by decide +kernel
theorem dX8_builds_17 : decode cX8_builds 17 = .ok (.bipush 9, 2) := by decide +kernel
theorem dX8_builds_19 : decode cX8_builds 19 = .ok (.iload_n 1, 1) := by decide +kernel
theorem dX8_builds_20 : decode cX8_builds 20 = .ok (.imul, 1) := by decide +kernel
theorem dX8_builds_21 : decode cX8_builds 21 = .ok (.iload_n 2, 1) := by decide +kernel
theorem dX8_builds_22 : decode cX8_builds 22 = .ok (.iadd, 1) := by decide +kernel
theorem dX8_builds_23 : decode cX8_builds 23 = .ok (.iconst 0, 1) := by decide +kernel
theorem dX8_builds_24 : decode cX8_builds 24 = .ok (.iastore, 1) := by decide +kernel
theorem dX8_builds_25 : decode cX8_builds 25 = .ok (.iinc 2 1, 3) := by decide +kernel
theorem dX8_builds_28 : decode cX8_builds 28 = .ok (.goto (-21), 3) := by decide +kernel
theorem dX8_builds_31 : decode cX8_builds 31 = .ok (.iconst 0, 1) := by decide +kernel
theorem dX8_builds_32 : decode cX8_builds 32 = .ok (.istore_n 2, 1) := by decide +kernel
theorem dX8_builds_33 : decode cX8_builds 33 = .ok (.iload_n 2, 1) := by decide +kernel
theorem dX8_builds_34 : decode cX8_builds 34 = .ok (.iconst 3, 1) := by decide +kernel
theorem dX8_builds_35 : decode cX8_builds 35 = .ok (.if_icmp .ge 20, 3) := by decide +kernel
theorem dX8_builds_38 : decode cX8_builds 38 = .ok (.aload_n 0, 1) := by decide +kernel
theorem dX8_builds_39 : decode cX8_builds 39 = .ok (.getfield 26, 3) := by decide +kernel
theorem dX8_builds_42 : decode cX8_builds 42 = .ok (.iconst 3, 1) := by decide +kernel
theorem dX8_builds_43 : decode cX8_builds 43 = .ok (.iload_n 1, 1) := by decide +kernel
theorem dX8_builds_44 : decode cX8_builds 44 = .ok (.imul, 1) := by decide +kernel
theorem dX8_builds_45 : decode cX8_builds 45 = .ok (.iload_n 2, 1) := by decide +kernel
theorem dX8_builds_46 : decode cX8_builds 46 = .ok (.iadd, 1) := by decide +kernel
theorem dX8_builds_47 : decode cX8_builds 47 = .ok (.iconst 0, 1) := by decide +kernel
theorem dX8_builds_48 : decode cX8_builds 48 = .ok (.iastore, 1) := by decide +kernel
theorem dX8_builds_49 : decode cX8_builds 49 = .ok (.iinc 2 1, 3) := by decide +kernel
theorem dX8_builds_52 : decode cX8_builds 52 = .ok (.goto (-19), 3) := by decide +kernel
theorem dX8_builds_55 : decode cX8_builds 55 = .ok (.iconst 0, 1) := by decide +kernel
theorem dX8_builds_56 : decode cX8_builds 56 = .ok (.istore_n 2, 1) := by decide +kernel
theorem dX8_builds_57 : decode cX8_builds 57 = .ok (.aload_n 0, 1) := by decide +kernel
theorem dX8_builds_58 : decode cX8_builds 58 = .ok (.getfield 78, 3) := by decide +kernel
theorem dX8_builds_61 : decode cX8_builds 61 = .ok (.iconst 1, 1) := by decide +kernel
theorem dX8_builds_62 : decode cX8_builds 62 = .ok (.isub, 1) := by decide +kernel
theorem dX8_builds_63 : decode cX8_builds 63 = .ok (.istore_n 3, 1) := by decide +kernel
theorem dX8_builds_64 : decode cX8_builds 64 = .ok (.iload_n 3, 1) := by decide +kernel
theorem dX8_builds_65 : decode cX8_builds 65 = .ok (.ifCond .lt 107, 3) := by decide +kernel
theorem dX8_builds_68 : decode cX8_builds 68 = .ok (.aload_n 0, 1) := by decide +kernel
theorem dX8_builds_69 : decode cX8_builds 69 = .ok (.getfield 7, 3) := by decide +kernel
theorem dX8_builds_72 : decode cX8_builds 72 = .ok (.iload_n 3, 1) := by decide +kernel
theorem dX8_builds_73 : decode cX8_builds 73 = .ok (.iaload, 1) := by decide +kernel
theorem dX8_builds_74 : decode cX8_builds 74 = .ok (.bipush 6, 2) := by decide +kernel
theorem dX8_builds_76 : decode cX8_builds 76 = .ok (.if_icmp .ge 21, 3) := by decide +kernel
theorem dX8_builds_79 : decode cX8_builds 79 = .ok (.aload_n 0, 1) := by decide +kernel
theorem dX8_builds_80 : decode cX8_builds 80 = .ok (.iload_n 1, 1) := by decide +kernel
theorem dX8_builds_81 : decode cX8_builds 81 = .ok (.iload_n 2, 1) := by decide +kernel
theorem dX8_builds_82 : decode cX8_builds 82 = .ok (.aload_n 0, 1) := by decide +kernel
theorem dX8_builds_83 : decode cX8_builds 83 = .ok (.getfield 7, 3) := by decide +kernel
theorem dX8_builds_86 : decode cX8_builds 86 = .ok (.iload_n 3, 1) := by decide +kernel
theorem dX8_builds_87 : decode cX8_builds 87 = .ok (.iaload, 1) := by decide +kernel
theorem dX8_builds_88 : decode cX8_builds 88 = .ok (.invokevirtual 103, 3) := by decide +kernel
theorem dX8_builds_91 : decode cX8_builds 91 = .ok (.iinc 2 1, 3) := by decide +kernel
theorem dX8_builds_94 : decode cX8_builds 94 = .ok (.goto 72, 3) := by decide +kernel
theorem dX8_builds_97 : decode cX8_builds 97 = .ok (.aload_n 0, 1) := by decide +kernel
theorem dX8_builds_98 : decode cX8_builds 98 = .ok (.getfield 7, 3) := by decide +kernel
theorem dX8_builds_101 : decode cX8_builds 101 = .ok (.iload_n 3, 1) := by decide +kernel
theorem dX8_builds_102 : decode cX8_builds 102 = .ok (.iaload, 1) := by decide +kernel
theorem dX8_builds_103 : decode cX8_builds 103 = .ok (.bipush 8, 2) := by decide +kernel
theorem dX8_builds_105 : decode cX8_builds 105 = .ok (.if_icmp .ne 36, 3) := by decide +kernel
theorem dX8_builds_108 : decode cX8_builds 108 = .ok (.aload_n 0, 1) := by decide +kernel
theorem dX8_builds_109 : decode cX8_builds 109 = .ok (.iload_n 1, 1) := by decide +kernel
theorem dX8_builds_110 : decode cX8_builds 110 = .ok (.aload_n 0, 1) := by decide +kernel
theorem dX8_builds_111 : decode cX8_builds 111 = .ok (.getfield 38, 3) := by decide +kernel
theorem dX8_builds_114 : decode cX8_builds 114 = .ok (.iload_n 2, 1) := by decide +kernel
theorem dX8_builds_115 : decode cX8_builds 115 = .ok (.iconst 1, 1) := by decide +kernel
theorem dX8_builds_116 : decode cX8_builds 116 = .ok (.isub, 1) := by decide +kernel
theorem dX8_builds_117 : decode cX8_builds 117 = .ok (.iaload, 1) := by decide +kernel
theorem dX8_builds_118 : decode cX8_builds 118 = .ok (.aload_n 0, 1) := by decide +kernel
theorem dX8_builds_119 : decode cX8_builds 119 = .ok (.getfield 35, 3) := by decide +kernel
theorem dX8_builds_122 : decode cX8_builds 122 = .ok (.iload_n 2, 1) := by decide +kernel
theorem dX8_builds_123 : decode cX8_builds 123 = .ok (.iconst 1, 1) := by decide +kernel
theorem dX8_builds_124 : decode cX8_builds 124 = .ok (.isub, 1) := by decide +kernel
theorem dX8_builds_125 : decode cX8_builds 125 = .ok (.iaload, 1) := by decide +kernel
theorem dX8_builds_126 : decode cX8_builds 126 = .ok (.invokevirtual 99, 3) := by decide +kernel
theorem dX8_builds_129 : decode cX8_builds 129 = .ok (.aload_n 0, 1) := by decide +kernel
theorem dX8_builds_130 : decode cX8_builds 130 = .ok (.getfield 32, 3) := by decide +kernel
theorem dX8_builds_133 : decode cX8_builds 133 = .ok (.iload_n 2, 1) := by decide +kernel
theorem dX8_builds_134 : decode cX8_builds 134 = .ok (.iconst 1, 1) := by decide +kernel
theorem dX8_builds_135 : decode cX8_builds 135 = .ok (.isub, 1) := by decide +kernel
theorem dX8_builds_136 : decode cX8_builds 136 = .ok (.iconst 1, 1) := by decide +kernel
theorem dX8_builds_137 : decode cX8_builds 137 = .ok (.bastore, 1) := by decide +kernel
theorem dX8_builds_138 : decode cX8_builds 138 = .ok (.goto 28, 3) := by decide +kernel
theorem dX8_builds_141 : decode cX8_builds 141 = .ok (.iinc 2 (-1), 3) := by decide +kernel
theorem dX8_builds_144 : decode cX8_builds 144 = .ok (.aload_n 0, 1) := by decide +kernel
theorem dX8_builds_145 : decode cX8_builds 145 = .ok (.iload_n 1, 1) := by decide +kernel
theorem dX8_builds_146 : decode cX8_builds 146 = .ok (.iload_n 2, 1) := by decide +kernel
theorem dX8_builds_147 : decode cX8_builds 147 = .ok (.aload_n 0, 1) := by decide +kernel
theorem dX8_builds_148 : decode cX8_builds 148 = .ok (.getfield 7, 3) := by decide +kernel
theorem dX8_builds_151 : decode cX8_builds 151 = .ok (.iload_n 3, 1) := by decide +kernel
theorem dX8_builds_152 : decode cX8_builds 152 = .ok (.iaload, 1) := by decide +kernel
theorem dX8_builds_153 : decode cX8_builds 153 = .ok (.bipush 6, 2) := by decide +kernel
theorem dX8_builds_155 : decode cX8_builds 155 = .ok (.if_icmp .ne 7, 3) := by decide +kernel
theorem dX8_builds_158 : decode cX8_builds 158 = .ok (.iconst 1, 1) := by decide +kernel
theorem dX8_builds_159 : decode cX8_builds 159 = .ok (.goto 4, 3) := by decide +kernel
theorem dX8_builds_162 : decode cX8_builds 162 = .ok (.iconst 0, 1) := by decide +kernel
theorem dX8_builds_163 : decode cX8_builds 163 = .ok (.invokevirtual 106, 3) := by decide +kernel
theorem dX8_builds_166 : decode cX8_builds 166 = .ok (.iinc 3 (-1), 3) := by decide +kernel
theorem dX8_builds_169 : decode cX8_builds 169 = .ok (.goto (-105), 3) := by decide +kernel
theorem dX8_builds_172 : decode cX8_builds 172 = .ok (.aload_n 0, 1) := by decide +kernel
theorem dX8_builds_173 : decode cX8_builds 173 = .ok (.getfield 16, 3) := by decide +kernel
theorem dX8_builds_176 : decode cX8_builds 176 = .ok (.iload_n 1, 1) := by decide +kernel
theorem dX8_builds_177 : decode cX8_builds 177 = .ok (.aload_n 0, 1) := by decide +kernel
theorem dX8_builds_178 : decode cX8_builds 178 = .ok (.getfield 32, 3) := by decide +kernel
theorem dX8_builds_181 : decode cX8_builds 181 = .ok (.iconst 0, 1) := by decide +kernel
theorem dX8_builds_182 : decode cX8_builds 182 = .ok (.baload, 1) := by decide +kernel
theorem dX8_builds_183 : decode cX8_builds 183 = .ok (.bastore, 1) := by decide +kernel
theorem dX8_builds_184 : decode cX8_builds 184 = .ok (.aload_n 0, 1) := by decide +kernel
theorem dX8_builds_185 : decode cX8_builds 185 = .ok (.getfield 20, 3) := by decide +kernel
theorem dX8_builds_188 : decode cX8_builds 188 = .ok (.iload_n 1, 1) := by decide +kernel
theorem dX8_builds_189 : decode cX8_builds 189 = .ok (.aload_n 0, 1) := by decide +kernel
theorem dX8_builds_190 : decode cX8_builds 190 = .ok (.getfield 35, 3) := by decide +kernel
theorem dX8_builds_193 : decode cX8_builds 193 = .ok (.iconst 0, 1) := by decide +kernel
theorem dX8_builds_194 : decode cX8_builds 194 = .ok (.iaload, 1) := by decide +kernel
theorem dX8_builds_195 : decode cX8_builds 195 = .ok (.iastore, 1) := by decide +kernel
theorem dX8_builds_196 : decode cX8_builds 196 = .ok (.aload_n 0, 1) := by decide +kernel
theorem dX8_builds_197 : decode cX8_builds 197 = .ok (.getfield 23, 3) := by decide +kernel
theorem dX8_builds_200 : decode cX8_builds 200 = .ok (.iload_n 1, 1) := by decide +kernel
theorem dX8_builds_201 : decode cX8_builds 201 = .ok (.aload_n 0, 1) := by decide +kernel
theorem dX8_builds_202 : decode cX8_builds 202 = .ok (.getfield 38, 3) := by decide +kernel
theorem dX8_builds_205 : decode cX8_builds 205 = .ok (.iconst 0, 1) := by decide +kernel
theorem dX8_builds_206 : decode cX8_builds 206 = .ok (.iaload, 1) := by decide +kernel
theorem dX8_builds_207 : decode cX8_builds 207 = .ok (.iastore, 1) := by decide +kernel
theorem dX8_builds_208 : decode cX8_builds 208 = .ok (.return_, 1) := by decide +kernel
theorem dX8_after_0 : decode cX8_after 0 = .ok (.iload_n 2, 1) := by decide +kernel
theorem dX8_after_1 : decode cX8_after 1 = .ok (.bipush (-9), 2) := by decide +kernel
theorem dX8_after_3 : decode cX8_after 3 = .ok (.if_icmp .ne 12, 3) := by decide +kernel
theorem dX8_after_6 : decode cX8_after 6 = .ok (.aload_n 0, 1) := by decide +kernel
theorem dX8_after_7 : decode cX8_after 7 = .ok (.getfield 20, 3) := by decide +kernel
theorem dX8_after_10 : decode cX8_after 10 = .ok (.iload_n 1, 1) := by decide +kernel
theorem dX8_after_11 : decode cX8_after 11 = .ok (.iaload, 1) := by decide +kernel
theorem dX8_after_12 : decode cX8_after 12 = .ok (.goto 4, 3) := by decide +kernel
theorem dX8_after_15 : decode cX8_after 15 = .ok (.iconst 0, 1) := by decide +kernel
theorem dX8_after_16 : decode cX8_after 16 = .ok (.istore 4, 2) := by decide +kernel
theorem dX8_after_18 : decode cX8_after 18 = .ok (.iconst 0, 1) := by decide +kernel
theorem dX8_after_19 : decode cX8_after 19 = .ok (.istore 5, 2) := by decide +kernel
theorem dX8_after_21 : decode cX8_after 21 = .ok (.iload 5, 2) := by decide +kernel
theorem dX8_after_23 : decode cX8_after 23 = .ok (.bipush 9, 2) := by decide +kernel
theorem dX8_after_25 : decode cX8_after 25 = .ok (.if_icmp .ge 46, 3) := by decide +kernel
theorem dX8_after_28 : decode cX8_after 28 = .ok (.iload_n 2, 1) := by decide +kernel
theorem dX8_after_29 : decode cX8_after 29 = .ok (.bipush (-9), 2) := by decide +kernel
theorem dX8_after_31 : decode cX8_after 31 = .ok (.if_icmp .eq 40, 3) := by decide +kernel
theorem dX8_after_34 : decode cX8_after 34 = .ok (.iload 4, 2) := by decide +kernel
theorem dX8_after_36 : decode cX8_after 36 = .ok (.iload_n 2, 1) := by decide +kernel
theorem dX8_after_37 : decode cX8_after 37 = .ok (.iload 5, 2) := by decide +kernel
theorem dX8_after_39 : decode cX8_after 39 = .ok (.ishr, 1) := by decide +kernel
theorem dX8_after_40 : decode cX8_after 40 = .ok (.iconst 1, 1) := by decide +kernel
theorem dX8_after_41 : decode cX8_after 41 = .ok (.iand, 1) := by decide +kernel
theorem dX8_after_42 : decode cX8_after 42 = .ok (.iconst 1, 1) := by decide +kernel
theorem dX8_after_43 : decode cX8_after 43 = .ok (.if_icmp .ne 18, 3) := by decide +kernel
theorem dX8_after_46 : decode cX8_after 46 = .ok (.aload_n 0, 1) := by decide +kernel
theorem dX8_after_47 : decode cX8_after 47 = .ok (.getfield 29, 3) := by decide +kernel
theorem dX8_after_50 : decode cX8_after 50 = .ok (.bipush 9, 2) := by decide +kernel
theorem dX8_after_52 : decode cX8_after 52 = .ok (.iload_n 1, 1) := by decide +kernel
theorem dX8_after_53 : decode cX8_after 53 = .ok (.imul, 1) := by decide +kernel
theorem dX8_after_54 : decode cX8_after 54 = .ok (.iload 5, 2) := by decide +kernel
theorem dX8_after_56 : decode cX8_after 56 = .ok (.iadd, 1) := by decide +kernel
theorem dX8_after_57 : decode cX8_after 57 = .ok (.iaload, 1) := by decide +kernel
theorem dX8_after_58 : decode cX8_after 58 = .ok (.goto 4, 3) := by decide +kernel
theorem dX8_after_61 : decode cX8_after 61 = .ok (.iconst 0, 1) := by decide +kernel
theorem dX8_after_62 : decode cX8_after 62 = .ok (.ior, 1) := by decide +kernel
theorem dX8_after_63 : decode cX8_after 63 = .ok (.istore 4, 2) := by decide +kernel
theorem dX8_after_65 : decode cX8_after 65 = .ok (.iinc 5 1, 3) := by decide +kernel
theorem dX8_after_68 : decode cX8_after 68 = .ok (.goto (-47), 3) := by decide +kernel
theorem dX8_after_71 : decode cX8_after 71 = .ok (.iload 4, 2) := by decide +kernel
theorem dX8_after_73 : decode cX8_after 73 = .ok (.aload_n 0, 1) := by decide +kernel
theorem dX8_after_74 : decode cX8_after 74 = .ok (.getfield 26, 3) := by decide +kernel
theorem dX8_after_77 : decode cX8_after 77 = .ok (.iconst 3, 1) := by decide +kernel
theorem dX8_after_78 : decode cX8_after 78 = .ok (.iload_n 1, 1) := by decide +kernel
theorem dX8_after_79 : decode cX8_after 79 = .ok (.imul, 1) := by decide +kernel
theorem dX8_after_80 : decode cX8_after 80 = .ok (.iload_n 3, 1) := by decide +kernel
theorem dX8_after_81 : decode cX8_after 81 = .ok (.iadd, 1) := by decide +kernel
theorem dX8_after_82 : decode cX8_after 82 = .ok (.iaload, 1) := by decide +kernel
theorem dX8_after_83 : decode cX8_after 83 = .ok (.iand, 1) := by decide +kernel
theorem dX8_after_84 : decode cX8_after 84 = .ok (.ireturn, 1) := by decide +kernel
theorem dX8_accepts_0 : decode cX8_accepts 0 = .ok (.iload_n 2, 1) := by decide +kernel
theorem dX8_accepts_1 : decode cX8_accepts 1 = .ok (.bipush (-9), 2) := by decide +kernel
theorem dX8_accepts_3 : decode cX8_accepts 3 = .ok (.if_icmp .ne 12, 3) := by decide +kernel
theorem dX8_accepts_6 : decode cX8_accepts 6 = .ok (.aload_n 0, 1) := by decide +kernel
theorem dX8_accepts_7 : decode cX8_accepts 7 = .ok (.getfield 16, 3) := by decide +kernel
theorem dX8_accepts_10 : decode cX8_accepts 10 = .ok (.iload_n 1, 1) := by decide +kernel
theorem dX8_accepts_11 : decode cX8_accepts 11 = .ok (.baload, 1) := by decide +kernel
theorem dX8_accepts_12 : decode cX8_accepts 12 = .ok (.goto 19, 3) := by decide +kernel
theorem dX8_accepts_15 : decode cX8_accepts 15 = .ok (.iload_n 2, 1) := by decide +kernel
theorem dX8_accepts_16 : decode cX8_accepts 16 = .ok (.aload_n 0, 1) := by decide +kernel
theorem dX8_accepts_17 : decode cX8_accepts 17 = .ok (.getfield 23, 3) := by decide +kernel
theorem dX8_accepts_20 : decode cX8_accepts 20 = .ok (.iload_n 1, 1) := by decide +kernel
theorem dX8_accepts_21 : decode cX8_accepts 21 = .ok (.iaload, 1) := by decide +kernel
theorem dX8_accepts_22 : decode cX8_accepts 22 = .ok (.iand, 1) := by decide +kernel
theorem dX8_accepts_23 : decode cX8_accepts 23 = .ok (.ifCond .eq 7, 3) := by decide +kernel
theorem dX8_accepts_26 : decode cX8_accepts 26 = .ok (.iconst 1, 1) := by decide +kernel
theorem dX8_accepts_27 : decode cX8_accepts 27 = .ok (.goto 4, 3) := by decide +kernel
theorem dX8_accepts_30 : decode cX8_accepts 30 = .ok (.iconst 0, 1) := by decide +kernel
theorem dX8_accepts_31 : decode cX8_accepts 31 = .ok (.ireturn, 1) := by decide +kernel
set_option maxRecDepth 20000 in
theorem ggX8_matchesEmptyWord_X8_parses : GoodIn wsX8_matchesEmptyWord wsX8_parses := goodIn_r _ [6, 7, 8, 9, 10, 11, 5, 12, 37, 38, 39, 40, 41, 42, 43, 44, 45, 46, 47, 48, 49, 50, 51, 52, 53, 54, 55, 56, 57, 58, 59, 60, 61, 62, 63, 64, 65, 66] rfl (by decide +kernel)
set_option maxRecDepth 20000 in
theorem gX8_matchesEmptyWord_X8_parses : GoodIn wsX8_matchesEmptyWord (wsV RX8 92 RX8 yX8_parses wsX8_parses) := goodIn_app (goodIn_of _ (by decide +kernel)) ggX8_matchesEmptyWord_X8_parses
set_option maxRecDepth 20000 in
theorem ggX8_matchesEmptyWord_X8_builds : GoodIn wsX8_matchesEmptyWord wsX8_builds := goodIn_r _ [16, 17, 18, 19, 7, 9, 20, 21, 22, 1, 23, 24, 25, 26, 27, 5, 28, 29, 30, 31, 32, 33, 34, 35, 36, 37, 38, 39, 40, 41, 42, 43, 44, 45, 46, 47, 48, 49, 50, 51, 52, 53, 54, 55, 56, 57, 58, 59, 60, 61, 62, 63, 64, 65, 66] rfl (by decide +kernel)
set_option maxRecDepth 20000 in
theorem gX8_matchesEmptyWord_X8_builds : GoodIn wsX8_matchesEmptyWord (wsV RX8 110 RX8 yX8_builds wsX8_builds) := goodIn_app (goodIn_of _ (by decide +kernel)) ggX8_matchesEmptyWord_X8_builds
theorem dX8_matchesEmptyWord_0 : decode cX8_matchesEmptyWord 0 = .ok (.aload_n 0, 1) := by decide +kernel
theorem dX8_matchesEmptyWord_1 : decode cX8_matchesEmptyWord 1 = .ok (.lload_n 1, 1) := by decide +kernel
theorem dX8_matchesEmptyWord_2 : decode cX8_matchesEmptyWord 2 = .ok (.invokevirtual 92, 3) := by decide +kernel
theorem dX8_matchesEmptyWord_5 : decode cX8_matchesEmptyWord 5 = .ok (.ifCond .ne 5, 3) := by decide +kernel
theorem dX8_matchesEmptyWord_8 : decode cX8_matchesEmptyWord 8 = .ok (.iconst (-1), 1) := by decide +kernel
theorem dX8_matchesEmptyWord_9 : decode cX8_matchesEmptyWord 9 = .ok (.ireturn, 1) := by decide +kernel
theorem dX8_matchesEmptyWord_10 : decode cX8_matchesEmptyWord 10 = .ok (.aload_n 0, 1) := by decide +kernel
theorem dX8_matchesEmptyWord_11 : decode cX8_matchesEmptyWord 11 = .ok (.iconst 0, 1) := by decide +kernel
theorem dX8_matchesEmptyWord_12 : decode cX8_matchesEmptyWord 12 = .ok (.invokevirtual 110, 3) := by decide +kernel
theorem dX8_matchesEmptyWord_15 : decode cX8_matchesEmptyWord 15 = .ok (.aload_n 0, 1) := by decide +kernel
theorem dX8_matchesEmptyWord_16 : decode cX8_matchesEmptyWord 16 = .ok (.getfield 16, 3) := by decide +kernel
theorem dX8_matchesEmptyWord_19 : decode cX8_matchesEmptyWord 19 = .ok (.iconst 0, 1) := by decide +kernel
theorem dX8_matchesEmptyWord_20 : decode cX8_matchesEmptyWord 20 = .ok (.baload, 1) := by decide +kernel
theorem dX8_matchesEmptyWord_21 : decode cX8_matchesEmptyWord 21 = .ok (.ifCond .eq 7, 3) := by decide +kernel
theorem dX8_matchesEmptyWord_24 : decode cX8_matchesEmptyWord 24 = .ok (.iconst 1, 1) := by decide +kernel
theorem dX8_matchesEmptyWord_25 : decode cX8_matchesEmptyWord 25 = .ok (.goto 4, 3) := by decide +kernel
theorem dX8_matchesEmptyWord_28 : decode cX8_matchesEmptyWord 28 = .ok (.iconst 0, 1) := by decide +kernel
theorem dX8_matchesEmptyWord_29 : decode cX8_matchesEmptyWord 29 = .ok (.ireturn, 1) := by decide +kernel
set_option maxRecDepth 20000 in
theorem ggX8_countWords_X8_parses : GoodIn wsX8_countWords wsX8_parses := goodIn_r _ [5, 6, 7, 8, 9, 10, 4, 11, 45, 46, 47, 48, 49, 50, 51, 52, 53, 54, 55, 56, 57, 58, 59, 60, 61, 62, 63, 64, 65, 66, 67, 68, 69, 70, 71, 72, 73, 74] rfl (by decide +kernel)
set_option maxRecDepth 20000 in
theorem gX8_countWords_X8_parses : GoodIn wsX8_countWords (wsV RX8 92 RX8 yX8_parses wsX8_parses) := goodIn_app (goodIn_of _ (by decide +kernel)) ggX8_countWords_X8_parses
set_option maxRecDepth 20000 in
theorem ggX8_countWords_X8_within : GoodIn wsX8_countWords wsX8_within := goodIn_r _ [11] rfl (by decide +kernel)
set_option maxRecDepth 20000 in
theorem gX8_countWords_X8_within : GoodIn wsX8_countWords (va_wsS RX8 84 yX8_within wsX8_within) := goodIn_app (goodIn_of _ (by decide +kernel)) ggX8_countWords_X8_within
set_option maxRecDepth 20000 in
theorem ggX8_countWords_X8_builds : GoodIn wsX8_countWords wsX8_builds := goodIn_r _ [15, 16, 17, 18, 6, 8, 19, 20, 21, 22, 23, 24, 25, 26, 27, 4, 28, 29, 30, 31, 32, 33, 34, 35, 36, 45, 46, 47, 48, 49, 50, 51, 52, 53, 54, 55, 56, 57, 58, 59, 60, 61, 62, 63, 64, 65, 66, 67, 68, 69, 70, 71, 72, 73, 74] rfl (by decide +kernel)
set_option maxRecDepth 20000 in
theorem gX8_countWords_X8_builds : GoodIn wsX8_countWords (wsV RX8 110 RX8 yX8_builds wsX8_builds) := goodIn_app (goodIn_of _ (by decide +kernel)) ggX8_countWords_X8_builds
set_option maxRecDepth 20000 in
theorem ggX8_countWords_X8_after : GoodIn wsX8_countWords wsX8_after := goodIn_r _ [40, 23, 17, 18, 45, 46, 47, 48, 49, 50, 51, 52, 53, 54, 55, 56, 57, 58, 59, 60, 61, 62, 63, 64, 65, 66, 67, 68, 69, 70, 71, 72, 73, 74] rfl (by decide +kernel)
set_option maxRecDepth 20000 in
theorem gX8_countWords_X8_after : GoodIn wsX8_countWords (wsV RX8 114 RX8 yX8_after wsX8_after) := goodIn_app (goodIn_of _ (by decide +kernel)) ggX8_countWords_X8_after
set_option maxRecDepth 20000 in
theorem ggX8_countWords_X8_accepts : GoodIn wsX8_countWords wsX8_accepts := goodIn_r _ [44, 22, 24, 45, 46, 47, 48, 49, 50, 51, 52, 53, 54, 55, 56, 57, 58, 59, 60, 61, 62, 63, 64, 65, 66, 67, 68, 69, 70, 71, 72, 73, 74] rfl (by decide +kernel)
set_option maxRecDepth 20000 in
theorem gX8_countWords_X8_accepts : GoodIn wsX8_countWords (wsV RX8 118 RX8 yX8_accepts wsX8_accepts) := goodIn_app (goodIn_of _ (by decide +kernel)) ggX8_countWords_X8_accepts
theorem dX8_countWords_0 : decode cX8_countWords 0 = .ok (.aload_n 0, 1) := by decide +kernel
theorem dX8_countWords_1 : decode cX8_countWords 1 = .ok (.lload_n 1, 1) := by decide +kernel
theorem dX8_countWords_2 : decode cX8_countWords 2 = .ok (.invokevirtual 92, 3) := by decide +kernel
theorem dX8_countWords_5 : decode cX8_countWords 5 = .ok (.ifCond .ne 5, 3) := by decide +kernel
theorem dX8_countWords_8 : decode cX8_countWords 8 = .ok (.iconst (-1), 1) := by decide +kernel
theorem dX8_countWords_9 : decode cX8_countWords 9 = .ok (.ireturn, 1) := by decide +kernel
theorem dX8_countWords_10 : decode cX8_countWords 10 = .ok (.iload_n 3, 1) := by decide +kernel
theorem dX8_countWords_11 : decode cX8_countWords 11 = .ok (.iconst 0, 1) := by decide +kernel
theorem dX8_countWords_12 : decode cX8_countWords 12 = .ok (.bipush 6, 2) := by decide +kernel
theorem dX8_countWords_14 : decode cX8_countWords 14 = .ok (.invokestatic 84, 3) := by decide +kernel
theorem dX8_countWords_17 : decode cX8_countWords 17 = .ok (.ifCond .ne 6, 3) := by decide +kernel
theorem dX8_countWords_20 : decode cX8_countWords 20 = .ok (.bipush (-5), 2) := by decide +kernel
theorem dX8_countWords_22 : decode cX8_countWords 22 = .ok (.ireturn, 1) := by decide +kernel
theorem dX8_countWords_23 : decode cX8_countWords 23 = .ok (.aload_n 0, 1) := by decide +kernel
theorem dX8_countWords_24 : decode cX8_countWords 24 = .ok (.iconst 0, 1) := by decide +kernel
theorem dX8_countWords_25 : decode cX8_countWords 25 = .ok (.invokevirtual 110, 3) := by decide +kernel
theorem dX8_countWords_28 : decode cX8_countWords 28 = .ok (.iconst 1, 1) := by decide +kernel
theorem dX8_countWords_29 : decode cX8_countWords 29 = .ok (.istore 4, 2) := by decide +kernel
theorem dX8_countWords_31 : decode cX8_countWords 31 = .ok (.iconst 0, 1) := by decide +kernel
theorem dX8_countWords_32 : decode cX8_countWords 32 = .ok (.istore 5, 2) := by decide +kernel
theorem dX8_countWords_34 : decode cX8_countWords 34 = .ok (.iload 5, 2) := by decide +kernel
theorem dX8_countWords_36 : decode cX8_countWords 36 = .ok (.iload_n 3, 1) := by decide +kernel
theorem dX8_countWords_37 : decode cX8_countWords 37 = .ok (.if_icmp .ge 15, 3) := by decide +kernel
theorem dX8_countWords_40 : decode cX8_countWords 40 = .ok (.iload 4, 2) := by decide +kernel
theorem dX8_countWords_42 : decode cX8_countWords 42 = .ok (.iconst 3, 1) := by decide +kernel
theorem dX8_countWords_43 : decode cX8_countWords 43 = .ok (.imul, 1) := by decide +kernel
theorem dX8_countWords_44 : decode cX8_countWords 44 = .ok (.istore 4, 2) := by decide +kernel
theorem dX8_countWords_46 : decode cX8_countWords 46 = .ok (.iinc 5 1, 3) := by decide +kernel
theorem dX8_countWords_49 : decode cX8_countWords 49 = .ok (.goto (-15), 3) := by decide +kernel
theorem dX8_countWords_52 : decode cX8_countWords 52 = .ok (.iconst 0, 1) := by decide +kernel
theorem dX8_countWords_53 : decode cX8_countWords 53 = .ok (.istore 5, 2) := by decide +kernel
theorem dX8_countWords_55 : decode cX8_countWords 55 = .ok (.iconst 0, 1) := by decide +kernel
theorem dX8_countWords_56 : decode cX8_countWords 56 = .ok (.istore 6, 2) := by decide +kernel
theorem dX8_countWords_58 : decode cX8_countWords 58 = .ok (.iload 6, 2) := by decide +kernel
theorem dX8_countWords_60 : decode cX8_countWords 60 = .ok (.iload 4, 2) := by decide +kernel
theorem dX8_countWords_62 : decode cX8_countWords 62 = .ok (.if_icmp .ge 71, 3) := by decide +kernel
theorem dX8_countWords_65 : decode cX8_countWords 65 = .ok (.bipush (-9), 2) := by decide +kernel
theorem dX8_countWords_67 : decode cX8_countWords 67 = .ok (.istore 7, 2) := by decide +kernel
theorem dX8_countWords_69 : decode cX8_countWords 69 = .ok (.iload 6, 2) := by decide +kernel
theorem dX8_countWords_71 : decode cX8_countWords 71 = .ok (.istore 8, 2) := by decide +kernel
theorem dX8_countWords_73 : decode cX8_countWords 73 = .ok (.iconst 0, 1) := by decide +kernel
theorem dX8_countWords_74 : decode cX8_countWords 74 = .ok (.istore 9, 2) := by decide +kernel
theorem dX8_countWords_76 : decode cX8_countWords 76 = .ok (.iload 9, 2) := by decide +kernel
theorem dX8_countWords_78 : decode cX8_countWords 78 = .ok (.iload_n 3, 1) := by decide +kernel
theorem dX8_countWords_79 : decode cX8_countWords 79 = .ok (.if_icmp .ge 28, 3) := by decide +kernel
theorem dX8_countWords_82 : decode cX8_countWords 82 = .ok (.aload_n 0, 1) := by decide +kernel
theorem dX8_countWords_83 : decode cX8_countWords 83 = .ok (.iconst 0, 1) := by decide +kernel
theorem dX8_countWords_84 : decode cX8_countWords 84 = .ok (.iload 7, 2) := by decide +kernel
theorem dX8_countWords_86 : decode cX8_countWords 86 = .ok (.iload 8, 2) := by decide +kernel
theorem dX8_countWords_88 : decode cX8_countWords 88 = .ok (.iconst 3, 1) := by decide +kernel
theorem dX8_countWords_89 : decode cX8_countWords 89 = .ok (.irem, 1) := by decide +kernel
theorem dX8_countWords_90 : decode cX8_countWords 90 = .ok (.invokevirtual 114, 3) := by decide +kernel
theorem dX8_countWords_93 : decode cX8_countWords 93 = .ok (.istore 7, 2) := by decide +kernel
theorem dX8_countWords_95 : decode cX8_countWords 95 = .ok (.iload 8, 2) := by decide +kernel
theorem dX8_countWords_97 : decode cX8_countWords 97 = .ok (.iconst 3, 1) := by decide +kernel
theorem dX8_countWords_98 : decode cX8_countWords 98 = .ok (.idiv, 1) := by decide +kernel
theorem dX8_countWords_99 : decode cX8_countWords 99 = .ok (.istore 8, 2) := by decide +kernel
theorem dX8_countWords_101 : decode cX8_countWords 101 = .ok (.iinc 9 1, 3) := by decide +kernel
theorem dX8_countWords_104 : decode cX8_countWords 104 = .ok (.goto (-28), 3) := by decide +kernel
theorem dX8_countWords_107 : decode cX8_countWords 107 = .ok (.iload 5, 2) := by decide +kernel
theorem dX8_countWords_109 : decode cX8_countWords 109 = .ok (.aload_n 0, 1) := by decide +kernel
theorem dX8_countWords_110 : decode cX8_countWords 110 = .ok (.iconst 0, 1) := by decide +kernel
theorem dX8_countWords_111 : decode cX8_countWords 111 = .ok (.iload 7, 2) := by decide +kernel
theorem dX8_countWords_113 : decode cX8_countWords 113 = .ok (.invokevirtual 118, 3) := by decide +kernel
theorem dX8_countWords_116 : decode cX8_countWords 116 = .ok (.ifCond .eq 7, 3) := by decide +kernel
theorem dX8_countWords_119 : decode cX8_countWords 119 = .ok (.iconst 1, 1) := by decide +kernel
theorem dX8_countWords_120 : decode cX8_countWords 120 = .ok (.goto 4, 3) := by decide +kernel
theorem dX8_countWords_123 : decode cX8_countWords 123 = .ok (.iconst 0, 1) := by decide +kernel
theorem dX8_countWords_124 : decode cX8_countWords 124 = .ok (.iadd, 1) := by decide +kernel
theorem dX8_countWords_125 : decode cX8_countWords 125 = .ok (.istore 5, 2) := by decide +kernel
theorem dX8_countWords_127 : decode cX8_countWords 127 = .ok (.iinc 6 1, 3) := by decide +kernel
theorem dX8_countWords_130 : decode cX8_countWords 130 = .ok (.goto (-72), 3) := by decide +kernel
theorem dX8_countWords_133 : decode cX8_countWords 133 = .ok (.iload 5, 2) := by decide +kernel
theorem dX8_countWords_135 : decode cX8_countWords 135 = .ok (.ireturn, 1) := by decide +kernel
theorem dX8_enqueue_0 : decode cX8_enqueue 0 = .ok (.sipush 512, 3) := by decide +kernel
theorem dX8_enqueue_3 : decode cX8_enqueue 3 = .ok (.iload_n 1, 1) := by decide +kernel
theorem dX8_enqueue_4 : decode cX8_enqueue 4 = .ok (.imul, 1) := by decide +kernel
theorem dX8_enqueue_5 : decode cX8_enqueue 5 = .ok (.iload_n 2, 1) := by decide +kernel
theorem dX8_enqueue_6 : decode cX8_enqueue 6 = .ok (.iadd, 1) := by decide +kernel
theorem dX8_enqueue_7 : decode cX8_enqueue 7 = .ok (.istore 5, 2) := by decide +kernel
theorem dX8_enqueue_9 : decode cX8_enqueue 9 = .ok (.aload_n 0, 1) := by decide +kernel
theorem dX8_enqueue_10 : decode cX8_enqueue 10 = .ok (.getfield 42, 3) := by decide +kernel
theorem dX8_enqueue_13 : decode cX8_enqueue 13 = .ok (.iload 5, 2) := by decide +kernel
theorem dX8_enqueue_15 : decode cX8_enqueue 15 = .ok (.iaload, 1) := by decide +kernel
theorem dX8_enqueue_16 : decode cX8_enqueue 16 = .ok (.aload_n 0, 1) := by decide +kernel
theorem dX8_enqueue_17 : decode cX8_enqueue 17 = .ok (.getfield 122, 3) := by decide +kernel
theorem dX8_enqueue_20 : decode cX8_enqueue 20 = .ok (.if_icmp .eq 50, 3) := by decide +kernel
theorem dX8_enqueue_23 : decode cX8_enqueue 23 = .ok (.aload_n 0, 1) := by decide +kernel
theorem dX8_enqueue_24 : decode cX8_enqueue 24 = .ok (.getfield 42, 3) := by decide +kernel
theorem dX8_enqueue_27 : decode cX8_enqueue 27 = .ok (.iload 5, 2) := by decide +kernel
theorem dX8_enqueue_29 : decode cX8_enqueue 29 = .ok (.aload_n 0, 1) := by decide +kernel
theorem dX8_enqueue_30 : decode cX8_enqueue 30 = .ok (.getfield 122, 3) := by decide +kernel
theorem dX8_enqueue_33 : decode cX8_enqueue 33 = .ok (.iastore, 1) := by decide +kernel
theorem dX8_enqueue_34 : decode cX8_enqueue 34 = .ok (.aload_n 0, 1) := by decide +kernel
theorem dX8_enqueue_35 : decode cX8_enqueue 35 = .ok (.getfield 46, 3) := by decide +kernel
theorem dX8_enqueue_38 : decode cX8_enqueue 38 = .ok (.aload_n 0, 1) := by decide +kernel
theorem dX8_enqueue_39 : decode cX8_enqueue 39 = .ok (.getfield 125, 3) := by decide +kernel
theorem dX8_enqueue_42 : decode cX8_enqueue 42 = .ok (.iload 5, 2) := by decide +kernel
theorem dX8_enqueue_44 : decode cX8_enqueue 44 = .ok (.iastore, 1) := by decide +kernel
theorem dX8_enqueue_45 : decode cX8_enqueue 45 = .ok (.aload_n 0, 1) := by decide +kernel
theorem dX8_enqueue_46 : decode cX8_enqueue 46 = .ok (.getfield 49, 3) := by decide +kernel
theorem dX8_enqueue_49 : decode cX8_enqueue 49 = .ok (.aload_n 0, 1) := by decide +kernel
theorem dX8_enqueue_50 : decode cX8_enqueue 50 = .ok (.getfield 125, 3) := by decide +kernel
theorem dX8_enqueue_53 : decode cX8_enqueue 53 = .ok (.iconst 3, 1) := by decide +kernel
theorem dX8_enqueue_54 : decode cX8_enqueue 54 = .ok (.iload_n 3, 1) := by decide +kernel
theorem dX8_enqueue_55 : decode cX8_enqueue 55 = .ok (.imul, 1) := by decide +kernel
theorem dX8_enqueue_56 : decode cX8_enqueue 56 = .ok (.iload 4, 2) := by decide +kernel
theorem dX8_enqueue_58 : decode cX8_enqueue 58 = .ok (.iadd, 1) := by decide +kernel
theorem dX8_enqueue_59 : decode cX8_enqueue 59 = .ok (.iastore, 1) := by decide +kernel
theorem dX8_enqueue_60 : decode cX8_enqueue 60 = .ok (.aload_n 0, 1) := by decide +kernel
theorem dX8_enqueue_61 : decode cX8_enqueue 61 = .ok (.dup, 1) := by decide +kernel
theorem dX8_enqueue_62 : decode cX8_enqueue 62 = .ok (.getfield 125, 3) := by decide +kernel
theorem dX8_enqueue_65 : decode cX8_enqueue 65 = .ok (.iconst 1, 1) := by decide +kernel
theorem dX8_enqueue_66 : decode cX8_enqueue 66 = .ok (.iadd, 1) := by decide +kernel
theorem dX8_enqueue_67 : decode cX8_enqueue 67 = .ok (.putfield 125, 3) := by decide +kernel
theorem dX8_enqueue_70 : decode cX8_enqueue 70 = .ok (.return_, 1) := by decide +kernel
set_option maxRecDepth 20000 in
theorem ggX8_differs_X8_accepts : GoodIn wsX8_differs wsX8_accepts := goodIn_r _ [6, 7, 8, 9, 10, 11, 12, 13, 14, 15, 16, 17, 18, 19, 20, 21, 22, 23, 24, 25, 26, 27, 28, 29, 30, 31, 32, 33, 34, 35, 36, 37, 38] rfl (by decide +kernel)
set_option maxRecDepth 20000 in
theorem gX8_differs_X8_accepts : GoodIn wsX8_differs (wsV RX8 118 RX8 yX8_accepts wsX8_accepts) := goodIn_app (goodIn_of _ (by decide +kernel)) ggX8_differs_X8_accepts
theorem dX8_differs_0 : decode cX8_differs 0 = .ok (.iload_n 1, 1) := by decide +kernel
theorem dX8_differs_1 : decode cX8_differs 1 = .ok (.ifCond .ne 8, 3) := by decide +kernel
theorem dX8_differs_4 : decode cX8_differs 4 = .ok (.bipush (-9), 2) := by decide +kernel
theorem dX8_differs_6 : decode cX8_differs 6 = .ok (.goto 13, 3) := by decide +kernel
theorem dX8_differs_9 : decode cX8_differs 9 = .ok (.aload_n 0, 1) := by decide +kernel
theorem dX8_differs_10 : decode cX8_differs 10 = .ok (.getfield 46, 3) := by decide +kernel
theorem dX8_differs_13 : decode cX8_differs 13 = .ok (.iload_n 1, 1) := by decide +kernel
theorem dX8_differs_14 : decode cX8_differs 14 = .ok (.iaload, 1) := by decide +kernel
theorem dX8_differs_15 : decode cX8_differs 15 = .ok (.sipush 512, 3) := by decide +kernel
theorem dX8_differs_18 : decode cX8_differs 18 = .ok (.idiv, 1) := by decide +kernel
theorem dX8_differs_19 : decode cX8_differs 19 = .ok (.istore_n 2, 1) := by decide +kernel
theorem dX8_differs_20 : decode cX8_differs 20 = .ok (.iload_n 1, 1) := by decide +kernel
theorem dX8_differs_21 : decode cX8_differs 21 = .ok (.ifCond .ne 8, 3) := by decide +kernel
theorem dX8_differs_24 : decode cX8_differs 24 = .ok (.bipush (-9), 2) := by decide +kernel
theorem dX8_differs_26 : decode cX8_differs 26 = .ok (.goto 13, 3) := by decide +kernel
theorem dX8_differs_29 : decode cX8_differs 29 = .ok (.aload_n 0, 1) := by decide +kernel
theorem dX8_differs_30 : decode cX8_differs 30 = .ok (.getfield 46, 3) := by decide +kernel
theorem dX8_differs_33 : decode cX8_differs 33 = .ok (.iload_n 1, 1) := by decide +kernel
theorem dX8_differs_34 : decode cX8_differs 34 = .ok (.iaload, 1) := by decide +kernel
theorem dX8_differs_35 : decode cX8_differs 35 = .ok (.sipush 512, 3) := by decide +kernel
theorem dX8_differs_38 : decode cX8_differs 38 = .ok (.irem, 1) := by decide +kernel
theorem dX8_differs_39 : decode cX8_differs 39 = .ok (.istore_n 3, 1) := by decide +kernel
theorem dX8_differs_40 : decode cX8_differs 40 = .ok (.aload_n 0, 1) := by decide +kernel
theorem dX8_differs_41 : decode cX8_differs 41 = .ok (.iconst 0, 1) := by decide +kernel
theorem dX8_differs_42 : decode cX8_differs 42 = .ok (.iload_n 2, 1) := by decide +kernel
theorem dX8_differs_43 : decode cX8_differs 43 = .ok (.invokevirtual 118, 3) := by decide +kernel
theorem dX8_differs_46 : decode cX8_differs 46 = .ok (.aload_n 0, 1) := by decide +kernel
theorem dX8_differs_47 : decode cX8_differs 47 = .ok (.iconst 1, 1) := by decide +kernel
theorem dX8_differs_48 : decode cX8_differs 48 = .ok (.iload_n 3, 1) := by decide +kernel
theorem dX8_differs_49 : decode cX8_differs 49 = .ok (.invokevirtual 118, 3) := by decide +kernel
theorem dX8_differs_52 : decode cX8_differs 52 = .ok (.if_icmp .eq 7, 3) := by decide +kernel
theorem dX8_differs_55 : decode cX8_differs 55 = .ok (.iconst 1, 1) := by decide +kernel
theorem dX8_differs_56 : decode cX8_differs 56 = .ok (.goto 4, 3) := by decide +kernel
theorem dX8_differs_59 : decode cX8_differs 59 = .ok (.iconst 0, 1) := by decide +kernel
theorem dX8_differs_60 : decode cX8_differs 60 = .ok (.ireturn, 1) := by decide +kernel
set_option maxRecDepth 20000 in
theorem ggX8_findsDifference_X8_parses : GoodIn wsX8_findsDifference wsX8_parses := goodIn_r _ [8, 9, 10, 11, 12, 13, 7, 14, 64, 65, 66, 67, 68, 69, 70, 71, 72, 73, 74, 75, 76, 77, 78, 79, 80, 81, 82, 83, 84, 85, 86, 87, 88, 89, 90, 91, 92, 93] rfl (by decide +kernel)
set_option maxRecDepth 20000 in
theorem gX8_findsDifference_X8_parses : GoodIn wsX8_findsDifference (wsV RX8 92 RX8 yX8_parses wsX8_parses) := goodIn_app (goodIn_of _ (by decide +kernel)) ggX8_findsDifference_X8_parses
set_option maxRecDepth 20000 in
theorem ggX8_findsDifference_X8_builds : GoodIn wsX8_findsDifference wsX8_builds := goodIn_r _ [18, 19, 20, 21, 9, 11, 22, 23, 24, 25, 26, 27, 28, 29, 30, 7, 31, 32, 33, 34, 35, 36, 37, 38, 39, 64, 65, 66, 67, 68, 69, 70, 71, 72, 73, 74, 75, 76, 77, 78, 79, 80, 81, 82, 83, 84, 85, 86, 87, 88, 89, 90, 91, 92, 93] rfl (by decide +kernel)
set_option maxRecDepth 20000 in
theorem gX8_findsDifference_X8_builds : GoodIn wsX8_findsDifference (wsV RX8 110 RX8 yX8_builds wsX8_builds) := goodIn_app (goodIn_of _ (by decide +kernel)) ggX8_findsDifference_X8_builds
set_option maxRecDepth 20000 in
theorem ggX8_findsDifference_X8_differs : GoodIn wsX8_findsDifference wsX8_differs := goodIn_r _ [43, 3, 44, 45, 46, 7, 47, 25, 27, 64, 65, 66, 67, 68, 69, 70, 71, 72, 73, 74, 75, 76, 77, 78, 79, 80, 81, 82, 83, 84, 85, 86, 87, 88, 89, 90, 91, 92, 93] rfl (by decide +kernel)
set_option maxRecDepth 20000 in
theorem gX8_findsDifference_X8_differs : GoodIn wsX8_findsDifference (wsV RX8 128 RX8 yX8_differs wsX8_differs) := goodIn_app (goodIn_of _ (by decide +kernel)) ggX8_findsDifference_X8_differs
set_option maxRecDepth 20000 in
theorem ggX8_findsDifference_X8_readsWord : GoodIn wsX8_findsDifference wsX8_readsWord := goodIn_r _ [51, 52, 53, 54, 64, 65, 66, 67, 68, 69, 70, 71, 72, 73, 74, 75, 76, 77, 78, 79, 80, 81, 82, 83, 84, 85, 86, 87, 88, 89, 90, 91, 92, 93] rfl (by decide +kernel)
set_option maxRecDepth 20000 in
theorem gX8_findsDifference_X8_readsWord : GoodIn wsX8_findsDifference (wsV RX8 132 RX8 yX8_readsWord wsX8_readsWord) := goodIn_app (goodIn_of _ (by decide +kernel)) ggX8_findsDifference_X8_readsWord
set_option maxRecDepth 20000 in
theorem ggX8_findsDifference_X8_after : GoodIn wsX8_findsDifference wsX8_after := goodIn_r _ [58, 26, 20, 21, 64, 65, 66, 67, 68, 69, 70, 71, 72, 73, 74, 75, 76, 77, 78, 79, 80, 81, 82, 83, 84, 85, 86, 87, 88, 89, 90, 91, 92, 93] rfl (by decide +kernel)
set_option maxRecDepth 20000 in
theorem gX8_findsDifference_X8_after : GoodIn wsX8_findsDifference (wsV RX8 114 RX8 yX8_after wsX8_after) := goodIn_app (goodIn_of _ (by decide +kernel)) ggX8_findsDifference_X8_after
set_option maxRecDepth 20000 in
theorem ggX8_findsDifference_X8_enqueue : GoodIn wsX8_findsDifference wsX8_enqueue := goodIn_r _ [62, 63, 1, 3, 2, 53, 64, 65, 66, 67, 68, 69, 70, 71, 72, 73, 74, 75, 76, 77, 78, 79, 80, 81, 82, 83, 84, 85, 86, 87, 88, 89, 90, 91, 92, 93] rfl (by decide +kernel)
set_option maxRecDepth 20000 in
theorem gX8_findsDifference_X8_enqueue : GoodIn wsX8_findsDifference (wsV RX8 135 RX8 yX8_enqueue wsX8_enqueue) := goodIn_app (goodIn_of _ (by decide +kernel)) ggX8_findsDifference_X8_enqueue
theorem dX8_findsDifference_0 : decode cX8_findsDifference 0 = .ok (.aload_n 0, 1) := by decide +kernel
theorem dX8_findsDifference_1 : decode cX8_findsDifference 1 = .ok (.lload_n 1, 1) := by decide +kernel
theorem dX8_findsDifference_2 : decode cX8_findsDifference 2 = .ok (.invokevirtual 92, 3) := by decide +kernel
theorem dX8_findsDifference_5 : decode cX8_findsDifference 5 = .ok (.pop, 1) := by decide +kernel
theorem dX8_findsDifference_6 : decode cX8_findsDifference 6 = .ok (.aload_n 0, 1) := by decide +kernel
theorem dX8_findsDifference_7 : decode cX8_findsDifference 7 = .ok (.iconst 0, 1) := by decide +kernel
theorem dX8_findsDifference_8 : decode cX8_findsDifference 8 = .ok (.invokevirtual 110, 3) := by decide +kernel
theorem dX8_findsDifference_11 : decode cX8_findsDifference 11 = .ok (.aload_n 0, 1) := by decide +kernel
theorem dX8_findsDifference_12 : decode cX8_findsDifference 12 = .ok (.lload_n 3, 1) := by decide +kernel
theorem dX8_findsDifference_13 : decode cX8_findsDifference 13 = .ok (.invokevirtual 92, 3) := by decide +kernel
theorem dX8_findsDifference_16 : decode cX8_findsDifference 16 = .ok (.pop, 1) := by decide +kernel
theorem dX8_findsDifference_17 : decode cX8_findsDifference 17 = .ok (.aload_n 0, 1) := by decide +kernel
theorem dX8_findsDifference_18 : decode cX8_findsDifference 18 = .ok (.iconst 1, 1) := by decide +kernel
theorem dX8_findsDifference_19 : decode cX8_findsDifference 19 = .ok (.invokevirtual 110, 3) := by decide +kernel
theorem dX8_findsDifference_22 : decode cX8_findsDifference 22 = .ok (.aload_n 0, 1) := by decide +kernel
theorem dX8_findsDifference_23 : decode cX8_findsDifference 23 = .ok (.dup, 1) := by decide +kernel
theorem dX8_findsDifference_24 : decode cX8_findsDifference 24 = .ok (.getfield 122, 3) := by decide +kernel
theorem dX8_findsDifference_27 : decode cX8_findsDifference 27 = .ok (.iconst 1, 1) := by decide +kernel
theorem dX8_findsDifference_28 : decode cX8_findsDifference 28 = .ok (.iadd, 1) := by decide +kernel
theorem dX8_findsDifference_29 : decode cX8_findsDifference 29 = .ok (.putfield 122, 3) := by decide +kernel
theorem dX8_findsDifference_32 : decode cX8_findsDifference 32 = .ok (.aload_n 0, 1) := by decide +kernel
theorem dX8_findsDifference_33 : decode cX8_findsDifference 33 = .ok (.iconst 1, 1) := by decide +kernel
theorem dX8_findsDifference_34 : decode cX8_findsDifference 34 = .ok (.putfield 125, 3) := by decide +kernel
theorem dX8_findsDifference_37 : decode cX8_findsDifference 37 = .ok (.iconst 0, 1) := by decide +kernel
theorem dX8_findsDifference_38 : decode cX8_findsDifference 38 = .ok (.istore 5, 2) := by decide +kernel
theorem dX8_findsDifference_40 : decode cX8_findsDifference 40 = .ok (.iload 5, 2) := by decide +kernel
theorem dX8_findsDifference_42 : decode cX8_findsDifference 42 = .ok (.aload_n 0, 1) := by decide +kernel
theorem dX8_findsDifference_43 : decode cX8_findsDifference 43 = .ok (.getfield 125, 3) := by decide +kernel
theorem dX8_findsDifference_46 : decode cX8_findsDifference 46 = .ok (.if_icmp .ge 113, 3) := by decide +kernel
theorem dX8_findsDifference_49 : decode cX8_findsDifference 49 = .ok (.aload_n 0, 1) := by decide +kernel
theorem dX8_findsDifference_50 : decode cX8_findsDifference 50 = .ok (.iload 5, 2) := by decide +kernel
theorem dX8_findsDifference_52 : decode cX8_findsDifference 52 = .ok (.invokevirtual 128, 3) := by decide +kernel
theorem dX8_findsDifference_55 : decode cX8_findsDifference 55 = .ok (.ifCond .eq 11, 3) := by decide +kernel
theorem dX8_findsDifference_58 : decode cX8_findsDifference 58 = .ok (.aload_n 0, 1) := by decide +kernel
theorem dX8_findsDifference_59 : decode cX8_findsDifference 59 = .ok (.iload 5, 2) := by decide +kernel
theorem dX8_findsDifference_61 : decode cX8_findsDifference 61 = .ok (.invokevirtual 132, 3) := by decide +kernel
theorem dX8_findsDifference_64 : decode cX8_findsDifference 64 = .ok (.iconst 1, 1) := by decide +kernel
theorem dX8_findsDifference_65 : decode cX8_findsDifference 65 = .ok (.ireturn, 1) := by decide +kernel
theorem dX8_findsDifference_66 : decode cX8_findsDifference 66 = .ok (.iload 5, 2) := by decide +kernel
theorem dX8_findsDifference_68 : decode cX8_findsDifference 68 = .ok (.ifCond .ne 8, 3) := by decide +kernel
theorem dX8_findsDifference_71 : decode cX8_findsDifference 71 = .ok (.bipush (-9), 2) := by decide +kernel
theorem dX8_findsDifference_73 : decode cX8_findsDifference 73 = .ok (.goto 14, 3) := by decide +kernel
theorem dX8_findsDifference_76 : decode cX8_findsDifference 76 = .ok (.aload_n 0, 1) := by decide +kernel
theorem dX8_findsDifference_77 : decode cX8_findsDifference 77 = .ok (.getfield 46, 3) := by decide +kernel
theorem dX8_findsDifference_80 : decode cX8_findsDifference 80 = .ok (.iload 5, 2) := by decide +kernel
theorem dX8_findsDifference_82 : decode cX8_findsDifference 82 = .ok (.iaload, 1) := by decide +kernel
theorem dX8_findsDifference_83 : decode cX8_findsDifference 83 = .ok (.sipush 512, 3) := by decide +kernel
theorem dX8_findsDifference_86 : decode cX8_findsDifference 86 = .ok (.idiv, 1) := by decide +kernel
theorem dX8_findsDifference_87 : decode cX8_findsDifference 87 = .ok (.istore 6, 2) := by decide +kernel
theorem dX8_findsDifference_89 : decode cX8_findsDifference 89 = .ok (.iload 5, 2) := by decide +kernel
theorem dX8_findsDifference_91 : decode cX8_findsDifference 91 = .ok (.ifCond .ne 8, 3) := by decide +kernel
theorem dX8_findsDifference_94 : decode cX8_findsDifference 94 = .ok (.bipush (-9), 2) := by decide +kernel
theorem dX8_findsDifference_96 : decode cX8_findsDifference 96 = .ok (.goto 14, 3) := by decide +kernel
theorem dX8_findsDifference_99 : decode cX8_findsDifference 99 = .ok (.aload_n 0, 1) := by decide +kernel
theorem dX8_findsDifference_100 : decode cX8_findsDifference 100 = .ok (.getfield 46, 3) := by decide +kernel
theorem dX8_findsDifference_103 : decode cX8_findsDifference 103 = .ok (.iload 5, 2) := by decide +kernel
theorem dX8_findsDifference_105 : decode cX8_findsDifference 105 = .ok (.iaload, 1) := by decide +kernel
theorem dX8_findsDifference_106 : decode cX8_findsDifference 106 = .ok (.sipush 512, 3) := by decide +kernel
theorem dX8_findsDifference_109 : decode cX8_findsDifference 109 = .ok (.irem, 1) := by decide +kernel
theorem dX8_findsDifference_110 : decode cX8_findsDifference 110 = .ok (.istore 7, 2) := by decide +kernel
theorem dX8_findsDifference_112 : decode cX8_findsDifference 112 = .ok (.iconst 0, 1) := by decide +kernel
theorem dX8_findsDifference_113 : decode cX8_findsDifference 113 = .ok (.istore 8, 2) := by decide +kernel
theorem dX8_findsDifference_115 : decode cX8_findsDifference 115 = .ok (.iload 8, 2) := by decide +kernel
theorem dX8_findsDifference_117 : decode cX8_findsDifference 117 = .ok (.iconst 3, 1) := by decide +kernel
theorem dX8_findsDifference_118 : decode cX8_findsDifference 118 = .ok (.if_icmp .ge 35, 3) := by decide +kernel
theorem dX8_findsDifference_121 : decode cX8_findsDifference 121 = .ok (.aload_n 0, 1) := by decide +kernel
theorem dX8_findsDifference_122 : decode cX8_findsDifference 122 = .ok (.aload_n 0, 1) := by decide +kernel
theorem dX8_findsDifference_123 : decode cX8_findsDifference 123 = .ok (.iconst 0, 1) := by decide +kernel
theorem dX8_findsDifference_124 : decode cX8_findsDifference 124 = .ok (.iload 6, 2) := by decide +kernel
theorem dX8_findsDifference_126 : decode cX8_findsDifference 126 = .ok (.iload 8, 2) := by decide +kernel
theorem dX8_findsDifference_128 : decode cX8_findsDifference 128 = .ok (.invokevirtual 114, 3) := by decide +kernel
theorem dX8_findsDifference_131 : decode cX8_findsDifference 131 = .ok (.aload_n 0, 1) := by decide +kernel
theorem dX8_findsDifference_132 : decode cX8_findsDifference 132 = .ok (.iconst 1, 1) := by decide +kernel
theorem dX8_findsDifference_133 : decode cX8_findsDifference 133 = .ok (.iload 7, 2) := by decide +kernel
theorem dX8_findsDifference_135 : decode cX8_findsDifference 135 = .ok (.iload 8, 2) := by decide +kernel
theorem dX8_findsDifference_137 : decode cX8_findsDifference 137 = .ok (.invokevirtual 114, 3) := by decide +kernel
theorem dX8_findsDifference_140 : decode cX8_findsDifference 140 = .ok (.iload 5, 2) := by decide +kernel
theorem dX8_findsDifference_142 : decode cX8_findsDifference 142 = .ok (.iload 8, 2) := by decide +kernel
theorem dX8_findsDifference_144 : decode cX8_findsDifference 144 = .ok (.invokevirtual 135, 3) := by decide +kernel
theorem dX8_findsDifference_147 : decode cX8_findsDifference 147 = .ok (.iinc 8 1, 3) := by decide +kernel
theorem dX8_findsDifference_150 : decode cX8_findsDifference 150 = .ok (.goto (-35), 3) := by decide +kernel
theorem dX8_findsDifference_153 : decode cX8_findsDifference 153 = .ok (.iinc 5 1, 3) := by decide +kernel
theorem dX8_findsDifference_156 : decode cX8_findsDifference 156 = .ok (.goto (-116), 3) := by decide +kernel
theorem dX8_findsDifference_159 : decode cX8_findsDifference 159 = .ok (.iconst 0, 1) := by decide +kernel
theorem dX8_findsDifference_160 : decode cX8_findsDifference 160 = .ok (.ireturn, 1) := by decide +kernel
theorem dX8_readsWord_0 : decode cX8_readsWord 0 = .ok (.aload_n 0, 1) := by decide +kernel
theorem dX8_readsWord_1 : decode cX8_readsWord 1 = .ok (.iconst 0, 1) := by decide +kernel
theorem dX8_readsWord_2 : decode cX8_readsWord 2 = .ok (.putfield 139, 3) := by decide +kernel
theorem dX8_readsWord_5 : decode cX8_readsWord 5 = .ok (.iload_n 1, 1) := by decide +kernel
theorem dX8_readsWord_6 : decode cX8_readsWord 6 = .ok (.istore_n 2, 1) := by decide +kernel
theorem dX8_readsWord_7 : decode cX8_readsWord 7 = .ok (.iload_n 2, 1) := by decide +kernel
theorem dX8_readsWord_8 : decode cX8_readsWord 8 = .ok (.ifCond .le 25, 3) := by decide +kernel
theorem dX8_readsWord_11 : decode cX8_readsWord 11 = .ok (.aload_n 0, 1) := by decide +kernel
theorem dX8_readsWord_12 : decode cX8_readsWord 12 = .ok (.dup, 1) := by decide +kernel
theorem dX8_readsWord_13 : decode cX8_readsWord 13 = .ok (.getfield 139, 3) := by decide +kernel
theorem dX8_readsWord_16 : decode cX8_readsWord 16 = .ok (.iconst 1, 1) := by decide +kernel
theorem dX8_readsWord_17 : decode cX8_readsWord 17 = .ok (.iadd, 1) := by decide +kernel
theorem dX8_readsWord_18 : decode cX8_readsWord 18 = .ok (.putfield 139, 3) := by decide +kernel
theorem dX8_readsWord_21 : decode cX8_readsWord 21 = .ok (.aload_n 0, 1) := by decide +kernel
theorem dX8_readsWord_22 : decode cX8_readsWord 22 = .ok (.getfield 49, 3) := by decide +kernel
theorem dX8_readsWord_25 : decode cX8_readsWord 25 = .ok (.iload_n 2, 1) := by decide +kernel
theorem dX8_readsWord_26 : decode cX8_readsWord 26 = .ok (.iaload, 1) := by decide +kernel
theorem dX8_readsWord_27 : decode cX8_readsWord 27 = .ok (.iconst 3, 1) := by decide +kernel
theorem dX8_readsWord_28 : decode cX8_readsWord 28 = .ok (.idiv, 1) := by decide +kernel
theorem dX8_readsWord_29 : decode cX8_readsWord 29 = .ok (.istore_n 2, 1) := by decide +kernel
theorem dX8_readsWord_30 : decode cX8_readsWord 30 = .ok (.goto (-23), 3) := by decide +kernel
theorem dX8_readsWord_33 : decode cX8_readsWord 33 = .ok (.aload_n 0, 1) := by decide +kernel
theorem dX8_readsWord_34 : decode cX8_readsWord 34 = .ok (.getfield 139, 3) := by decide +kernel
theorem dX8_readsWord_37 : decode cX8_readsWord 37 = .ok (.istore_n 2, 1) := by decide +kernel
theorem dX8_readsWord_38 : decode cX8_readsWord 38 = .ok (.iload_n 1, 1) := by decide +kernel
theorem dX8_readsWord_39 : decode cX8_readsWord 39 = .ok (.istore_n 3, 1) := by decide +kernel
theorem dX8_readsWord_40 : decode cX8_readsWord 40 = .ok (.iload_n 3, 1) := by decide +kernel
theorem dX8_readsWord_41 : decode cX8_readsWord 41 = .ok (.ifCond .le 32, 3) := by decide +kernel
theorem dX8_readsWord_44 : decode cX8_readsWord 44 = .ok (.iinc 2 (-1), 3) := by decide +kernel
theorem dX8_readsWord_47 : decode cX8_readsWord 47 = .ok (.aload_n 0, 1) := by decide +kernel
theorem dX8_readsWord_48 : decode cX8_readsWord 48 = .ok (.getfield 52, 3) := by decide +kernel
theorem dX8_readsWord_51 : decode cX8_readsWord 51 = .ok (.iload_n 2, 1) := by decide +kernel
theorem dX8_readsWord_52 : decode cX8_readsWord 52 = .ok (.aload_n 0, 1) := by decide +kernel
theorem dX8_readsWord_53 : decode cX8_readsWord 53 = .ok (.getfield 49, 3) := by decide +kernel
theorem dX8_readsWord_56 : decode cX8_readsWord 56 = .ok (.iload_n 3, 1) := by decide +kernel
theorem dX8_readsWord_57 : decode cX8_readsWord 57 = .ok (.iaload, 1) := by decide +kernel
theorem dX8_readsWord_58 : decode cX8_readsWord 58 = .ok (.iconst 3, 1) := by decide +kernel
theorem dX8_readsWord_59 : decode cX8_readsWord 59 = .ok (.irem, 1) := by decide +kernel
theorem dX8_readsWord_60 : decode cX8_readsWord 60 = .ok (.iastore, 1) := by decide +kernel
theorem dX8_readsWord_61 : decode cX8_readsWord 61 = .ok (.aload_n 0, 1) := by decide +kernel
theorem dX8_readsWord_62 : decode cX8_readsWord 62 = .ok (.getfield 49, 3) := by decide +kernel
theorem dX8_readsWord_65 : decode cX8_readsWord 65 = .ok (.iload_n 3, 1) := by decide +kernel
theorem dX8_readsWord_66 : decode cX8_readsWord 66 = .ok (.iaload, 1) := by decide +kernel
theorem dX8_readsWord_67 : decode cX8_readsWord 67 = .ok (.iconst 3, 1) := by decide +kernel
theorem dX8_readsWord_68 : decode cX8_readsWord 68 = .ok (.idiv, 1) := by decide +kernel
theorem dX8_readsWord_69 : decode cX8_readsWord 69 = .ok (.istore_n 3, 1) := by decide +kernel
theorem dX8_readsWord_70 : decode cX8_readsWord 70 = .ok (.goto (-30), 3) := by decide +kernel
theorem dX8_readsWord_73 : decode cX8_readsWord 73 = .ok (.return_, 1) := by decide +kernel
set_option maxRecDepth 20000 in
theorem ggX8_differenceLength_X8_parses : GoodIn wsX8_differenceLength wsX8_parses := goodIn_r _ [6, 7, 8, 9, 10, 11, 5, 12, 68, 69, 70, 71, 72, 73, 74, 75, 76, 77, 78, 79, 80, 81, 82, 83, 84, 85, 86, 87, 88, 89, 90, 91, 92, 93, 94, 95, 96, 97] rfl (by decide +kernel)
set_option maxRecDepth 20000 in
theorem gX8_differenceLength_X8_parses : GoodIn wsX8_differenceLength (wsV RX8 92 RX8 yX8_parses wsX8_parses) := goodIn_app (goodIn_of _ (by decide +kernel)) ggX8_differenceLength_X8_parses
set_option maxRecDepth 20000 in
theorem ggX8_differenceLength_X8_findsDifference : GoodIn wsX8_differenceLength wsX8_findsDifference := goodIn_r _ [16, 17, 18, 19, 2, 3, 4, 5, 6, 7, 8, 9, 10, 11, 12, 20, 21, 22, 23, 24, 25, 26, 27, 28, 29, 30, 31, 32, 33, 34, 35, 36, 37, 38, 39, 40, 41, 42, 43, 44, 45, 46, 47, 48, 49, 50, 51, 52, 53, 54, 55, 56, 1, 57, 58, 59, 60, 61, 62, 63, 64, 65, 66, 67, 68, 69, 70, 71, 72, 73, 74, 75, 76, 77, 78, 79, 80, 81, 82, 83, 84, 85, 86, 87, 88, 89, 90, 91, 92, 93, 94, 95, 96, 97] rfl (by decide +kernel)
set_option maxRecDepth 20000 in
theorem gX8_differenceLength_X8_findsDifference : GoodIn wsX8_differenceLength (wsV RX8 142 RX8 yX8_findsDifference wsX8_findsDifference) := goodIn_app (goodIn_of _ (by decide +kernel)) ggX8_differenceLength_X8_findsDifference
theorem dX8_differenceLength_0 : decode cX8_differenceLength 0 = .ok (.aload_n 0, 1) := by decide +kernel
theorem dX8_differenceLength_1 : decode cX8_differenceLength 1 = .ok (.lload_n 1, 1) := by decide +kernel
theorem dX8_differenceLength_2 : decode cX8_differenceLength 2 = .ok (.invokevirtual 92, 3) := by decide +kernel
theorem dX8_differenceLength_5 : decode cX8_differenceLength 5 = .ok (.ifCond .eq 11, 3) := by decide +kernel
theorem dX8_differenceLength_8 : decode cX8_differenceLength 8 = .ok (.aload_n 0, 1) := by decide +kernel
theorem dX8_differenceLength_9 : decode cX8_differenceLength 9 = .ok (.lload_n 3, 1) := by decide +kernel
theorem dX8_differenceLength_10 : decode cX8_differenceLength 10 = .ok (.invokevirtual 92, 3) := by decide +kernel
theorem dX8_differenceLength_13 : decode cX8_differenceLength 13 = .ok (.ifCond .ne 5, 3) := by decide +kernel
theorem dX8_differenceLength_16 : decode cX8_differenceLength 16 = .ok (.iconst (-1), 1) := by decide +kernel
theorem dX8_differenceLength_17 : decode cX8_differenceLength 17 = .ok (.ireturn, 1) := by decide +kernel
theorem dX8_differenceLength_18 : decode cX8_differenceLength 18 = .ok (.aload_n 0, 1) := by decide +kernel
theorem dX8_differenceLength_19 : decode cX8_differenceLength 19 = .ok (.lload_n 1, 1) := by decide +kernel
theorem dX8_differenceLength_20 : decode cX8_differenceLength 20 = .ok (.lload_n 3, 1) := by decide +kernel
theorem dX8_differenceLength_21 : decode cX8_differenceLength 21 = .ok (.invokevirtual 142, 3) := by decide +kernel
theorem dX8_differenceLength_24 : decode cX8_differenceLength 24 = .ok (.ifCond .eq 10, 3) := by decide +kernel
theorem dX8_differenceLength_27 : decode cX8_differenceLength 27 = .ok (.aload_n 0, 1) := by decide +kernel
theorem dX8_differenceLength_28 : decode cX8_differenceLength 28 = .ok (.getfield 139, 3) := by decide +kernel
theorem dX8_differenceLength_31 : decode cX8_differenceLength 31 = .ok (.goto 5, 3) := by decide +kernel
theorem dX8_differenceLength_34 : decode cX8_differenceLength 34 = .ok (.bipush (-9), 2) := by decide +kernel
theorem dX8_differenceLength_36 : decode cX8_differenceLength 36 = .ok (.ireturn, 1) := by decide +kernel
set_option maxRecDepth 20000 in
theorem ggX8_differenceSymbol_X8_parses : GoodIn wsX8_differenceSymbol wsX8_parses := goodIn_r _ [7, 8, 9, 10, 11, 12, 6, 13, 68, 69, 70, 71, 72, 73, 74, 75, 76, 77, 78, 79, 80, 81, 82, 83, 84, 85, 86, 87, 88, 89, 90, 91, 92, 93, 94, 95, 96, 97] rfl (by decide +kernel)
set_option maxRecDepth 20000 in
theorem gX8_differenceSymbol_X8_parses : GoodIn wsX8_differenceSymbol (wsV RX8 92 RX8 yX8_parses wsX8_parses) := goodIn_app (goodIn_of _ (by decide +kernel)) ggX8_differenceSymbol_X8_parses
set_option maxRecDepth 20000 in
theorem ggX8_differenceSymbol_X8_findsDifference : GoodIn wsX8_differenceSymbol wsX8_findsDifference := goodIn_r _ [17, 18, 19, 20, 3, 4, 5, 6, 7, 8, 9, 10, 11, 12, 13, 21, 22, 23, 24, 25, 26, 27, 28, 29, 30, 31, 32, 33, 34, 35, 36, 37, 38, 39, 40, 41, 42, 43, 44, 45, 46, 47, 48, 49, 50, 51, 52, 53, 54, 55, 56, 57, 1, 58, 2, 59, 60, 61, 62, 63, 64, 65, 66, 67, 68, 69, 70, 71, 72, 73, 74, 75, 76, 77, 78, 79, 80, 81, 82, 83, 84, 85, 86, 87, 88, 89, 90, 91, 92, 93, 94, 95, 96, 97] rfl (by decide +kernel)
set_option maxRecDepth 20000 in
theorem gX8_differenceSymbol_X8_findsDifference : GoodIn wsX8_differenceSymbol (wsV RX8 142 RX8 yX8_findsDifference wsX8_findsDifference) := goodIn_app (goodIn_of _ (by decide +kernel)) ggX8_differenceSymbol_X8_findsDifference
set_option maxRecDepth 20000 in
theorem ggX8_differenceSymbol_X8_within : GoodIn wsX8_differenceSymbol wsX8_within := goodIn_r _ [13] rfl (by decide +kernel)
set_option maxRecDepth 20000 in
theorem gX8_differenceSymbol_X8_within : GoodIn wsX8_differenceSymbol (va_wsS RX8 84 yX8_within wsX8_within) := goodIn_app (goodIn_of _ (by decide +kernel)) ggX8_differenceSymbol_X8_within
theorem dX8_differenceSymbol_0 : decode cX8_differenceSymbol 0 = .ok (.aload_n 0, 1) := by decide +kernel
theorem dX8_differenceSymbol_1 : decode cX8_differenceSymbol 1 = .ok (.lload_n 1, 1) := by decide +kernel
theorem dX8_differenceSymbol_2 : decode cX8_differenceSymbol 2 = .ok (.invokevirtual 92, 3) := by decide +kernel
theorem dX8_differenceSymbol_5 : decode cX8_differenceSymbol 5 = .ok (.ifCond .eq 11, 3) := by decide +kernel
theorem dX8_differenceSymbol_8 : decode cX8_differenceSymbol 8 = .ok (.aload_n 0, 1) := by decide +kernel
theorem dX8_differenceSymbol_9 : decode cX8_differenceSymbol 9 = .ok (.lload_n 3, 1) := by decide +kernel
theorem dX8_differenceSymbol_10 : decode cX8_differenceSymbol 10 = .ok (.invokevirtual 92, 3) := by decide +kernel
theorem dX8_differenceSymbol_13 : decode cX8_differenceSymbol 13 = .ok (.ifCond .ne 5, 3) := by decide +kernel
theorem dX8_differenceSymbol_16 : decode cX8_differenceSymbol 16 = .ok (.iconst (-1), 1) := by decide +kernel
theorem dX8_differenceSymbol_17 : decode cX8_differenceSymbol 17 = .ok (.ireturn, 1) := by decide +kernel
theorem dX8_differenceSymbol_18 : decode cX8_differenceSymbol 18 = .ok (.aload_n 0, 1) := by decide +kernel
theorem dX8_differenceSymbol_19 : decode cX8_differenceSymbol 19 = .ok (.lload_n 1, 1) := by decide +kernel
theorem dX8_differenceSymbol_20 : decode cX8_differenceSymbol 20 = .ok (.lload_n 3, 1) := by decide +kernel
theorem dX8_differenceSymbol_21 : decode cX8_differenceSymbol 21 = .ok (.invokevirtual 142, 3) := by decide +kernel
theorem dX8_differenceSymbol_24 : decode cX8_differenceSymbol 24 = .ok (.ifCond .ne 6, 3) := by decide +kernel
theorem dX8_differenceSymbol_27 : decode cX8_differenceSymbol 27 = .ok (.bipush (-9), 2) := by decide +kernel
theorem dX8_differenceSymbol_29 : decode cX8_differenceSymbol 29 = .ok (.ireturn, 1) := by decide +kernel
theorem dX8_differenceSymbol_30 : decode cX8_differenceSymbol 30 = .ok (.iload 5, 2) := by decide +kernel
theorem dX8_differenceSymbol_32 : decode cX8_differenceSymbol 32 = .ok (.iconst 0, 1) := by decide +kernel
theorem dX8_differenceSymbol_33 : decode cX8_differenceSymbol 33 = .ok (.aload_n 0, 1) := by decide +kernel
theorem dX8_differenceSymbol_34 : decode cX8_differenceSymbol 34 = .ok (.getfield 139, 3) := by decide +kernel
theorem dX8_differenceSymbol_37 : decode cX8_differenceSymbol 37 = .ok (.iconst 1, 1) := by decide +kernel
theorem dX8_differenceSymbol_38 : decode cX8_differenceSymbol 38 = .ok (.isub, 1) := by decide +kernel
theorem dX8_differenceSymbol_39 : decode cX8_differenceSymbol 39 = .ok (.invokestatic 84, 3) := by decide +kernel
theorem dX8_differenceSymbol_42 : decode cX8_differenceSymbol 42 = .ok (.ifCond .eq 13, 3) := by decide +kernel
theorem dX8_differenceSymbol_45 : decode cX8_differenceSymbol 45 = .ok (.aload_n 0, 1) := by decide +kernel
theorem dX8_differenceSymbol_46 : decode cX8_differenceSymbol 46 = .ok (.getfield 52, 3) := by decide +kernel
theorem dX8_differenceSymbol_49 : decode cX8_differenceSymbol 49 = .ok (.iload 5, 2) := by decide +kernel
theorem dX8_differenceSymbol_51 : decode cX8_differenceSymbol 51 = .ok (.iaload, 1) := by decide +kernel
theorem dX8_differenceSymbol_52 : decode cX8_differenceSymbol 52 = .ok (.goto 5, 3) := by decide +kernel
theorem dX8_differenceSymbol_55 : decode cX8_differenceSymbol 55 = .ok (.bipush (-5), 2) := by decide +kernel
theorem dX8_differenceSymbol_57 : decode cX8_differenceSymbol 57 = .ok (.ireturn, 1) := by decide +kernel
theorem dX8_emits_0 : decode cX8_emits 0 = .ok (.aload_n 0, 1) := by decide +kernel
theorem dX8_emits_1 : decode cX8_emits 1 = .ok (.getfield 55, 3) := by decide +kernel
theorem dX8_emits_4 : decode cX8_emits 4 = .ok (.aload_n 0, 1) := by decide +kernel
theorem dX8_emits_5 : decode cX8_emits 5 = .ok (.getfield 146, 3) := by decide +kernel
theorem dX8_emits_8 : decode cX8_emits 8 = .ok (.iload_n 1, 1) := by decide +kernel
theorem dX8_emits_9 : decode cX8_emits 9 = .ok (.iastore, 1) := by decide +kernel
theorem dX8_emits_10 : decode cX8_emits 10 = .ok (.aload_n 0, 1) := by decide +kernel
theorem dX8_emits_11 : decode cX8_emits 11 = .ok (.dup, 1) := by decide +kernel
theorem dX8_emits_12 : decode cX8_emits 12 = .ok (.getfield 146, 3) := by decide +kernel
theorem dX8_emits_15 : decode cX8_emits 15 = .ok (.iconst 1, 1) := by decide +kernel
theorem dX8_emits_16 : decode cX8_emits 16 = .ok (.iadd, 1) := by decide +kernel
theorem dX8_emits_17 : decode cX8_emits 17 = .ok (.putfield 146, 3) := by decide +kernel
theorem dX8_emits_20 : decode cX8_emits 20 = .ok (.iconst 1, 1) := by decide +kernel
theorem dX8_emits_21 : decode cX8_emits 21 = .ok (.ireturn, 1) := by decide +kernel
set_option maxRecDepth 20000 in
theorem ggX8_copies_X8_endOf : GoodIn wsX8_copies wsX8_endOf := goodIn_r _ [6, 1, 13, 14, 15, 16, 17, 18, 19, 20, 21, 22, 23, 24, 25, 26, 27, 28, 29, 30, 31, 32, 33, 34, 35, 36, 37, 38, 39, 40, 41, 42] rfl (by decide +kernel)
set_option maxRecDepth 20000 in
theorem gX8_copies_X8_endOf : GoodIn wsX8_copies (wsV RX8 88 RX8 yX8_endOf wsX8_endOf) := goodIn_app (goodIn_of _ (by decide +kernel)) ggX8_copies_X8_endOf
set_option maxRecDepth 20000 in
theorem ggX8_copies_X8_emits : GoodIn wsX8_copies wsX8_emits := goodIn_r _ [10, 11, 12, 13, 14, 15, 16, 17, 18, 19, 20, 21, 22, 23, 24, 25, 26, 27, 28, 29, 30, 31, 32, 33, 34, 35, 36, 37, 38, 39, 40, 41, 42] rfl (by decide +kernel)
set_option maxRecDepth 20000 in
theorem gX8_copies_X8_emits : GoodIn wsX8_copies (wsV RX8 149 RX8 yX8_emits wsX8_emits) := goodIn_app (goodIn_of _ (by decide +kernel)) ggX8_copies_X8_emits
theorem dX8_copies_0 : decode cX8_copies 0 = .ok (.aload_n 0, 1) := by decide +kernel
theorem dX8_copies_1 : decode cX8_copies 1 = .ok (.iload_n 1, 1) := by decide +kernel
theorem dX8_copies_2 : decode cX8_copies 2 = .ok (.invokevirtual 88, 3) := by decide +kernel
theorem dX8_copies_5 : decode cX8_copies 5 = .ok (.istore_n 2, 1) := by decide +kernel
theorem dX8_copies_6 : decode cX8_copies 6 = .ok (.iload_n 1, 1) := by decide +kernel
theorem dX8_copies_7 : decode cX8_copies 7 = .ok (.istore_n 3, 1) := by decide +kernel
theorem dX8_copies_8 : decode cX8_copies 8 = .ok (.iload_n 3, 1) := by decide +kernel
theorem dX8_copies_9 : decode cX8_copies 9 = .ok (.iload_n 2, 1) := by decide +kernel
theorem dX8_copies_10 : decode cX8_copies 10 = .ok (.if_icmp .ge 20, 3) := by decide +kernel
theorem dX8_copies_13 : decode cX8_copies 13 = .ok (.aload_n 0, 1) := by decide +kernel
theorem dX8_copies_14 : decode cX8_copies 14 = .ok (.aload_n 0, 1) := by decide +kernel
theorem dX8_copies_15 : decode cX8_copies 15 = .ok (.getfield 7, 3) := by decide +kernel
theorem dX8_copies_18 : decode cX8_copies 18 = .ok (.iload_n 3, 1) := by decide +kernel
theorem dX8_copies_19 : decode cX8_copies 19 = .ok (.iaload, 1) := by decide +kernel
theorem dX8_copies_20 : decode cX8_copies 20 = .ok (.invokevirtual 149, 3) := by decide +kernel
theorem dX8_copies_23 : decode cX8_copies 23 = .ok (.pop, 1) := by decide +kernel
theorem dX8_copies_24 : decode cX8_copies 24 = .ok (.iinc 3 1, 3) := by decide +kernel
theorem dX8_copies_27 : decode cX8_copies 27 = .ok (.goto (-19), 3) := by decide +kernel
theorem dX8_copies_30 : decode cX8_copies 30 = .ok (.iconst 1, 1) := by decide +kernel
theorem dX8_copies_31 : decode cX8_copies 31 = .ok (.ireturn, 1) := by decide +kernel
set_option maxRecDepth 20000 in
theorem ggX8_writes_X8_emits : GoodIn wsX8_writes wsX8_emits := goodIn_r _ [5, 6, 7, 17, 18, 19, 20, 21, 22, 23, 24, 25, 26, 27, 28, 29, 30, 31, 32, 33, 34, 35, 36, 37, 38, 39, 40, 41, 42, 43, 44, 45, 46] rfl (by decide +kernel)
set_option maxRecDepth 20000 in
theorem gX8_writes_X8_emits : GoodIn wsX8_writes (wsV RX8 149 RX8 yX8_emits wsX8_emits) := goodIn_app (goodIn_of _ (by decide +kernel)) ggX8_writes_X8_emits
set_option maxRecDepth 20000 in
theorem ggX8_writes_X8_copies : GoodIn wsX8_writes wsX8_copies := goodIn_r _ [11, 12, 13, 14, 15, 4, 16, 1, 2, 3, 5, 6, 7, 17, 18, 19, 20, 21, 22, 23, 24, 25, 26, 27, 28, 29, 30, 31, 32, 33, 34, 35, 36, 37, 38, 39, 40, 41, 42, 43, 44, 45, 46] rfl (by decide +kernel)
set_option maxRecDepth 20000 in
theorem gX8_writes_X8_copies : GoodIn wsX8_writes (wsV RX8 152 RX8 yX8_copies wsX8_copies) := goodIn_app (goodIn_of _ (by decide +kernel)) ggX8_writes_X8_copies
theorem dX8_writes_0 : decode cX8_writes 0 = .ok (.aload_n 0, 1) := by decide +kernel
theorem dX8_writes_1 : decode cX8_writes 1 = .ok (.iload_n 1, 1) := by decide +kernel
theorem dX8_writes_2 : decode cX8_writes 2 = .ok (.invokevirtual 149, 3) := by decide +kernel
theorem dX8_writes_5 : decode cX8_writes 5 = .ok (.pop, 1) := by decide +kernel
theorem dX8_writes_6 : decode cX8_writes 6 = .ok (.aload_n 0, 1) := by decide +kernel
theorem dX8_writes_7 : decode cX8_writes 7 = .ok (.iload_n 2, 1) := by decide +kernel
theorem dX8_writes_8 : decode cX8_writes 8 = .ok (.invokevirtual 152, 3) := by decide +kernel
theorem dX8_writes_11 : decode cX8_writes 11 = .ok (.pop, 1) := by decide +kernel
theorem dX8_writes_12 : decode cX8_writes 12 = .ok (.aload_n 0, 1) := by decide +kernel
theorem dX8_writes_13 : decode cX8_writes 13 = .ok (.iload_n 3, 1) := by decide +kernel
theorem dX8_writes_14 : decode cX8_writes 14 = .ok (.invokevirtual 152, 3) := by decide +kernel
theorem dX8_writes_17 : decode cX8_writes 17 = .ok (.ireturn, 1) := by decide +kernel
set_option maxRecDepth 20000 in
theorem ggX8_starOf_X8_emits : GoodIn wsX8_starOf wsX8_emits := goodIn_r _ [5, 6, 7, 17, 18, 19, 20, 21, 22, 23, 24, 25, 26, 27, 28, 29, 30, 31, 32, 33, 34, 35, 36, 37, 38, 39, 40, 41, 42, 43, 44, 45, 46] rfl (by decide +kernel)
set_option maxRecDepth 20000 in
theorem gX8_starOf_X8_emits : GoodIn wsX8_starOf (wsV RX8 149 RX8 yX8_emits wsX8_emits) := goodIn_app (goodIn_of _ (by decide +kernel)) ggX8_starOf_X8_emits
set_option maxRecDepth 20000 in
theorem ggX8_starOf_X8_copies : GoodIn wsX8_starOf wsX8_copies := goodIn_r _ [11, 12, 13, 14, 15, 4, 16, 1, 2, 3, 5, 6, 7, 17, 18, 19, 20, 21, 22, 23, 24, 25, 26, 27, 28, 29, 30, 31, 32, 33, 34, 35, 36, 37, 38, 39, 40, 41, 42, 43, 44, 45, 46] rfl (by decide +kernel)
set_option maxRecDepth 20000 in
theorem gX8_starOf_X8_copies : GoodIn wsX8_starOf (wsV RX8 152 RX8 yX8_copies wsX8_copies) := goodIn_app (goodIn_of _ (by decide +kernel)) ggX8_starOf_X8_copies
theorem dX8_starOf_0 : decode cX8_starOf 0 = .ok (.aload_n 0, 1) := by decide +kernel
theorem dX8_starOf_1 : decode cX8_starOf 1 = .ok (.bipush 8, 2) := by decide +kernel
theorem dX8_starOf_3 : decode cX8_starOf 3 = .ok (.invokevirtual 149, 3) := by decide +kernel
theorem dX8_starOf_6 : decode cX8_starOf 6 = .ok (.pop, 1) := by decide +kernel
theorem dX8_starOf_7 : decode cX8_starOf 7 = .ok (.aload_n 0, 1) := by decide +kernel
theorem dX8_starOf_8 : decode cX8_starOf 8 = .ok (.iload_n 1, 1) := by decide +kernel
theorem dX8_starOf_9 : decode cX8_starOf 9 = .ok (.invokevirtual 152, 3) := by decide +kernel
theorem dX8_starOf_12 : decode cX8_starOf 12 = .ok (.ireturn, 1) := by decide +kernel
set_option maxRecDepth 20000 in
theorem ggX8_starOfUnion_X8_emits : GoodIn wsX8_starOfUnion wsX8_emits := goodIn_r _ [5, 6, 7, 21, 22, 23, 24, 25, 26, 27, 28, 29, 30, 31, 32, 33, 34, 35, 36, 37, 38, 39, 40, 41, 42, 43, 44, 45, 46, 47, 48, 49, 50] rfl (by decide +kernel)
set_option maxRecDepth 20000 in
theorem gX8_starOfUnion_X8_emits : GoodIn wsX8_starOfUnion (wsV RX8 149 RX8 yX8_emits wsX8_emits) := goodIn_app (goodIn_of _ (by decide +kernel)) ggX8_starOfUnion_X8_emits
set_option maxRecDepth 20000 in
theorem ggX8_starOfUnion_X8_writes : GoodIn wsX8_starOfUnion wsX8_writes := goodIn_r _ [11, 1, 2, 3, 4, 5, 6, 7, 12, 13, 14, 15, 16, 17, 18, 19, 20, 21, 22, 23, 24, 25, 26, 27, 28, 29, 30, 31, 32, 33, 34, 35, 36, 37, 38, 39, 40, 41, 42, 43, 44, 45, 46, 47, 48, 49, 50] rfl (by decide +kernel)
set_option maxRecDepth 20000 in
theorem gX8_starOfUnion_X8_writes : GoodIn wsX8_starOfUnion (wsV RX8 155 RX8 yX8_writes wsX8_writes) := goodIn_app (goodIn_of _ (by decide +kernel)) ggX8_starOfUnion_X8_writes
theorem dX8_starOfUnion_0 : decode cX8_starOfUnion 0 = .ok (.aload_n 0, 1) := by decide +kernel
theorem dX8_starOfUnion_1 : decode cX8_starOfUnion 1 = .ok (.bipush 8, 2) := by decide +kernel
theorem dX8_starOfUnion_3 : decode cX8_starOfUnion 3 = .ok (.invokevirtual 149, 3) := by decide +kernel
theorem dX8_starOfUnion_6 : decode cX8_starOfUnion 6 = .ok (.pop, 1) := by decide +kernel
theorem dX8_starOfUnion_7 : decode cX8_starOfUnion 7 = .ok (.aload_n 0, 1) := by decide +kernel
theorem dX8_starOfUnion_8 : decode cX8_starOfUnion 8 = .ok (.bipush 6, 2) := by decide +kernel
theorem dX8_starOfUnion_10 : decode cX8_starOfUnion 10 = .ok (.iload_n 1, 1) := by decide +kernel
theorem dX8_starOfUnion_11 : decode cX8_starOfUnion 11 = .ok (.iload_n 2, 1) := by decide +kernel
theorem dX8_starOfUnion_12 : decode cX8_starOfUnion 12 = .ok (.invokevirtual 155, 3) := by decide +kernel
theorem dX8_starOfUnion_15 : decode cX8_starOfUnion 15 = .ok (.ireturn, 1) := by decide +kernel
set_option maxRecDepth 20000 in
theorem ggX8_isPlus_X8_endOf : GoodIn wsX8_isPlus wsX8_endOf := goodIn_r _ [6, 1, 11, 12, 13, 14, 15, 16, 17, 18, 19, 20, 21, 22, 23, 24, 25, 26, 27, 28, 29, 30, 31, 32, 33, 34, 35, 36, 37, 38, 39, 40] rfl (by decide +kernel)
set_option maxRecDepth 20000 in
theorem gX8_isPlus_X8_endOf : GoodIn wsX8_isPlus (wsV RX8 88 RX8 yX8_endOf wsX8_endOf) := goodIn_app (goodIn_of _ (by decide +kernel)) ggX8_isPlus_X8_endOf
set_option maxRecDepth 20000 in
theorem ggX8_isPlus_X8_areSame : GoodIn wsX8_isPlus wsX8_areSame := goodIn_r _ [10, 1, 2, 3, 4, 5, 6, 11, 12, 13, 14, 15, 16, 17, 18, 19, 20, 21, 22, 23, 24, 25, 26, 27, 28, 29, 30, 31, 32, 33, 34, 35, 36, 37, 38, 39, 40] rfl (by decide +kernel)
set_option maxRecDepth 20000 in
theorem gX8_isPlus_X8_areSame : GoodIn wsX8_isPlus (wsV RX8 158 RX8 yX8_areSame wsX8_areSame) := goodIn_app (goodIn_of _ (by decide +kernel)) ggX8_isPlus_X8_areSame
theorem dX8_isPlus_0 : decode cX8_isPlus 0 = .ok (.aload_n 0, 1) := by decide +kernel
theorem dX8_isPlus_1 : decode cX8_isPlus 1 = .ok (.getfield 7, 3) := by decide +kernel
theorem dX8_isPlus_4 : decode cX8_isPlus 4 = .ok (.iload_n 1, 1) := by decide +kernel
theorem dX8_isPlus_5 : decode cX8_isPlus 5 = .ok (.iaload, 1) := by decide +kernel
theorem dX8_isPlus_6 : decode cX8_isPlus 6 = .ok (.bipush 7, 2) := by decide +kernel
theorem dX8_isPlus_8 : decode cX8_isPlus 8 = .ok (.if_icmp .eq 5, 3) := by decide +kernel
theorem dX8_isPlus_11 : decode cX8_isPlus 11 = .ok (.iconst 0, 1) := by decide +kernel
theorem dX8_isPlus_12 : decode cX8_isPlus 12 = .ok (.ireturn, 1) := by decide +kernel
theorem dX8_isPlus_13 : decode cX8_isPlus 13 = .ok (.iload_n 1, 1) := by decide +kernel
theorem dX8_isPlus_14 : decode cX8_isPlus 14 = .ok (.iconst 1, 1) := by decide +kernel
theorem dX8_isPlus_15 : decode cX8_isPlus 15 = .ok (.iadd, 1) := by decide +kernel
theorem dX8_isPlus_16 : decode cX8_isPlus 16 = .ok (.istore_n 3, 1) := by decide +kernel
theorem dX8_isPlus_17 : decode cX8_isPlus 17 = .ok (.aload_n 0, 1) := by decide +kernel
theorem dX8_isPlus_18 : decode cX8_isPlus 18 = .ok (.iload_n 3, 1) := by decide +kernel
theorem dX8_isPlus_19 : decode cX8_isPlus 19 = .ok (.invokevirtual 88, 3) := by decide +kernel
theorem dX8_isPlus_22 : decode cX8_isPlus 22 = .ok (.istore 4, 2) := by decide +kernel
theorem dX8_isPlus_24 : decode cX8_isPlus 24 = .ok (.iload_n 2, 1) := by decide +kernel
theorem dX8_isPlus_25 : decode cX8_isPlus 25 = .ok (.ifCond .eq 7, 3) := by decide +kernel
theorem dX8_isPlus_28 : decode cX8_isPlus 28 = .ok (.iload_n 3, 1) := by decide +kernel
theorem dX8_isPlus_29 : decode cX8_isPlus 29 = .ok (.goto 5, 3) := by decide +kernel
theorem dX8_isPlus_32 : decode cX8_isPlus 32 = .ok (.iload 4, 2) := by decide +kernel
theorem dX8_isPlus_34 : decode cX8_isPlus 34 = .ok (.istore 5, 2) := by decide +kernel
theorem dX8_isPlus_36 : decode cX8_isPlus 36 = .ok (.iload_n 2, 1) := by decide +kernel
theorem dX8_isPlus_37 : decode cX8_isPlus 37 = .ok (.ifCond .eq 8, 3) := by decide +kernel
theorem dX8_isPlus_40 : decode cX8_isPlus 40 = .ok (.iload 4, 2) := by decide +kernel
theorem dX8_isPlus_42 : decode cX8_isPlus 42 = .ok (.goto 4, 3) := by decide +kernel
theorem dX8_isPlus_45 : decode cX8_isPlus 45 = .ok (.iload_n 3, 1) := by decide +kernel
theorem dX8_isPlus_46 : decode cX8_isPlus 46 = .ok (.istore 6, 2) := by decide +kernel
theorem dX8_isPlus_48 : decode cX8_isPlus 48 = .ok (.aload_n 0, 1) := by decide +kernel
theorem dX8_isPlus_49 : decode cX8_isPlus 49 = .ok (.getfield 7, 3) := by decide +kernel
theorem dX8_isPlus_52 : decode cX8_isPlus 52 = .ok (.iload 5, 2) := by decide +kernel
theorem dX8_isPlus_54 : decode cX8_isPlus 54 = .ok (.iaload, 1) := by decide +kernel
theorem dX8_isPlus_55 : decode cX8_isPlus 55 = .ok (.bipush 8, 2) := by decide +kernel
theorem dX8_isPlus_57 : decode cX8_isPlus 57 = .ok (.if_icmp .ne 20, 3) := by decide +kernel
theorem dX8_isPlus_60 : decode cX8_isPlus 60 = .ok (.aload_n 0, 1) := by decide +kernel
theorem dX8_isPlus_61 : decode cX8_isPlus 61 = .ok (.iload 5, 2) := by decide +kernel
theorem dX8_isPlus_63 : decode cX8_isPlus 63 = .ok (.iconst 1, 1) := by decide +kernel
theorem dX8_isPlus_64 : decode cX8_isPlus 64 = .ok (.iadd, 1) := by decide +kernel
theorem dX8_isPlus_65 : decode cX8_isPlus 65 = .ok (.iload 6, 2) := by decide +kernel
theorem dX8_isPlus_67 : decode cX8_isPlus 67 = .ok (.invokevirtual 158, 3) := by decide +kernel
theorem dX8_isPlus_70 : decode cX8_isPlus 70 = .ok (.ifCond .eq 7, 3) := by decide +kernel
theorem dX8_isPlus_73 : decode cX8_isPlus 73 = .ok (.iconst 1, 1) := by decide +kernel
theorem dX8_isPlus_74 : decode cX8_isPlus 74 = .ok (.goto 4, 3) := by decide +kernel
theorem dX8_isPlus_77 : decode cX8_isPlus 77 = .ok (.iconst 0, 1) := by decide +kernel
theorem dX8_isPlus_78 : decode cX8_isPlus 78 = .ok (.ireturn, 1) := by decide +kernel
set_option maxRecDepth 20000 in
theorem ggX8_plainOf_X8_endOf : GoodIn wsX8_plainOf wsX8_endOf := goodIn_r _ [5, 6, 7, 8, 9, 10, 11, 12, 13, 14, 15, 16, 17, 18, 19, 20, 21, 22, 23, 24, 25, 26, 27, 28, 29, 30, 31, 32, 33, 34, 35, 36] rfl (by decide +kernel)
set_option maxRecDepth 20000 in
theorem gX8_plainOf_X8_endOf : GoodIn wsX8_plainOf (wsV RX8 88 RX8 yX8_endOf wsX8_endOf) := goodIn_app (goodIn_of _ (by decide +kernel)) ggX8_plainOf_X8_endOf
theorem dX8_plainOf_0 : decode cX8_plainOf 0 = .ok (.iload_n 2, 1) := by decide +kernel
theorem dX8_plainOf_1 : decode cX8_plainOf 1 = .ok (.ifCond .eq 13, 3) := by decide +kernel
theorem dX8_plainOf_4 : decode cX8_plainOf 4 = .ok (.aload_n 0, 1) := by decide +kernel
theorem dX8_plainOf_5 : decode cX8_plainOf 5 = .ok (.iload_n 1, 1) := by decide +kernel
theorem dX8_plainOf_6 : decode cX8_plainOf 6 = .ok (.iconst 1, 1) := by decide +kernel
theorem dX8_plainOf_7 : decode cX8_plainOf 7 = .ok (.iadd, 1) := by decide +kernel
theorem dX8_plainOf_8 : decode cX8_plainOf 8 = .ok (.invokevirtual 88, 3) := by decide +kernel
theorem dX8_plainOf_11 : decode cX8_plainOf 11 = .ok (.goto 6, 3) := by decide +kernel
theorem dX8_plainOf_14 : decode cX8_plainOf 14 = .ok (.iload_n 1, 1) := by decide +kernel
theorem dX8_plainOf_15 : decode cX8_plainOf 15 = .ok (.iconst 1, 1) := by decide +kernel
theorem dX8_plainOf_16 : decode cX8_plainOf 16 = .ok (.iadd, 1) := by decide +kernel
theorem dX8_plainOf_17 : decode cX8_plainOf 17 = .ok (.ireturn, 1) := by decide +kernel
set_option maxRecDepth 20000 in
theorem ggX8_unionRule_X8_copies : GoodIn wsX8_unionRule wsX8_copies := goodIn_r _ [6, 1, 7, 8, 9, 5, 10, 11, 12, 13, 14, 15, 16, 57, 58, 59, 60, 61, 62, 63, 64, 65, 66, 67, 68, 69, 70, 71, 72, 73, 74, 75, 76, 77, 78, 79, 80, 81, 82, 83, 84, 85, 86] rfl (by decide +kernel)
set_option maxRecDepth 20000 in
theorem gX8_unionRule_X8_copies : GoodIn wsX8_unionRule (wsV RX8 152 RX8 yX8_copies wsX8_copies) := goodIn_app (goodIn_of _ (by decide +kernel)) ggX8_unionRule_X8_copies
set_option maxRecDepth 20000 in
theorem ggX8_unionRule_X8_areSame : GoodIn wsX8_unionRule wsX8_areSame := goodIn_r _ [20, 1, 7, 8, 9, 5, 10, 57, 58, 59, 60, 61, 62, 63, 64, 65, 66, 67, 68, 69, 70, 71, 72, 73, 74, 75, 76, 77, 78, 79, 80, 81, 82, 83, 84, 85, 86] rfl (by decide +kernel)
set_option maxRecDepth 20000 in
theorem gX8_unionRule_X8_areSame : GoodIn wsX8_unionRule (wsV RX8 158 RX8 yX8_areSame wsX8_areSame) := goodIn_app (goodIn_of _ (by decide +kernel)) ggX8_unionRule_X8_areSame
set_option maxRecDepth 20000 in
theorem ggX8_unionRule_X8_bothConcatenations : GoodIn wsX8_unionRule wsX8_bothConcatenations := goodIn_r _ [24, 1, 57, 58, 59, 60, 61, 62, 63, 64, 65, 66, 67, 68, 69, 70, 71, 72, 73, 74, 75, 76, 77, 78, 79, 80, 81, 82, 83, 84, 85, 86] rfl (by decide +kernel)
set_option maxRecDepth 20000 in
theorem gX8_unionRule_X8_bothConcatenations : GoodIn wsX8_unionRule (wsV RX8 161 RX8 yX8_bothConcatenations wsX8_bothConcatenations) := goodIn_app (goodIn_of _ (by decide +kernel)) ggX8_unionRule_X8_bothConcatenations
set_option maxRecDepth 20000 in
theorem ggX8_unionRule_X8_factorsLeft : GoodIn wsX8_unionRule wsX8_factorsLeft := goodIn_r _ [28, 11, 12, 13, 5, 14, 15, 16, 2, 3, 4, 6, 1, 7, 8, 9, 10, 29, 30, 31, 32, 57, 58, 59, 60, 61, 62, 63, 64, 65, 66, 67, 68, 69, 70, 71, 72, 73, 74, 75, 76, 77, 78, 79, 80, 81, 82, 83, 84, 85, 86] rfl (by decide +kernel)
set_option maxRecDepth 20000 in
theorem gX8_unionRule_X8_factorsLeft : GoodIn wsX8_unionRule (wsV RX8 164 RX8 yX8_factorsLeft wsX8_factorsLeft) := goodIn_app (goodIn_of _ (by decide +kernel)) ggX8_unionRule_X8_factorsLeft
set_option maxRecDepth 20000 in
theorem ggX8_unionRule_X8_endOf : GoodIn wsX8_unionRule wsX8_endOf := goodIn_r _ [10, 1, 57, 58, 59, 60, 61, 62, 63, 64, 65, 66, 67, 68, 69, 70, 71, 72, 73, 74, 75, 76, 77, 78, 79, 80, 81, 82, 83, 84, 85, 86] rfl (by decide +kernel)
set_option maxRecDepth 20000 in
theorem gX8_unionRule_X8_endOf : GoodIn wsX8_unionRule (wsV RX8 88 RX8 yX8_endOf wsX8_endOf) := goodIn_app (goodIn_of _ (by decide +kernel)) ggX8_unionRule_X8_endOf
set_option maxRecDepth 20000 in
theorem ggX8_unionRule_X8_factorsRight : GoodIn wsX8_unionRule wsX8_factorsRight := goodIn_r _ [36, 11, 12, 13, 5, 14, 15, 16, 29, 30, 31, 32, 2, 3, 4, 6, 1, 7, 8, 9, 10, 57, 58, 59, 60, 61, 62, 63, 64, 65, 66, 67, 68, 69, 70, 71, 72, 73, 74, 75, 76, 77, 78, 79, 80, 81, 82, 83, 84, 85, 86] rfl (by decide +kernel)
set_option maxRecDepth 20000 in
theorem gX8_unionRule_X8_factorsRight : GoodIn wsX8_unionRule (wsV RX8 167 RX8 yX8_factorsRight wsX8_factorsRight) := goodIn_app (goodIn_of _ (by decide +kernel)) ggX8_unionRule_X8_factorsRight
set_option maxRecDepth 20000 in
theorem ggX8_unionRule_X8_emptyOrPlus : GoodIn wsX8_unionRule wsX8_emptyOrPlus := goodIn_r _ [40, 1, 41, 42, 43, 5, 44, 7, 8, 9, 10, 17, 18, 19, 20, 45, 46, 47, 48, 49, 50, 51, 52, 11, 12, 13, 14, 15, 16, 2, 3, 4, 6, 57, 58, 59, 60, 61, 62, 63, 64, 65, 66, 67, 68, 69, 70, 71, 72, 73, 74, 75, 76, 77, 78, 79, 80, 81, 82, 83, 84, 85, 86] rfl (by decide +kernel)
set_option maxRecDepth 20000 in
theorem gX8_unionRule_X8_emptyOrPlus : GoodIn wsX8_unionRule (wsV RX8 170 RX8 yX8_emptyOrPlus wsX8_emptyOrPlus) := goodIn_app (goodIn_of _ (by decide +kernel)) ggX8_unionRule_X8_emptyOrPlus
set_option maxRecDepth 20000 in
theorem ggX8_unionRule_X8_absorbs : GoodIn wsX8_unionRule wsX8_absorbs := goodIn_r _ [56, 1, 17, 18, 19, 5, 20, 7, 8, 9, 10, 2, 3, 4, 6, 11, 12, 13, 14, 15, 16, 29, 30, 31, 32, 57, 58, 59, 60, 61, 62, 63, 64, 65, 66, 67, 68, 69, 70, 71, 72, 73, 74, 75, 76, 77, 78, 79, 80, 81, 82, 83, 84, 85, 86] rfl (by decide +kernel)
set_option maxRecDepth 20000 in
theorem gX8_unionRule_X8_absorbs : GoodIn wsX8_unionRule (wsV RX8 173 RX8 yX8_absorbs wsX8_absorbs) := goodIn_app (goodIn_of _ (by decide +kernel)) ggX8_unionRule_X8_absorbs
theorem dX8_unionRule_0 : decode cX8_unionRule 0 = .ok (.iload_n 1, 1) := by decide +kernel
theorem dX8_unionRule_1 : decode cX8_unionRule 1 = .ok (.tableswitch 370 0 15 #[79, 370, 370, 370, 121, 370, 370, 370, 144, 208, 274, 311, 356, 370, 370, 363], 79) := by decide +kernel
theorem dX8_unionRule_80 : decode cX8_unionRule 80 = .ok (.aload_n 0, 1) := by decide +kernel
theorem dX8_unionRule_81 : decode cX8_unionRule 81 = .ok (.getfield 7, 3) := by decide +kernel
theorem dX8_unionRule_84 : decode cX8_unionRule 84 = .ok (.iload_n 2, 1) := by decide +kernel
theorem dX8_unionRule_85 : decode cX8_unionRule 85 = .ok (.iaload, 1) := by decide +kernel
theorem dX8_unionRule_86 : decode cX8_unionRule 86 = .ok (.iconst 1, 1) := by decide +kernel
theorem dX8_unionRule_87 : decode cX8_unionRule 87 = .ok (.if_icmp .ne 11, 3) := by decide +kernel
theorem dX8_unionRule_90 : decode cX8_unionRule 90 = .ok (.aload_n 0, 1) := by decide +kernel
theorem dX8_unionRule_91 : decode cX8_unionRule 91 = .ok (.iload_n 3, 1) := by decide +kernel
theorem dX8_unionRule_92 : decode cX8_unionRule 92 = .ok (.invokevirtual 152, 3) := by decide +kernel
theorem dX8_unionRule_95 : decode cX8_unionRule 95 = .ok (.goto 26, 3) := by decide +kernel
theorem dX8_unionRule_98 : decode cX8_unionRule 98 = .ok (.aload_n 0, 1) := by decide +kernel
theorem dX8_unionRule_99 : decode cX8_unionRule 99 = .ok (.getfield 7, 3) := by decide +kernel
theorem dX8_unionRule_102 : decode cX8_unionRule 102 = .ok (.iload_n 3, 1) := by decide +kernel
theorem dX8_unionRule_103 : decode cX8_unionRule 103 = .ok (.iaload, 1) := by decide +kernel
theorem dX8_unionRule_104 : decode cX8_unionRule 104 = .ok (.iconst 1, 1) := by decide +kernel
theorem dX8_unionRule_105 : decode cX8_unionRule 105 = .ok (.if_icmp .ne 15, 3) := by decide +kernel
theorem dX8_unionRule_108 : decode cX8_unionRule 108 = .ok (.aload_n 0, 1) := by decide +kernel
theorem dX8_unionRule_109 : decode cX8_unionRule 109 = .ok (.iload_n 2, 1) := by decide +kernel
theorem dX8_unionRule_110 : decode cX8_unionRule 110 = .ok (.invokevirtual 152, 3) := by decide +kernel
theorem dX8_unionRule_113 : decode cX8_unionRule 113 = .ok (.ifCond .eq 7, 3) := by decide +kernel
theorem dX8_unionRule_116 : decode cX8_unionRule 116 = .ok (.iconst 1, 1) := by decide +kernel
theorem dX8_unionRule_117 : decode cX8_unionRule 117 = .ok (.goto 4, 3) := by decide +kernel
theorem dX8_unionRule_120 : decode cX8_unionRule 120 = .ok (.iconst 0, 1) := by decide +kernel
theorem dX8_unionRule_121 : decode cX8_unionRule 121 = .ok (.ireturn, 1) := by decide +kernel
theorem dX8_unionRule_122 : decode cX8_unionRule 122 = .ok (.aload_n 0, 1) := by decide +kernel
theorem dX8_unionRule_123 : decode cX8_unionRule 123 = .ok (.iload_n 2, 1) := by decide +kernel
theorem dX8_unionRule_124 : decode cX8_unionRule 124 = .ok (.iload_n 3, 1) := by decide +kernel
theorem dX8_unionRule_125 : decode cX8_unionRule 125 = .ok (.invokevirtual 158, 3) := by decide +kernel
theorem dX8_unionRule_128 : decode cX8_unionRule 128 = .ok (.ifCond .eq 15, 3) := by decide +kernel
theorem dX8_unionRule_131 : decode cX8_unionRule 131 = .ok (.aload_n 0, 1) := by decide +kernel
theorem dX8_unionRule_132 : decode cX8_unionRule 132 = .ok (.iload_n 2, 1) := by decide +kernel
theorem dX8_unionRule_133 : decode cX8_unionRule 133 = .ok (.invokevirtual 152, 3) := by decide +kernel
theorem dX8_unionRule_136 : decode cX8_unionRule 136 = .ok (.ifCond .eq 7, 3) := by decide +kernel
theorem dX8_unionRule_139 : decode cX8_unionRule 139 = .ok (.iconst 1, 1) := by decide +kernel
theorem dX8_unionRule_140 : decode cX8_unionRule 140 = .ok (.goto 4, 3) := by decide +kernel
theorem dX8_unionRule_143 : decode cX8_unionRule 143 = .ok (.iconst 0, 1) := by decide +kernel
theorem dX8_unionRule_144 : decode cX8_unionRule 144 = .ok (.ireturn, 1) := by decide +kernel
theorem dX8_unionRule_145 : decode cX8_unionRule 145 = .ok (.aload_n 0, 1) := by decide +kernel
theorem dX8_unionRule_146 : decode cX8_unionRule 146 = .ok (.getfield 7, 3) := by decide +kernel
theorem dX8_unionRule_149 : decode cX8_unionRule 149 = .ok (.iload_n 2, 1) := by decide +kernel
theorem dX8_unionRule_150 : decode cX8_unionRule 150 = .ok (.iaload, 1) := by decide +kernel
theorem dX8_unionRule_151 : decode cX8_unionRule 151 = .ok (.iconst 2, 1) := by decide +kernel
theorem dX8_unionRule_152 : decode cX8_unionRule 152 = .ok (.if_icmp .ne 22, 3) := by decide +kernel
theorem dX8_unionRule_155 : decode cX8_unionRule 155 = .ok (.aload_n 0, 1) := by decide +kernel
theorem dX8_unionRule_156 : decode cX8_unionRule 156 = .ok (.getfield 7, 3) := by decide +kernel
theorem dX8_unionRule_159 : decode cX8_unionRule 159 = .ok (.iload_n 3, 1) := by decide +kernel
theorem dX8_unionRule_160 : decode cX8_unionRule 160 = .ok (.iaload, 1) := by decide +kernel
theorem dX8_unionRule_161 : decode cX8_unionRule 161 = .ok (.bipush 8, 2) := by decide +kernel
theorem dX8_unionRule_163 : decode cX8_unionRule 163 = .ok (.if_icmp .ne 11, 3) := by decide +kernel
theorem dX8_unionRule_166 : decode cX8_unionRule 166 = .ok (.aload_n 0, 1) := by decide +kernel
theorem dX8_unionRule_167 : decode cX8_unionRule 167 = .ok (.iload_n 3, 1) := by decide +kernel
theorem dX8_unionRule_168 : decode cX8_unionRule 168 = .ok (.invokevirtual 152, 3) := by decide +kernel
theorem dX8_unionRule_171 : decode cX8_unionRule 171 = .ok (.goto 37, 3) := by decide +kernel
theorem dX8_unionRule_174 : decode cX8_unionRule 174 = .ok (.aload_n 0, 1) := by decide +kernel
theorem dX8_unionRule_175 : decode cX8_unionRule 175 = .ok (.getfield 7, 3) := by decide +kernel
theorem dX8_unionRule_178 : decode cX8_unionRule 178 = .ok (.iload_n 2, 1) := by decide +kernel
theorem dX8_unionRule_179 : decode cX8_unionRule 179 = .ok (.iaload, 1) := by decide +kernel
theorem dX8_unionRule_180 : decode cX8_unionRule 180 = .ok (.bipush 8, 2) := by decide +kernel
theorem dX8_unionRule_182 : decode cX8_unionRule 182 = .ok (.if_icmp .ne 25, 3) := by decide +kernel
theorem dX8_unionRule_185 : decode cX8_unionRule 185 = .ok (.aload_n 0, 1) := by decide +kernel
theorem dX8_unionRule_186 : decode cX8_unionRule 186 = .ok (.getfield 7, 3) := by decide +kernel
theorem dX8_unionRule_189 : decode cX8_unionRule 189 = .ok (.iload_n 3, 1) := by decide +kernel
theorem dX8_unionRule_190 : decode cX8_unionRule 190 = .ok (.iaload, 1) := by decide +kernel
