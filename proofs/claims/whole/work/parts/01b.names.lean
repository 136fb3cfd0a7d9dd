theorem dX0_addConcatenation_30 : decode cX0_addConcatenation 30 = .ok (.getfield 15, 3) := by decide +kernel
theorem dX0_addConcatenation_33 : decode cX0_addConcatenation 33 = .ok (.iload_n 1, 1) := by decide +kernel
theorem dX0_addConcatenation_34 : decode cX0_addConcatenation 34 = .ok (.aload_n 0, 1) := by decide +kernel
theorem dX0_addConcatenation_35 : decode cX0_addConcatenation 35 = .ok (.getfield 11, 3) := by decide +kernel
theorem dX0_addConcatenation_38 : decode cX0_addConcatenation 38 = .ok (.iload_n 2, 1) := by decide +kernel
theorem dX0_addConcatenation_39 : decode cX0_addConcatenation 39 = .ok (.baload, 1) := by decide +kernel
theorem dX0_addConcatenation_40 : decode cX0_addConcatenation 40 = .ok (.ifCond .eq 19, 3) := by decide +kernel
theorem dX0_addConcatenation_43 : decode cX0_addConcatenation 43 = .ok (.aload_n 0, 1) := by decide +kernel
theorem dX0_addConcatenation_44 : decode cX0_addConcatenation 44 = .ok (.getfield 15, 3) := by decide +kernel
theorem dX0_addConcatenation_47 : decode cX0_addConcatenation 47 = .ok (.iload_n 2, 1) := by decide +kernel
theorem dX0_addConcatenation_48 : decode cX0_addConcatenation 48 = .ok (.iaload, 1) := by decide +kernel
theorem dX0_addConcatenation_49 : decode cX0_addConcatenation 49 = .ok (.aload_n 0, 1) := by decide +kernel
theorem dX0_addConcatenation_50 : decode cX0_addConcatenation 50 = .ok (.getfield 15, 3) := by decide +kernel
theorem dX0_addConcatenation_53 : decode cX0_addConcatenation 53 = .ok (.iload_n 3, 1) := by decide +kernel
theorem dX0_addConcatenation_54 : decode cX0_addConcatenation 54 = .ok (.iaload, 1) := by decide +kernel
theorem dX0_addConcatenation_55 : decode cX0_addConcatenation 55 = .ok (.ior, 1) := by decide +kernel
theorem dX0_addConcatenation_56 : decode cX0_addConcatenation 56 = .ok (.goto 9, 3) := by decide +kernel
theorem dX0_addConcatenation_59 : decode cX0_addConcatenation 59 = .ok (.aload_n 0, 1) := by decide +kernel
theorem dX0_addConcatenation_60 : decode cX0_addConcatenation 60 = .ok (.getfield 15, 3) := by decide +kernel
theorem dX0_addConcatenation_63 : decode cX0_addConcatenation 63 = .ok (.iload_n 2, 1) := by decide +kernel
theorem dX0_addConcatenation_64 : decode cX0_addConcatenation 64 = .ok (.iaload, 1) := by decide +kernel
theorem dX0_addConcatenation_65 : decode cX0_addConcatenation 65 = .ok (.iastore, 1) := by decide +kernel
theorem dX0_addConcatenation_66 : decode cX0_addConcatenation 66 = .ok (.aload_n 0, 1) := by decide +kernel
theorem dX0_addConcatenation_67 : decode cX0_addConcatenation 67 = .ok (.getfield 19, 3) := by decide +kernel
theorem dX0_addConcatenation_70 : decode cX0_addConcatenation 70 = .ok (.iload_n 1, 1) := by decide +kernel
theorem dX0_addConcatenation_71 : decode cX0_addConcatenation 71 = .ok (.aload_n 0, 1) := by decide +kernel
theorem dX0_addConcatenation_72 : decode cX0_addConcatenation 72 = .ok (.getfield 11, 3) := by decide +kernel
theorem dX0_addConcatenation_75 : decode cX0_addConcatenation 75 = .ok (.iload_n 3, 1) := by decide +kernel
theorem dX0_addConcatenation_76 : decode cX0_addConcatenation 76 = .ok (.baload, 1) := by decide +kernel
theorem dX0_addConcatenation_77 : decode cX0_addConcatenation 77 = .ok (.ifCond .eq 19, 3) := by decide +kernel
theorem dX0_addConcatenation_80 : decode cX0_addConcatenation 80 = .ok (.aload_n 0, 1) := by decide +kernel
theorem dX0_addConcatenation_81 : decode cX0_addConcatenation 81 = .ok (.getfield 19, 3) := by decide +kernel
theorem dX0_addConcatenation_84 : decode cX0_addConcatenation 84 = .ok (.iload_n 2, 1) := by decide +kernel
theorem dX0_addConcatenation_85 : decode cX0_addConcatenation 85 = .ok (.iaload, 1) := by decide +kernel
theorem dX0_addConcatenation_86 : decode cX0_addConcatenation 86 = .ok (.aload_n 0, 1) := by decide +kernel
theorem dX0_addConcatenation_87 : decode cX0_addConcatenation 87 = .ok (.getfield 19, 3) := by decide +kernel
theorem dX0_addConcatenation_90 : decode cX0_addConcatenation 90 = .ok (.iload_n 3, 1) := by decide +kernel
theorem dX0_addConcatenation_91 : decode cX0_addConcatenation 91 = .ok (.iaload, 1) := by decide +kernel
theorem dX0_addConcatenation_92 : decode cX0_addConcatenation 92 = .ok (.ior, 1) := by decide +kernel
theorem dX0_addConcatenation_93 : decode cX0_addConcatenation 93 = .ok (.goto 9, 3) := by decide +kernel
theorem dX0_addConcatenation_96 : decode cX0_addConcatenation 96 = .ok (.aload_n 0, 1) := by decide +kernel
theorem dX0_addConcatenation_97 : decode cX0_addConcatenation 97 = .ok (.getfield 19, 3) := by decide +kernel
theorem dX0_addConcatenation_100 : decode cX0_addConcatenation 100 = .ok (.iload_n 3, 1) := by decide +kernel
theorem dX0_addConcatenation_101 : decode cX0_addConcatenation 101 = .ok (.iaload, 1) := by decide +kernel
theorem dX0_addConcatenation_102 : decode cX0_addConcatenation 102 = .ok (.iastore, 1) := by decide +kernel
theorem dX0_addConcatenation_103 : decode cX0_addConcatenation 103 = .ok (.aload_n 0, 1) := by decide +kernel
theorem dX0_addConcatenation_104 : decode cX0_addConcatenation 104 = .ok (.aload_n 0, 1) := by decide +kernel
theorem dX0_addConcatenation_105 : decode cX0_addConcatenation 105 = .ok (.getfield 19, 3) := by decide +kernel
theorem dX0_addConcatenation_108 : decode cX0_addConcatenation 108 = .ok (.iload_n 2, 1) := by decide +kernel
theorem dX0_addConcatenation_109 : decode cX0_addConcatenation 109 = .ok (.iaload, 1) := by decide +kernel
theorem dX0_addConcatenation_110 : decode cX0_addConcatenation 110 = .ok (.aload_n 0, 1) := by decide +kernel
theorem dX0_addConcatenation_111 : decode cX0_addConcatenation 111 = .ok (.getfield 15, 3) := by decide +kernel
theorem dX0_addConcatenation_114 : decode cX0_addConcatenation 114 = .ok (.iload_n 3, 1) := by decide +kernel
theorem dX0_addConcatenation_115 : decode cX0_addConcatenation 115 = .ok (.iaload, 1) := by decide +kernel
theorem dX0_addConcatenation_116 : decode cX0_addConcatenation 116 = .ok (.invokevirtual 90, 3) := by decide +kernel
theorem dX0_addConcatenation_119 : decode cX0_addConcatenation 119 = .ok (.return_, 1) := by decide +kernel
theorem dX0_link_0 : decode cX0_link 0 = .ok (.iconst 0, 1) := by decide +kernel
theorem dX0_link_1 : decode cX0_link 1 = .ok (.istore_n 3, 1) := by decide +kernel
theorem dX0_link_2 : decode cX0_link 2 = .ok (.iload_n 3, 1) := by decide +kernel
theorem dX0_link_3 : decode cX0_link 3 = .ok (.aload_n 0, 1) := by decide +kernel
theorem dX0_link_4 : decode cX0_link 4 = .ok (.getfield 34, 3) := by decide +kernel
theorem dX0_link_7 : decode cX0_link 7 = .ok (.if_icmp .ge 27, 3) := by decide +kernel
theorem dX0_link_10 : decode cX0_link 10 = .ok (.iload_n 1, 1) := by decide +kernel
theorem dX0_link_11 : decode cX0_link 11 = .ok (.iload_n 3, 1) := by decide +kernel
theorem dX0_link_12 : decode cX0_link 12 = .ok (.ishr, 1) := by decide +kernel
theorem dX0_link_13 : decode cX0_link 13 = .ok (.iconst 1, 1) := by decide +kernel
theorem dX0_link_14 : decode cX0_link 14 = .ok (.iand, 1) := by decide +kernel
theorem dX0_link_15 : decode cX0_link 15 = .ok (.ifCond .eq 13, 3) := by decide +kernel
theorem dX0_link_18 : decode cX0_link 18 = .ok (.aload_n 0, 1) := by decide +kernel
theorem dX0_link_19 : decode cX0_link 19 = .ok (.getfield 22, 3) := by decide +kernel
theorem dX0_link_22 : decode cX0_link 22 = .ok (.iload_n 3, 1) := by decide +kernel
theorem dX0_link_23 : decode cX0_link 23 = .ok (.dup2, 1) := by decide +kernel
theorem dX0_link_24 : decode cX0_link 24 = .ok (.iaload, 1) := by decide +kernel
theorem dX0_link_25 : decode cX0_link 25 = .ok (.iload_n 2, 1) := by decide +kernel
theorem dX0_link_26 : decode cX0_link 26 = .ok (.ior, 1) := by decide +kernel
theorem dX0_link_27 : decode cX0_link 27 = .ok (.iastore, 1) := by decide +kernel
theorem dX0_link_28 : decode cX0_link 28 = .ok (.iinc 3 1, 3) := by decide +kernel
theorem dX0_link_31 : decode cX0_link 31 = .ok (.goto (-29), 3) := by decide +kernel
theorem dX0_link_34 : decode cX0_link 34 = .ok (.return_, 1) := by decide +kernel
theorem dX1_powerOfTen_0 : decode cX1_powerOfTen 0 = .ok (.iload_n 0, 1) := by decide +kernel
theorem dX1_powerOfTen_1 : decode cX1_powerOfTen 1 = .ok (.ifCond .lt 15, 3) := by decide +kernel
theorem dX1_powerOfTen_4 : decode cX1_powerOfTen 4 = .ok (.iload_n 0, 1) := by decide +kernel
theorem dX1_powerOfTen_5 : decode cX1_powerOfTen 5 = .ok (.getstatic 9, 3) := by decide +kernel
theorem dX1_powerOfTen_8 : decode cX1_powerOfTen 8 = .ok (.arraylength, 1) := by decide +kernel
theorem dX1_powerOfTen_9 : decode cX1_powerOfTen 9 = .ok (.if_icmp .ge 7, 3) := by decide +kernel
theorem dX1_powerOfTen_12 : decode cX1_powerOfTen 12 = .ok (.iconst 1, 1) := by decide +kernel
theorem dX1_powerOfTen_13 : decode cX1_powerOfTen 13 = .ok (.goto 4, 3) := by decide +kernel
theorem dX1_powerOfTen_16 : decode cX1_powerOfTen 16 = .ok (.iconst 0, 1) := by decide +kernel
theorem dX1_powerOfTen_17 : decode cX1_powerOfTen 17 = .ok (.istore_n 1, 1) := by decide +kernel
theorem dX1_powerOfTen_18 : decode cX1_powerOfTen 18 = .ok (.iload_n 1, 1) := by decide +kernel
theorem dX1_powerOfTen_19 : decode cX1_powerOfTen 19 = .ok (.ifCond .eq 11, 3) := by decide +kernel
theorem dX1_powerOfTen_22 : decode cX1_powerOfTen 22 = .ok (.getstatic 9, 3) := by decide +kernel
theorem dX1_powerOfTen_25 : decode cX1_powerOfTen 25 = .ok (.iload_n 0, 1) := by decide +kernel
theorem dX1_powerOfTen_26 : decode cX1_powerOfTen 26 = .ok (.laload, 1) := by decide +kernel
theorem dX1_powerOfTen_27 : decode cX1_powerOfTen 27 = .ok (.goto 4, 3) := by decide +kernel
theorem dX1_powerOfTen_30 : decode cX1_powerOfTen 30 = .ok (.lconst 1, 1) := by decide +kernel
theorem dX1_powerOfTen_31 : decode cX1_powerOfTen 31 = .ok (.lreturn, 1) := by decide +kernel
theorem dX1_digitCount_0 : decode cX1_digitCount 0 = .ok (.iconst 1, 1) := by decide +kernel
theorem dX1_digitCount_1 : decode cX1_digitCount 1 = .ok (.istore_n 2, 1) := by decide +kernel
theorem dX1_digitCount_2 : decode cX1_digitCount 2 = .ok (.iload_n 2, 1) := by decide +kernel
theorem dX1_digitCount_3 : decode cX1_digitCount 3 = .ok (.getstatic 9, 3) := by decide +kernel
theorem dX1_digitCount_6 : decode cX1_digitCount 6 = .ok (.arraylength, 1) := by decide +kernel
theorem dX1_digitCount_7 : decode cX1_digitCount 7 = .ok (.if_icmp .ge 19, 3) := by decide +kernel
theorem dX1_digitCount_10 : decode cX1_digitCount 10 = .ok (.lload_n 0, 1) := by decide +kernel
theorem dX1_digitCount_11 : decode cX1_digitCount 11 = .ok (.getstatic 9, 3) := by decide +kernel
theorem dX1_digitCount_14 : decode cX1_digitCount 14 = .ok (.iload_n 2, 1) := by decide +kernel
theorem dX1_digitCount_15 : decode cX1_digitCount 15 = .ok (.laload, 1) := by decide +kernel
theorem dX1_digitCount_16 : decode cX1_digitCount 16 = .ok (.lcmp, 1) := by decide +kernel
theorem dX1_digitCount_17 : decode cX1_digitCount 17 = .ok (.ifCond .lt 9, 3) := by decide +kernel
theorem dX1_digitCount_20 : decode cX1_digitCount 20 = .ok (.iinc 2 1, 3) := by decide +kernel
theorem dX1_digitCount_23 : decode cX1_digitCount 23 = .ok (.goto (-21), 3) := by decide +kernel
theorem dX1_digitCount_26 : decode cX1_digitCount 26 = .ok (.iload_n 2, 1) := by decide +kernel
theorem dX1_digitCount_27 : decode cX1_digitCount 27 = .ok (.ireturn, 1) := by decide +kernel
theorem dX1_append_0 : decode cX1_append 0 = .ok (.ldc2_w 15, 3) := by decide +kernel
theorem dX1_append_3 : decode cX1_append 3 = .ok (.lstore 4, 2) := by decide +kernel
theorem dX1_append_5 : decode cX1_append 5 = .ok (.iconst 1, 1) := by decide +kernel
theorem dX1_append_6 : decode cX1_append 6 = .ok (.istore 6, 2) := by decide +kernel
theorem dX1_append_8 : decode cX1_append 8 = .ok (.iload 6, 2) := by decide +kernel
theorem dX1_append_10 : decode cX1_append 10 = .ok (.bipush 18, 2) := by decide +kernel
theorem dX1_append_12 : decode cX1_append 12 = .ok (.if_icmp .ge 24, 3) := by decide +kernel
theorem dX1_append_15 : decode cX1_append 15 = .ok (.lload_n 2, 1) := by decide +kernel
theorem dX1_append_16 : decode cX1_append 16 = .ok (.lload 4, 2) := by decide +kernel
theorem dX1_append_18 : decode cX1_append 18 = .ok (.lcmp, 1) := by decide +kernel
theorem dX1_append_19 : decode cX1_append 19 = .ok (.ifCond .lt 17, 3) := by decide +kernel
theorem dX1_append_22 : decode cX1_append 22 = .ok (.lload 4, 2) := by decide +kernel
theorem dX1_append_24 : decode cX1_append 24 = .ok (.ldc2_w 15, 3) := by decide +kernel
theorem dX1_append_27 : decode cX1_append 27 = .ok (.lmul, 1) := by decide +kernel
theorem dX1_append_28 : decode cX1_append 28 = .ok (.lstore 4, 2) := by decide +kernel
theorem dX1_append_30 : decode cX1_append 30 = .ok (.iinc 6 1, 3) := by decide +kernel
theorem dX1_append_33 : decode cX1_append 33 = .ok (.goto (-25), 3) := by decide +kernel
theorem dX1_append_36 : decode cX1_append 36 = .ok (.lload_n 0, 1) := by decide +kernel
theorem dX1_append_37 : decode cX1_append 37 = .ok (.lload 4, 2) := by decide +kernel
theorem dX1_append_39 : decode cX1_append 39 = .ok (.lmul, 1) := by decide +kernel
theorem dX1_append_40 : decode cX1_append 40 = .ok (.lload_n 2, 1) := by decide +kernel
theorem dX1_append_41 : decode cX1_append 41 = .ok (.ladd, 1) := by decide +kernel
theorem dX1_append_42 : decode cX1_append 42 = .ok (.lreturn, 1) := by decide +kernel
set_option maxRecDepth 20000 in
theorem ggX1_union_X1_append : GoodIn wsX1_union wsX1_append := goodIn_r _ [5, 6] rfl (by decide +kernel)
set_option maxRecDepth 20000 in
theorem gX1_union_X1_append : GoodIn wsX1_union (va_wsS RX1 19 yX1_append wsX1_append) := goodIn_app (goodIn_of _ (by decide +kernel)) ggX1_union_X1_append
theorem dX1_union_0 : decode cX1_union 0 = .ok (.ldc2_w 17, 3) := by decide +kernel
theorem dX1_union_3 : decode cX1_union 3 = .ok (.lload_n 0, 1) := by decide +kernel
theorem dX1_union_4 : decode cX1_union 4 = .ok (.invokestatic 19, 3) := by decide +kernel
theorem dX1_union_7 : decode cX1_union 7 = .ok (.lload_n 2, 1) := by decide +kernel
theorem dX1_union_8 : decode cX1_union 8 = .ok (.invokestatic 19, 3) := by decide +kernel
theorem dX1_union_11 : decode cX1_union 11 = .ok (.lreturn, 1) := by decide +kernel
set_option maxRecDepth 20000 in
theorem ggX1_concatenation_X1_append : GoodIn wsX1_concatenation wsX1_append := goodIn_r _ [5, 6] rfl (by decide +kernel)
set_option maxRecDepth 20000 in
theorem gX1_concatenation_X1_append : GoodIn wsX1_concatenation (va_wsS RX1 19 yX1_append wsX1_append) := goodIn_app (goodIn_of _ (by decide +kernel)) ggX1_concatenation_X1_append
theorem dX1_concatenation_0 : decode cX1_concatenation 0 = .ok (.ldc2_w 23, 3) := by decide +kernel
theorem dX1_concatenation_3 : decode cX1_concatenation 3 = .ok (.lload_n 0, 1) := by decide +kernel
theorem dX1_concatenation_4 : decode cX1_concatenation 4 = .ok (.invokestatic 19, 3) := by decide +kernel
theorem dX1_concatenation_7 : decode cX1_concatenation 7 = .ok (.lload_n 2, 1) := by decide +kernel
theorem dX1_concatenation_8 : decode cX1_concatenation 8 = .ok (.invokestatic 19, 3) := by decide +kernel
theorem dX1_concatenation_11 : decode cX1_concatenation 11 = .ok (.lreturn, 1) := by decide +kernel
set_option maxRecDepth 20000 in
theorem ggX1_star_X1_append : GoodIn wsX1_star wsX1_append := goodIn_r _ [5, 6] rfl (by decide +kernel)
set_option maxRecDepth 20000 in
theorem gX1_star_X1_append : GoodIn wsX1_star (va_wsS RX1 19 yX1_append wsX1_append) := goodIn_app (goodIn_of _ (by decide +kernel)) ggX1_star_X1_append
theorem dX1_star_0 : decode cX1_star 0 = .ok (.ldc2_w 25, 3) := by decide +kernel
theorem dX1_star_3 : decode cX1_star 3 = .ok (.lload_n 0, 1) := by decide +kernel
theorem dX1_star_4 : decode cX1_star 4 = .ok (.invokestatic 19, 3) := by decide +kernel
theorem dX1_star_7 : decode cX1_star 7 = .ok (.lreturn, 1) := by decide +kernel
theorem dX2_init_0 : decode cX2_init 0 = .ok (.aload_n 0, 1) := by decide +kernel
theorem dX2_init_1 : decode cX2_init 1 = .ok (.invokespecial 5, 3) := by decide +kernel
theorem dX2_init_4 : decode cX2_init 4 = .ok (.aload_n 0, 1) := by decide +kernel
theorem dX2_init_5 : decode cX2_init 5 = .ok (.sipush 2048, 3) := by decide +kernel
theorem dX2_init_8 : decode cX2_init 8 = .ok (.newarray .int, 2) := by decide +kernel
theorem dX2_init_10 : decode cX2_init 10 = .ok (.putfield 13, 3) := by decide +kernel
theorem dX2_init_13 : decode cX2_init 13 = .ok (.aload_n 0, 1) := by decide +kernel
theorem dX2_init_14 : decode cX2_init 14 = .ok (.sipush 1025, 3) := by decide +kernel
theorem dX2_init_17 : decode cX2_init 17 = .ok (.newarray .int, 2) := by decide +kernel
theorem dX2_init_19 : decode cX2_init 19 = .ok (.putfield 17, 3) := by decide +kernel
theorem dX2_init_22 : decode cX2_init 22 = .ok (.aload_n 0, 1) := by decide +kernel
theorem dX2_init_23 : decode cX2_init 23 = .ok (.sipush 1025, 3) := by decide +kernel
theorem dX2_init_26 : decode cX2_init 26 = .ok (.newarray .int, 2) := by decide +kernel
theorem dX2_init_28 : decode cX2_init 28 = .ok (.putfield 20, 3) := by decide +kernel
theorem dX2_init_31 : decode cX2_init 31 = .ok (.aload_n 0, 1) := by decide +kernel
theorem dX2_init_32 : decode cX2_init 32 = .ok (.sipush 1025, 3) := by decide +kernel
theorem dX2_init_35 : decode cX2_init 35 = .ok (.newarray .int, 2) := by decide +kernel
theorem dX2_init_37 : decode cX2_init 37 = .ok (.putfield 23, 3) := by decide +kernel
theorem dX2_init_40 : decode cX2_init 40 = .ok (.aload_n 0, 1) := by decide +kernel
theorem dX2_init_41 : decode cX2_init 41 = .ok (.sipush 1025, 3) := by decide +kernel
theorem dX2_init_44 : decode cX2_init 44 = .ok (.newarray .int, 2) := by decide +kernel
theorem dX2_init_46 : decode cX2_init 46 = .ok (.putfield 26, 3) := by decide +kernel
theorem dX2_init_49 : decode cX2_init 49 = .ok (.return_, 1) := by decide +kernel
set_option maxRecDepth 20000 in
theorem ggX2_run_J7_fill_53178 : GoodIn wsX2_run wsJ7_fill_53178 := goodIn_r _ [7] rfl (by decide +kernel)
set_option maxRecDepth 20000 in
theorem gX2_run_J7_fill_53178 : GoodIn wsX2_run (va_wsS RX2 29 yJ7_fill_53178 wsJ7_fill_53178) := goodIn_app (goodIn_of _ (by decide +kernel)) ggX2_run_J7_fill_53178
set_option maxRecDepth 20000 in
theorem ggX2_run_X2_meet : GoodIn wsX2_run wsX2_meet := goodIn_r _ [12, 2, 1, 13, 14, 15, 16, 17, 18, 19, 11, 20, 46, 47, 48, 49, 50, 51, 52] rfl (by decide +kernel)
set_option maxRecDepth 20000 in
theorem gX2_run_X2_meet : GoodIn wsX2_run (wsV RX2 42 RX2 yX2_meet wsX2_meet) := goodIn_app (goodIn_of _ (by decide +kernel)) ggX2_run_X2_meet
set_option maxRecDepth 20000 in
theorem ggX2_run_X2_checkLatest : GoodIn wsX2_run wsX2_checkLatest := goodIn_r _ [24, 2, 13, 14, 3, 25, 26, 27, 28, 29, 30, 46, 47, 48, 49, 50, 51, 52, 53, 54, 55, 56, 57, 58, 59] rfl (by decide +kernel)
set_option maxRecDepth 20000 in
theorem gX2_run_X2_checkLatest : GoodIn wsX2_run (wsV RX2 46 RX2 yX2_checkLatest wsX2_checkLatest) := goodIn_app (goodIn_of _ (by decide +kernel)) ggX2_run_X2_checkLatest
set_option maxRecDepth 20000 in
theorem ggX2_run_X2_expand : GoodIn wsX2_run wsX2_expand := goodIn_r _ [34, 13, 14, 3, 35, 36, 37, 28, 38, 39, 40, 41, 42, 43, 44, 45, 8, 9, 10, 11, 12, 2, 1, 15, 16, 17, 18, 19, 20, 21, 22, 23, 24, 25, 26, 27, 29, 30, 46, 47, 48, 49, 50, 51, 52, 53, 54, 55, 56, 57, 58, 59] rfl (by decide +kernel)
set_option maxRecDepth 20000 in
theorem gX2_run_X2_expand : GoodIn wsX2_run (wsV RX2 50 RX2 yX2_expand wsX2_expand) := goodIn_app (goodIn_of _ (by decide +kernel)) ggX2_run_X2_expand
theorem dX2_run_0 : decode cX2_run 0 = .ok (.aload_n 0, 1) := by decide +kernel
theorem dX2_run_1 : decode cX2_run 1 = .ok (.getfield 13, 3) := by decide +kernel
theorem dX2_run_4 : decode cX2_run 4 = .ok (.bipush (-9), 2) := by decide +kernel
theorem dX2_run_6 : decode cX2_run 6 = .ok (.invokestatic 29, 3) := by decide +kernel
theorem dX2_run_9 : decode cX2_run 9 = .ok (.aload_n 0, 1) := by decide +kernel
theorem dX2_run_10 : decode cX2_run 10 = .ok (.iconst 0, 1) := by decide +kernel
theorem dX2_run_11 : decode cX2_run 11 = .ok (.putfield 35, 3) := by decide +kernel
theorem dX2_run_14 : decode cX2_run 14 = .ok (.aload_n 0, 1) := by decide +kernel
theorem dX2_run_15 : decode cX2_run 15 = .ok (.bipush (-9), 2) := by decide +kernel
theorem dX2_run_17 : decode cX2_run 17 = .ok (.putfield 39, 3) := by decide +kernel
theorem dX2_run_20 : decode cX2_run 20 = .ok (.aload_n 0, 1) := by decide +kernel
theorem dX2_run_21 : decode cX2_run 21 = .ok (.iconst 1, 1) := by decide +kernel
theorem dX2_run_22 : decode cX2_run 22 = .ok (.iconst 1, 1) := by decide +kernel
theorem dX2_run_23 : decode cX2_run 23 = .ok (.iconst 0, 1) := by decide +kernel
theorem dX2_run_24 : decode cX2_run 24 = .ok (.iconst 0, 1) := by decide +kernel
theorem dX2_run_25 : decode cX2_run 25 = .ok (.invokevirtual 42, 3) := by decide +kernel
theorem dX2_run_28 : decode cX2_run 28 = .ok (.pop, 1) := by decide +kernel
theorem dX2_run_29 : decode cX2_run 29 = .ok (.aload_n 0, 1) := by decide +kernel
theorem dX2_run_30 : decode cX2_run 30 = .ok (.aload_n 1, 1) := by decide +kernel
theorem dX2_run_31 : decode cX2_run 31 = .ok (.aload_n 2, 1) := by decide +kernel
theorem dX2_run_32 : decode cX2_run 32 = .ok (.invokevirtual 46, 3) := by decide +kernel
theorem dX2_run_35 : decode cX2_run 35 = .ok (.iconst 0, 1) := by decide +kernel
theorem dX2_run_36 : decode cX2_run 36 = .ok (.istore_n 3, 1) := by decide +kernel
theorem dX2_run_37 : decode cX2_run 37 = .ok (.iload_n 3, 1) := by decide +kernel
theorem dX2_run_38 : decode cX2_run 38 = .ok (.aload_n 0, 1) := by decide +kernel
theorem dX2_run_39 : decode cX2_run 39 = .ok (.getfield 35, 3) := by decide +kernel
theorem dX2_run_42 : decode cX2_run 42 = .ok (.if_icmp .ge 32, 3) := by decide +kernel
theorem dX2_run_45 : decode cX2_run 45 = .ok (.iload_n 3, 1) := by decide +kernel
theorem dX2_run_46 : decode cX2_run 46 = .ok (.sipush 1025, 3) := by decide +kernel
theorem dX2_run_49 : decode cX2_run 49 = .ok (.if_icmp .ge 25, 3) := by decide +kernel
theorem dX2_run_52 : decode cX2_run 52 = .ok (.aload_n 0, 1) := by decide +kernel
theorem dX2_run_53 : decode cX2_run 53 = .ok (.getfield 39, 3) := by decide +kernel
theorem dX2_run_56 : decode cX2_run 56 = .ok (.bipush (-9), 2) := by decide +kernel
theorem dX2_run_58 : decode cX2_run 58 = .ok (.if_icmp .ne 16, 3) := by decide +kernel
theorem dX2_run_61 : decode cX2_run 61 = .ok (.aload_n 0, 1) := by decide +kernel
theorem dX2_run_62 : decode cX2_run 62 = .ok (.aload_n 1, 1) := by decide +kernel
theorem dX2_run_63 : decode cX2_run 63 = .ok (.aload_n 2, 1) := by decide +kernel
theorem dX2_run_64 : decode cX2_run 64 = .ok (.iload_n 3, 1) := by decide +kernel
theorem dX2_run_65 : decode cX2_run 65 = .ok (.invokevirtual 50, 3) := by decide +kernel
theorem dX2_run_68 : decode cX2_run 68 = .ok (.iinc 3 1, 3) := by decide +kernel
theorem dX2_run_71 : decode cX2_run 71 = .ok (.goto (-34), 3) := by decide +kernel
theorem dX2_run_74 : decode cX2_run 74 = .ok (.return_, 1) := by decide +kernel
theorem dX2_foundWord_0 : decode cX2_foundWord 0 = .ok (.aload_n 0, 1) := by decide +kernel
theorem dX2_foundWord_1 : decode cX2_foundWord 1 = .ok (.getfield 39, 3) := by decide +kernel
theorem dX2_foundWord_4 : decode cX2_foundWord 4 = .ok (.bipush (-9), 2) := by decide +kernel
theorem dX2_foundWord_6 : decode cX2_foundWord 6 = .ok (.if_icmp .eq 7, 3) := by decide +kernel
theorem dX2_foundWord_9 : decode cX2_foundWord 9 = .ok (.iconst 1, 1) := by decide +kernel
theorem dX2_foundWord_10 : decode cX2_foundWord 10 = .ok (.goto 4, 3) := by decide +kernel
theorem dX2_foundWord_13 : decode cX2_foundWord 13 = .ok (.iconst 0, 1) := by decide +kernel
theorem dX2_foundWord_14 : decode cX2_foundWord 14 = .ok (.ireturn, 1) := by decide +kernel
theorem dX2_wordLength_0 : decode cX2_wordLength 0 = .ok (.iconst 0, 1) := by decide +kernel
theorem dX2_wordLength_1 : decode cX2_wordLength 1 = .ok (.istore_n 1, 1) := by decide +kernel
theorem dX2_wordLength_2 : decode cX2_wordLength 2 = .ok (.aload_n 0, 1) := by decide +kernel
theorem dX2_wordLength_3 : decode cX2_wordLength 3 = .ok (.getfield 39, 3) := by decide +kernel
theorem dX2_wordLength_6 : decode cX2_wordLength 6 = .ok (.istore_n 2, 1) := by decide +kernel
theorem dX2_wordLength_7 : decode cX2_wordLength 7 = .ok (.iload_n 1, 1) := by decide +kernel
theorem dX2_wordLength_8 : decode cX2_wordLength 8 = .ok (.sipush 1025, 3) := by decide +kernel
theorem dX2_wordLength_11 : decode cX2_wordLength 11 = .ok (.if_icmp .ge 27, 3) := by decide +kernel
theorem dX2_wordLength_14 : decode cX2_wordLength 14 = .ok (.iload_n 2, 1) := by decide +kernel
theorem dX2_wordLength_15 : decode cX2_wordLength 15 = .ok (.ifCond .le 23, 3) := by decide +kernel
theorem dX2_wordLength_18 : decode cX2_wordLength 18 = .ok (.iload_n 2, 1) := by decide +kernel
theorem dX2_wordLength_19 : decode cX2_wordLength 19 = .ok (.sipush 1025, 3) := by decide +kernel
theorem dX2_wordLength_22 : decode cX2_wordLength 22 = .ok (.if_icmp .ge 16, 3) := by decide +kernel
theorem dX2_wordLength_25 : decode cX2_wordLength 25 = .ok (.aload_n 0, 1) := by decide +kernel
theorem dX2_wordLength_26 : decode cX2_wordLength 26 = .ok (.getfield 23, 3) := by decide +kernel
theorem dX2_wordLength_29 : decode cX2_wordLength 29 = .ok (.iload_n 2, 1) := by decide +kernel
theorem dX2_wordLength_30 : decode cX2_wordLength 30 = .ok (.iaload, 1) := by decide +kernel
theorem dX2_wordLength_31 : decode cX2_wordLength 31 = .ok (.istore_n 2, 1) := by decide +kernel
theorem dX2_wordLength_32 : decode cX2_wordLength 32 = .ok (.iinc 1 1, 3) := by decide +kernel
theorem dX2_wordLength_35 : decode cX2_wordLength 35 = .ok (.goto (-28), 3) := by decide +kernel
theorem dX2_wordLength_38 : decode cX2_wordLength 38 = .ok (.iload_n 1, 1) := by decide +kernel
theorem dX2_wordLength_39 : decode cX2_wordLength 39 = .ok (.ireturn, 1) := by decide +kernel
set_option maxRecDepth 20000 in
theorem ggX2_wordSymbol_X2_wordLength : GoodIn wsX2_wordSymbol wsX2_wordLength := goodIn_r _ [8, 1, 2, 9, 10, 11, 12, 13, 14, 15] rfl (by decide +kernel)
set_option maxRecDepth 20000 in
theorem gX2_wordSymbol_X2_wordLength : GoodIn wsX2_wordSymbol (wsV RX2 54 RX2 yX2_wordLength wsX2_wordLength) := goodIn_app (goodIn_of _ (by decide +kernel)) ggX2_wordSymbol_X2_wordLength
theorem dX2_wordSymbol_0 : decode cX2_wordSymbol 0 = .ok (.aload_n 0, 1) := by decide +kernel
theorem dX2_wordSymbol_1 : decode cX2_wordSymbol 1 = .ok (.getfield 39, 3) := by decide +kernel
theorem dX2_wordSymbol_4 : decode cX2_wordSymbol 4 = .ok (.istore_n 2, 1) := by decide +kernel
theorem dX2_wordSymbol_5 : decode cX2_wordSymbol 5 = .ok (.aload_n 0, 1) := by decide +kernel
theorem dX2_wordSymbol_6 : decode cX2_wordSymbol 6 = .ok (.invokevirtual 54, 3) := by decide +kernel
theorem dX2_wordSymbol_9 : decode cX2_wordSymbol 9 = .ok (.iconst 1, 1) := by decide +kernel
theorem dX2_wordSymbol_10 : decode cX2_wordSymbol 10 = .ok (.isub, 1) := by decide +kernel
theorem dX2_wordSymbol_11 : decode cX2_wordSymbol 11 = .ok (.istore_n 3, 1) := by decide +kernel
theorem dX2_wordSymbol_12 : decode cX2_wordSymbol 12 = .ok (.iload_n 3, 1) := by decide +kernel
theorem dX2_wordSymbol_13 : decode cX2_wordSymbol 13 = .ok (.iload_n 1, 1) := by decide +kernel
theorem dX2_wordSymbol_14 : decode cX2_wordSymbol 14 = .ok (.if_icmp .le 27, 3) := by decide +kernel
theorem dX2_wordSymbol_17 : decode cX2_wordSymbol 17 = .ok (.iload_n 2, 1) := by decide +kernel
theorem dX2_wordSymbol_18 : decode cX2_wordSymbol 18 = .ok (.ifCond .le 23, 3) := by decide +kernel
theorem dX2_wordSymbol_21 : decode cX2_wordSymbol 21 = .ok (.iload_n 2, 1) := by decide +kernel
theorem dX2_wordSymbol_22 : decode cX2_wordSymbol 22 = .ok (.sipush 1025, 3) := by decide +kernel
theorem dX2_wordSymbol_25 : decode cX2_wordSymbol 25 = .ok (.if_icmp .ge 16, 3) := by decide +kernel
theorem dX2_wordSymbol_28 : decode cX2_wordSymbol 28 = .ok (.aload_n 0, 1) := by decide +kernel
theorem dX2_wordSymbol_29 : decode cX2_wordSymbol 29 = .ok (.getfield 23, 3) := by decide +kernel
theorem dX2_wordSymbol_32 : decode cX2_wordSymbol 32 = .ok (.iload_n 2, 1) := by decide +kernel
theorem dX2_wordSymbol_33 : decode cX2_wordSymbol 33 = .ok (.iaload, 1) := by decide +kernel
theorem dX2_wordSymbol_34 : decode cX2_wordSymbol 34 = .ok (.istore_n 2, 1) := by decide +kernel
theorem dX2_wordSymbol_35 : decode cX2_wordSymbol 35 = .ok (.iinc 3 (-1), 3) := by decide +kernel
theorem dX2_wordSymbol_38 : decode cX2_wordSymbol 38 = .ok (.goto (-26), 3) := by decide +kernel
theorem dX2_wordSymbol_41 : decode cX2_wordSymbol 41 = .ok (.iload_n 2, 1) := by decide +kernel
theorem dX2_wordSymbol_42 : decode cX2_wordSymbol 42 = .ok (.ifCond .le 19, 3) := by decide +kernel
theorem dX2_wordSymbol_45 : decode cX2_wordSymbol 45 = .ok (.iload_n 2, 1) := by decide +kernel
theorem dX2_wordSymbol_46 : decode cX2_wordSymbol 46 = .ok (.sipush 1025, 3) := by decide +kernel
theorem dX2_wordSymbol_49 : decode cX2_wordSymbol 49 = .ok (.if_icmp .ge 12, 3) := by decide +kernel
theorem dX2_wordSymbol_52 : decode cX2_wordSymbol 52 = .ok (.aload_n 0, 1) := by decide +kernel
theorem dX2_wordSymbol_53 : decode cX2_wordSymbol 53 = .ok (.getfield 26, 3) := by decide +kernel
theorem dX2_wordSymbol_56 : decode cX2_wordSymbol 56 = .ok (.iload_n 2, 1) := by decide +kernel
theorem dX2_wordSymbol_57 : decode cX2_wordSymbol 57 = .ok (.iaload, 1) := by decide +kernel
theorem dX2_wordSymbol_58 : decode cX2_wordSymbol 58 = .ok (.goto 4, 3) := by decide +kernel
theorem dX2_wordSymbol_61 : decode cX2_wordSymbol 61 = .ok (.iconst 0, 1) := by decide +kernel
theorem dX2_wordSymbol_62 : decode cX2_wordSymbol 62 = .ok (.ireturn, 1) := by decide +kernel
set_option maxRecDepth 20000 in
theorem ggX2_expand_X0_followersOf : GoodIn wsX2_expand wsX0_followersOf := goodIn_r _ [8, 9, 10, 45, 46, 47, 48, 49, 50, 51] rfl (by decide +kernel)
set_option maxRecDepth 20000 in
theorem gX2_expand_X0_followersOf : GoodIn wsX2_expand (wsV RX2 58 RX0 yX0_followersOf wsX0_followersOf) := goodIn_app (goodIn_of _ (by decide +kernel)) ggX2_expand_X0_followersOf
set_option maxRecDepth 20000 in
theorem ggX2_expand_X0_readersOf : GoodIn wsX2_expand wsX0_readersOf := goodIn_r _ [14, 15, 45, 46, 47, 48, 49, 50, 51] rfl (by decide +kernel)
set_option maxRecDepth 20000 in
theorem gX2_expand_X0_readersOf : GoodIn wsX2_expand (wsV RX2 62 RX0 yX0_readersOf wsX0_readersOf) := goodIn_app (goodIn_of _ (by decide +kernel)) ggX2_expand_X0_readersOf
set_option maxRecDepth 20000 in
theorem ggX2_expand_X2_meet : GoodIn wsX2_expand wsX2_meet := goodIn_r _ [20, 21, 22, 1, 2, 23, 24, 25, 26, 27, 19, 28, 38, 39, 40, 41, 42, 43, 44] rfl (by decide +kernel)
set_option maxRecDepth 20000 in
theorem gX2_expand_X2_meet : GoodIn wsX2_expand (wsV RX2 42 RX2 yX2_meet wsX2_meet) := goodIn_app (goodIn_of _ (by decide +kernel)) ggX2_expand_X2_meet
set_option maxRecDepth 20000 in
theorem ggX2_expand_X2_checkLatest : GoodIn wsX2_expand wsX2_checkLatest := goodIn_r _ [32, 21, 1, 2, 3, 33, 34, 35, 7, 36, 37, 38, 39, 40, 41, 42, 43, 44, 45, 46, 47, 48, 49, 50, 51] rfl (by decide +kernel)
set_option maxRecDepth 20000 in
theorem gX2_expand_X2_checkLatest : GoodIn wsX2_expand (wsV RX2 46 RX2 yX2_checkLatest wsX2_checkLatest) := goodIn_app (goodIn_of _ (by decide +kernel)) ggX2_expand_X2_checkLatest
theorem dX2_expand_0 : decode cX2_expand 0 = .ok (.iload_n 3, 1) := by decide +kernel
theorem dX2_expand_1 : decode cX2_expand 1 = .ok (.ifCond .lt 10, 3) := by decide +kernel
theorem dX2_expand_4 : decode cX2_expand 4 = .ok (.iload_n 3, 1) := by decide +kernel
theorem dX2_expand_5 : decode cX2_expand 5 = .ok (.sipush 1025, 3) := by decide +kernel
theorem dX2_expand_8 : decode cX2_expand 8 = .ok (.if_icmp .lt 4, 3) := by decide +kernel
theorem dX2_expand_11 : decode cX2_expand 11 = .ok (.return_, 1) := by decide +kernel
theorem dX2_expand_12 : decode cX2_expand 12 = .ok (.aload_n 1, 1) := by decide +kernel
theorem dX2_expand_13 : decode cX2_expand 13 = .ok (.aload_n 0, 1) := by decide +kernel
theorem dX2_expand_14 : decode cX2_expand 14 = .ok (.getfield 17, 3) := by decide +kernel
theorem dX2_expand_17 : decode cX2_expand 17 = .ok (.iload_n 3, 1) := by decide +kernel
theorem dX2_expand_18 : decode cX2_expand 18 = .ok (.iaload, 1) := by decide +kernel
theorem dX2_expand_19 : decode cX2_expand 19 = .ok (.invokevirtual 58, 3) := by decide +kernel
theorem dX2_expand_22 : decode cX2_expand 22 = .ok (.istore 4, 2) := by decide +kernel
theorem dX2_expand_24 : decode cX2_expand 24 = .ok (.aload_n 2, 1) := by decide +kernel
theorem dX2_expand_25 : decode cX2_expand 25 = .ok (.aload_n 0, 1) := by decide +kernel
theorem dX2_expand_26 : decode cX2_expand 26 = .ok (.getfield 20, 3) := by decide +kernel
theorem dX2_expand_29 : decode cX2_expand 29 = .ok (.iload_n 3, 1) := by decide +kernel
theorem dX2_expand_30 : decode cX2_expand 30 = .ok (.iaload, 1) := by decide +kernel
theorem dX2_expand_31 : decode cX2_expand 31 = .ok (.invokevirtual 58, 3) := by decide +kernel
theorem dX2_expand_34 : decode cX2_expand 34 = .ok (.istore 5, 2) := by decide +kernel
theorem dX2_expand_36 : decode cX2_expand 36 = .ok (.iconst 0, 1) := by decide +kernel
theorem dX2_expand_37 : decode cX2_expand 37 = .ok (.istore 6, 2) := by decide +kernel
theorem dX2_expand_39 : decode cX2_expand 39 = .ok (.iload 6, 2) := by decide +kernel
theorem dX2_expand_41 : decode cX2_expand 41 = .ok (.iconst 3, 1) := by decide +kernel
theorem dX2_expand_42 : decode cX2_expand 42 = .ok (.if_icmp .ge 58, 3) := by decide +kernel
theorem dX2_expand_45 : decode cX2_expand 45 = .ok (.aload_n 0, 1) := by decide +kernel
theorem dX2_expand_46 : decode cX2_expand 46 = .ok (.getfield 39, 3) := by decide +kernel
theorem dX2_expand_49 : decode cX2_expand 49 = .ok (.bipush (-9), 2) := by decide +kernel
theorem dX2_expand_51 : decode cX2_expand 51 = .ok (.if_icmp .ne 49, 3) := by decide +kernel
theorem dX2_expand_54 : decode cX2_expand 54 = .ok (.aload_n 1, 1) := by decide +kernel
theorem dX2_expand_55 : decode cX2_expand 55 = .ok (.iload 6, 2) := by decide +kernel
theorem dX2_expand_57 : decode cX2_expand 57 = .ok (.iload 4, 2) := by decide +kernel
theorem dX2_expand_59 : decode cX2_expand 59 = .ok (.invokevirtual 62, 3) := by decide +kernel
theorem dX2_expand_62 : decode cX2_expand 62 = .ok (.istore 7, 2) := by decide +kernel
theorem dX2_expand_64 : decode cX2_expand 64 = .ok (.aload_n 2, 1) := by decide +kernel
theorem dX2_expand_65 : decode cX2_expand 65 = .ok (.iload 6, 2) := by decide +kernel
theorem dX2_expand_67 : decode cX2_expand 67 = .ok (.iload 5, 2) := by decide +kernel
theorem dX2_expand_69 : decode cX2_expand 69 = .ok (.invokevirtual 62, 3) := by decide +kernel
theorem dX2_expand_72 : decode cX2_expand 72 = .ok (.istore 8, 2) := by decide +kernel
theorem dX2_expand_74 : decode cX2_expand 74 = .ok (.aload_n 0, 1) := by decide +kernel
theorem dX2_expand_75 : decode cX2_expand 75 = .ok (.iload 7, 2) := by decide +kernel
theorem dX2_expand_77 : decode cX2_expand 77 = .ok (.iload 8, 2) := by decide +kernel
theorem dX2_expand_79 : decode cX2_expand 79 = .ok (.iload_n 3, 1) := by decide +kernel
theorem dX2_expand_80 : decode cX2_expand 80 = .ok (.iload 6, 2) := by decide +kernel
theorem dX2_expand_82 : decode cX2_expand 82 = .ok (.invokevirtual 42, 3) := by decide +kernel
theorem dX2_expand_85 : decode cX2_expand 85 = .ok (.ifCond .eq 9, 3) := by decide +kernel
theorem dX2_expand_88 : decode cX2_expand 88 = .ok (.aload_n 0, 1) := by decide +kernel
theorem dX2_expand_89 : decode cX2_expand 89 = .ok (.aload_n 1, 1) := by decide +kernel
theorem dX2_expand_90 : decode cX2_expand 90 = .ok (.aload_n 2, 1) := by decide +kernel
theorem dX2_expand_91 : decode cX2_expand 91 = .ok (.invokevirtual 46, 3) := by decide +kernel
theorem dX2_expand_94 : decode cX2_expand 94 = .ok (.iinc 6 1, 3) := by decide +kernel
theorem dX2_expand_97 : decode cX2_expand 97 = .ok (.goto (-58), 3) := by decide +kernel
theorem dX2_expand_100 : decode cX2_expand 100 = .ok (.return_, 1) := by decide +kernel
set_option maxRecDepth 20000 in
theorem ggX2_meet_X2_groupOf : GoodIn wsX2_meet wsX2_groupOf := goodIn_r _ [11, 2, 12, 13, 14, 15, 16, 17, 18] rfl (by decide +kernel)
set_option maxRecDepth 20000 in
theorem gX2_meet_X2_groupOf : GoodIn wsX2_meet (wsV RX2 66 RX2 yX2_groupOf wsX2_groupOf) := goodIn_app (goodIn_of _ (by decide +kernel)) ggX2_meet_X2_groupOf
theorem dX2_meet_0 : decode cX2_meet 0 = .ok (.aload_n 0, 1) := by decide +kernel
theorem dX2_meet_1 : decode cX2_meet 1 = .ok (.iload_n 1, 1) := by decide +kernel
theorem dX2_meet_2 : decode cX2_meet 2 = .ok (.invokevirtual 66, 3) := by decide +kernel
theorem dX2_meet_5 : decode cX2_meet 5 = .ok (.istore 5, 2) := by decide +kernel
theorem dX2_meet_7 : decode cX2_meet 7 = .ok (.aload_n 0, 1) := by decide +kernel
theorem dX2_meet_8 : decode cX2_meet 8 = .ok (.sipush 1024, 3) := by decide +kernel
theorem dX2_meet_11 : decode cX2_meet 11 = .ok (.iload_n 2, 1) := by decide +kernel
theorem dX2_meet_12 : decode cX2_meet 12 = .ok (.iadd, 1) := by decide +kernel
theorem dX2_meet_13 : decode cX2_meet 13 = .ok (.invokevirtual 66, 3) := by decide +kernel
theorem dX2_meet_16 : decode cX2_meet 16 = .ok (.istore 6, 2) := by decide +kernel
theorem dX2_meet_18 : decode cX2_meet 18 = .ok (.iload 5, 2) := by decide +kernel
theorem dX2_meet_20 : decode cX2_meet 20 = .ok (.iload 6, 2) := by decide +kernel
theorem dX2_meet_22 : decode cX2_meet 22 = .ok (.if_icmp .eq 13, 3) := by decide +kernel
theorem dX2_meet_25 : decode cX2_meet 25 = .ok (.aload_n 0, 1) := by decide +kernel
theorem dX2_meet_26 : decode cX2_meet 26 = .ok (.getfield 35, 3) := by decide +kernel
theorem dX2_meet_29 : decode cX2_meet 29 = .ok (.sipush 1025, 3) := by decide +kernel
theorem dX2_meet_32 : decode cX2_meet 32 = .ok (.if_icmp .lt 5, 3) := by decide +kernel
theorem dX2_meet_35 : decode cX2_meet 35 = .ok (.iconst 0, 1) := by decide +kernel
theorem dX2_meet_36 : decode cX2_meet 36 = .ok (.ireturn, 1) := by decide +kernel
theorem dX2_meet_37 : decode cX2_meet 37 = .ok (.aload_n 0, 1) := by decide +kernel
theorem dX2_meet_38 : decode cX2_meet 38 = .ok (.getfield 13, 3) := by decide +kernel
theorem dX2_meet_41 : decode cX2_meet 41 = .ok (.iload 5, 2) := by decide +kernel
theorem dX2_meet_43 : decode cX2_meet 43 = .ok (.iload 6, 2) := by decide +kernel
theorem dX2_meet_45 : decode cX2_meet 45 = .ok (.iastore, 1) := by decide +kernel
theorem dX2_meet_46 : decode cX2_meet 46 = .ok (.aload_n 0, 1) := by decide +kernel
theorem dX2_meet_47 : decode cX2_meet 47 = .ok (.getfield 17, 3) := by decide +kernel
theorem dX2_meet_50 : decode cX2_meet 50 = .ok (.aload_n 0, 1) := by decide +kernel
theorem dX2_meet_51 : decode cX2_meet 51 = .ok (.getfield 35, 3) := by decide +kernel
theorem dX2_meet_54 : decode cX2_meet 54 = .ok (.iload_n 1, 1) := by decide +kernel
theorem dX2_meet_55 : decode cX2_meet 55 = .ok (.iastore, 1) := by decide +kernel
theorem dX2_meet_56 : decode cX2_meet 56 = .ok (.aload_n 0, 1) := by decide +kernel
theorem dX2_meet_57 : decode cX2_meet 57 = .ok (.getfield 20, 3) := by decide +kernel
theorem dX2_meet_60 : decode cX2_meet 60 = .ok (.aload_n 0, 1) := by decide +kernel
theorem dX2_meet_61 : decode cX2_meet 61 = .ok (.getfield 35, 3) := by decide +kernel
theorem dX2_meet_64 : decode cX2_meet 64 = .ok (.iload_n 2, 1) := by decide +kernel
theorem dX2_meet_65 : decode cX2_meet 65 = .ok (.iastore, 1) := by decide +kernel
theorem dX2_meet_66 : decode cX2_meet 66 = .ok (.aload_n 0, 1) := by decide +kernel
theorem dX2_meet_67 : decode cX2_meet 67 = .ok (.getfield 23, 3) := by decide +kernel
theorem dX2_meet_70 : decode cX2_meet 70 = .ok (.aload_n 0, 1) := by decide +kernel
theorem dX2_meet_71 : decode cX2_meet 71 = .ok (.getfield 35, 3) := by decide +kernel
theorem dX2_meet_74 : decode cX2_meet 74 = .ok (.iload_n 3, 1) := by decide +kernel
theorem dX2_meet_75 : decode cX2_meet 75 = .ok (.iastore, 1) := by decide +kernel
theorem dX2_meet_76 : decode cX2_meet 76 = .ok (.aload_n 0, 1) := by decide +kernel
theorem dX2_meet_77 : decode cX2_meet 77 = .ok (.getfield 26, 3) := by decide +kernel
theorem dX2_meet_80 : decode cX2_meet 80 = .ok (.aload_n 0, 1) := by decide +kernel
theorem dX2_meet_81 : decode cX2_meet 81 = .ok (.getfield 35, 3) := by decide +kernel
theorem dX2_meet_84 : decode cX2_meet 84 = .ok (.iload 4, 2) := by decide +kernel
theorem dX2_meet_86 : decode cX2_meet 86 = .ok (.iastore, 1) := by decide +kernel
theorem dX2_meet_87 : decode cX2_meet 87 = .ok (.aload_n 0, 1) := by decide +kernel
theorem dX2_meet_88 : decode cX2_meet 88 = .ok (.dup, 1) := by decide +kernel
theorem dX2_meet_89 : decode cX2_meet 89 = .ok (.getfield 35, 3) := by decide +kernel
theorem dX2_meet_92 : decode cX2_meet 92 = .ok (.iconst 1, 1) := by decide +kernel
theorem dX2_meet_93 : decode cX2_meet 93 = .ok (.iadd, 1) := by decide +kernel
theorem dX2_meet_94 : decode cX2_meet 94 = .ok (.putfield 35, 3) := by decide +kernel
theorem dX2_meet_97 : decode cX2_meet 97 = .ok (.iconst 1, 1) := by decide +kernel
theorem dX2_meet_98 : decode cX2_meet 98 = .ok (.ireturn, 1) := by decide +kernel
set_option maxRecDepth 20000 in
theorem ggX2_checkLatest_X0_accepts : GoodIn wsX2_checkLatest wsX0_accepts := goodIn_r _ [9, 10, 18, 19, 20, 21, 22, 23, 24] rfl (by decide +kernel)
set_option maxRecDepth 20000 in
theorem gX2_checkLatest_X0_accepts : GoodIn wsX2_checkLatest (wsV RX2 69 RX0 yX0_accepts wsX0_accepts) := goodIn_app (goodIn_of _ (by decide +kernel)) ggX2_checkLatest_X0_accepts
theorem dX2_checkLatest_0 : decode cX2_checkLatest 0 = .ok (.aload_n 0, 1) := by decide +kernel
theorem dX2_checkLatest_1 : decode cX2_checkLatest 1 = .ok (.getfield 35, 3) := by decide +kernel
theorem dX2_checkLatest_4 : decode cX2_checkLatest 4 = .ok (.iconst 1, 1) := by decide +kernel
theorem dX2_checkLatest_5 : decode cX2_checkLatest 5 = .ok (.isub, 1) := by decide +kernel
theorem dX2_checkLatest_6 : decode cX2_checkLatest 6 = .ok (.istore_n 3, 1) := by decide +kernel
theorem dX2_checkLatest_7 : decode cX2_checkLatest 7 = .ok (.iload_n 3, 1) := by decide +kernel
theorem dX2_checkLatest_8 : decode cX2_checkLatest 8 = .ok (.ifCond .lt 10, 3) := by decide +kernel
theorem dX2_checkLatest_11 : decode cX2_checkLatest 11 = .ok (.iload_n 3, 1) := by decide +kernel
theorem dX2_checkLatest_12 : decode cX2_checkLatest 12 = .ok (.sipush 1025, 3) := by decide +kernel
theorem dX2_checkLatest_15 : decode cX2_checkLatest 15 = .ok (.if_icmp .lt 4, 3) := by decide +kernel
theorem dX2_checkLatest_18 : decode cX2_checkLatest 18 = .ok (.return_, 1) := by decide +kernel
theorem dX2_checkLatest_19 : decode cX2_checkLatest 19 = .ok (.aload_n 1, 1) := by decide +kernel
theorem dX2_checkLatest_20 : decode cX2_checkLatest 20 = .ok (.aload_n 0, 1) := by decide +kernel
theorem dX2_checkLatest_21 : decode cX2_checkLatest 21 = .ok (.getfield 17, 3) := by decide +kernel
theorem dX2_checkLatest_24 : decode cX2_checkLatest 24 = .ok (.iload_n 3, 1) := by decide +kernel
theorem dX2_checkLatest_25 : decode cX2_checkLatest 25 = .ok (.iaload, 1) := by decide +kernel
theorem dX2_checkLatest_26 : decode cX2_checkLatest 26 = .ok (.invokevirtual 69, 3) := by decide +kernel
theorem dX2_checkLatest_29 : decode cX2_checkLatest 29 = .ok (.aload_n 2, 1) := by decide +kernel
theorem dX2_checkLatest_30 : decode cX2_checkLatest 30 = .ok (.aload_n 0, 1) := by decide +kernel
theorem dX2_checkLatest_31 : decode cX2_checkLatest 31 = .ok (.getfield 20, 3) := by decide +kernel
theorem dX2_checkLatest_34 : decode cX2_checkLatest 34 = .ok (.iload_n 3, 1) := by decide +kernel
theorem dX2_checkLatest_35 : decode cX2_checkLatest 35 = .ok (.iaload, 1) := by decide +kernel
theorem dX2_checkLatest_36 : decode cX2_checkLatest 36 = .ok (.invokevirtual 69, 3) := by decide +kernel
theorem dX2_checkLatest_39 : decode cX2_checkLatest 39 = .ok (.if_icmp .eq 8, 3) := by decide +kernel
theorem dX2_checkLatest_42 : decode cX2_checkLatest 42 = .ok (.aload_n 0, 1) := by decide +kernel
theorem dX2_checkLatest_43 : decode cX2_checkLatest 43 = .ok (.iload_n 3, 1) := by decide +kernel
theorem dX2_checkLatest_44 : decode cX2_checkLatest 44 = .ok (.putfield 39, 3) := by decide +kernel
theorem dX2_checkLatest_47 : decode cX2_checkLatest 47 = .ok (.return_, 1) := by decide +kernel
theorem dX2_groupOf_0 : decode cX2_groupOf 0 = .ok (.iload_n 1, 1) := by decide +kernel
theorem dX2_groupOf_1 : decode cX2_groupOf 1 = .ok (.ifCond .lt 14, 3) := by decide +kernel
theorem dX2_groupOf_4 : decode cX2_groupOf 4 = .ok (.iload_n 1, 1) := by decide +kernel
theorem dX2_groupOf_5 : decode cX2_groupOf 5 = .ok (.sipush 2048, 3) := by decide +kernel
theorem dX2_groupOf_8 : decode cX2_groupOf 8 = .ok (.if_icmp .ge 7, 3) := by decide +kernel
theorem dX2_groupOf_11 : decode cX2_groupOf 11 = .ok (.iload_n 1, 1) := by decide +kernel
theorem dX2_groupOf_12 : decode cX2_groupOf 12 = .ok (.goto 4, 3) := by decide +kernel
theorem dX2_groupOf_15 : decode cX2_groupOf 15 = .ok (.iconst 0, 1) := by decide +kernel
theorem dX2_groupOf_16 : decode cX2_groupOf 16 = .ok (.istore_n 2, 1) := by decide +kernel
theorem dX2_groupOf_17 : decode cX2_groupOf 17 = .ok (.iconst 0, 1) := by decide +kernel
theorem dX2_groupOf_18 : decode cX2_groupOf 18 = .ok (.istore_n 3, 1) := by decide +kernel
theorem dX2_groupOf_19 : decode cX2_groupOf 19 = .ok (.iload_n 3, 1) := by decide +kernel
theorem dX2_groupOf_20 : decode cX2_groupOf 20 = .ok (.sipush 2048, 3) := by decide +kernel
theorem dX2_groupOf_23 : decode cX2_groupOf 23 = .ok (.if_icmp .ge 25, 3) := by decide +kernel
theorem dX2_groupOf_26 : decode cX2_groupOf 26 = .ok (.aload_n 0, 1) := by decide +kernel
theorem dX2_groupOf_27 : decode cX2_groupOf 27 = .ok (.getfield 13, 3) := by decide +kernel
theorem dX2_groupOf_30 : decode cX2_groupOf 30 = .ok (.iload_n 2, 1) := by decide +kernel
theorem dX2_groupOf_31 : decode cX2_groupOf 31 = .ok (.iaload, 1) := by decide +kernel
theorem dX2_groupOf_32 : decode cX2_groupOf 32 = .ok (.ifCond .lt 16, 3) := by decide +kernel
theorem dX2_groupOf_35 : decode cX2_groupOf 35 = .ok (.aload_n 0, 1) := by decide +kernel
theorem dX2_groupOf_36 : decode cX2_groupOf 36 = .ok (.getfield 13, 3) := by decide +kernel
theorem dX2_groupOf_39 : decode cX2_groupOf 39 = .ok (.iload_n 2, 1) := by decide +kernel
theorem dX2_groupOf_40 : decode cX2_groupOf 40 = .ok (.iaload, 1) := by decide +kernel
theorem dX2_groupOf_41 : decode cX2_groupOf 41 = .ok (.istore_n 2, 1) := by decide +kernel
theorem dX2_groupOf_42 : decode cX2_groupOf 42 = .ok (.iinc 3 1, 3) := by decide +kernel
theorem dX2_groupOf_45 : decode cX2_groupOf 45 = .ok (.goto (-26), 3) := by decide +kernel
theorem dX2_groupOf_48 : decode cX2_groupOf 48 = .ok (.iload_n 2, 1) := by decide +kernel
theorem dX2_groupOf_49 : decode cX2_groupOf 49 = .ok (.ireturn, 1) := by decide +kernel
theorem dX3_init_0 : decode cX3_init 0 = .ok (.aload_n 0, 1) := by decide +kernel
theorem dX3_init_1 : decode cX3_init 1 = .ok (.invokespecial 3, 3) := by decide +kernel
theorem dX3_init_4 : decode cX3_init 4 = .ok (.aload_n 0, 1) := by decide +kernel
theorem dX3_init_5 : decode cX3_init 5 = .ok (.bipush 18, 2) := by decide +kernel
theorem dX3_init_7 : decode cX3_init 7 = .ok (.newarray .int, 2) := by decide +kernel
theorem dX3_init_9 : decode cX3_init 9 = .ok (.putfield 9, 3) := by decide +kernel
theorem dX3_init_12 : decode cX3_init 12 = .ok (.aload_n 0, 1) := by decide +kernel
theorem dX3_init_13 : decode cX3_init 13 = .ok (.bipush 18, 2) := by decide +kernel
theorem dX3_init_15 : decode cX3_init 15 = .ok (.newarray .int, 2) := by decide +kernel
theorem dX3_init_17 : decode cX3_init 17 = .ok (.putfield 15, 3) := by decide +kernel
theorem dX3_init_20 : decode cX3_init 20 = .ok (.aload_n 0, 1) := by decide +kernel
theorem dX3_init_21 : decode cX3_init 21 = .ok (.bipush 18, 2) := by decide +kernel
theorem dX3_init_23 : decode cX3_init 23 = .ok (.newarray .long, 2) := by decide +kernel
theorem dX3_init_25 : decode cX3_init 25 = .ok (.putfield 18, 3) := by decide +kernel
theorem dX3_init_28 : decode cX3_init 28 = .ok (.return_, 1) := by decide +kernel
set_option maxRecDepth 20000 in
theorem ggX3_read_X1_powerOfTen : GoodIn wsX3_read wsX1_powerOfTen := goodIn_r _ [8, 9] rfl (by decide +kernel)
set_option maxRecDepth 20000 in
theorem gX3_read_X1_powerOfTen : GoodIn wsX3_read (va_wsS RX3 26 yX1_powerOfTen wsX1_powerOfTen) := goodIn_app (goodIn_of _ (by decide +kernel)) ggX3_read_X1_powerOfTen
set_option maxRecDepth 20000 in
theorem ggX3_read_X1_digitCount : GoodIn wsX3_read wsX1_digitCount := goodIn_r _ [12, 9] rfl (by decide +kernel)
set_option maxRecDepth 20000 in
theorem gX3_read_X1_digitCount : GoodIn wsX3_read (va_wsS RX3 32 yX1_digitCount wsX1_digitCount) := goodIn_app (goodIn_of _ (by decide +kernel)) ggX3_read_X1_digitCount
set_option maxRecDepth 20000 in
theorem ggX3_read_X3_endOfNode : GoodIn wsX3_read wsX3_endOfNode := goodIn_r _ [17, 2, 3, 18, 19, 20, 21] rfl (by decide +kernel)
set_option maxRecDepth 20000 in
theorem gX3_read_X3_endOfNode : GoodIn wsX3_read (wsV RX3 36 RX3 yX3_endOfNode wsX3_endOfNode) := goodIn_app (goodIn_of _ (by decide +kernel)) ggX3_read_X3_endOfNode
theorem dX3_read_0 : decode cX3_read 0 = .ok (.aload_n 0, 1) := by decide +kernel
theorem dX3_read_1 : decode cX3_read 1 = .ok (.iconst 0, 1) := by decide +kernel
theorem dX3_read_2 : decode cX3_read 2 = .ok (.putfield 22, 3) := by decide +kernel
theorem dX3_read_5 : decode cX3_read 5 = .ok (.lload_n 1, 1) := by decide +kernel
theorem dX3_read_6 : decode cX3_read 6 = .ok (.lconst 0, 1) := by decide +kernel
theorem dX3_read_7 : decode cX3_read 7 = .ok (.lcmp, 1) := by decide +kernel
theorem dX3_read_8 : decode cX3_read 8 = .ok (.ifCond .le 13, 3) := by decide +kernel
theorem dX3_read_11 : decode cX3_read 11 = .ok (.lload_n 1, 1) := by decide +kernel
theorem dX3_read_12 : decode cX3_read 12 = .ok (.bipush 18, 2) := by decide +kernel
theorem dX3_read_14 : decode cX3_read 14 = .ok (.invokestatic 26, 3) := by decide +kernel
theorem dX3_read_17 : decode cX3_read 17 = .ok (.lcmp, 1) := by decide +kernel
theorem dX3_read_18 : decode cX3_read 18 = .ok (.ifCond .lt 5, 3) := by decide +kernel
theorem dX3_read_21 : decode cX3_read 21 = .ok (.iconst 0, 1) := by decide +kernel
theorem dX3_read_22 : decode cX3_read 22 = .ok (.ireturn, 1) := by decide +kernel
theorem dX3_read_23 : decode cX3_read 23 = .ok (.lload_n 1, 1) := by decide +kernel
theorem dX3_read_24 : decode cX3_read 24 = .ok (.invokestatic 32, 3) := by decide +kernel
theorem dX3_read_27 : decode cX3_read 27 = .ok (.istore_n 3, 1) := by decide +kernel
theorem dX3_read_28 : decode cX3_read 28 = .ok (.iload_n 3, 1) := by decide +kernel
theorem dX3_read_29 : decode cX3_read 29 = .ok (.iconst 1, 1) := by decide +kernel
theorem dX3_read_30 : decode cX3_read 30 = .ok (.isub, 1) := by decide +kernel
theorem dX3_read_31 : decode cX3_read 31 = .ok (.istore 4, 2) := by decide +kernel
theorem dX3_read_33 : decode cX3_read 33 = .ok (.iload 4, 2) := by decide +kernel
theorem dX3_read_35 : decode cX3_read 35 = .ok (.ifCond .lt 89, 3) := by decide +kernel
theorem dX3_read_38 : decode cX3_read 38 = .ok (.lload_n 1, 1) := by decide +kernel
theorem dX3_read_39 : decode cX3_read 39 = .ok (.iload_n 3, 1) := by decide +kernel
theorem dX3_read_40 : decode cX3_read 40 = .ok (.iload 4, 2) := by decide +kernel
theorem dX3_read_42 : decode cX3_read 42 = .ok (.isub, 1) := by decide +kernel
theorem dX3_read_43 : decode cX3_read 43 = .ok (.invokestatic 26, 3) := by decide +kernel
theorem dX3_read_46 : decode cX3_read 46 = .ok (.lrem, 1) := by decide +kernel
theorem dX3_read_47 : decode cX3_read 47 = .ok (.lstore 5, 2) := by decide +kernel
theorem dX3_read_49 : decode cX3_read 49 = .ok (.aload_n 0, 1) := by decide +kernel
theorem dX3_read_50 : decode cX3_read 50 = .ok (.getfield 9, 3) := by decide +kernel
theorem dX3_read_53 : decode cX3_read 53 = .ok (.iload 4, 2) := by decide +kernel
theorem dX3_read_55 : decode cX3_read 55 = .ok (.lload 5, 2) := by decide +kernel
theorem dX3_read_57 : decode cX3_read 57 = .ok (.iload_n 3, 1) := by decide +kernel
theorem dX3_read_58 : decode cX3_read 58 = .ok (.iload 4, 2) := by decide +kernel
theorem dX3_read_60 : decode cX3_read 60 = .ok (.isub, 1) := by decide +kernel
theorem dX3_read_61 : decode cX3_read 61 = .ok (.iconst 1, 1) := by decide +kernel
theorem dX3_read_62 : decode cX3_read 62 = .ok (.isub, 1) := by decide +kernel
theorem dX3_read_63 : decode cX3_read 63 = .ok (.invokestatic 26, 3) := by decide +kernel
theorem dX3_read_66 : decode cX3_read 66 = .ok (.ldiv, 1) := by decide +kernel
theorem dX3_read_67 : decode cX3_read 67 = .ok (.l2i, 1) := by decide +kernel
theorem dX3_read_68 : decode cX3_read 68 = .ok (.iastore, 1) := by decide +kernel
theorem dX3_read_69 : decode cX3_read 69 = .ok (.aload_n 0, 1) := by decide +kernel
theorem dX3_read_70 : decode cX3_read 70 = .ok (.getfield 15, 3) := by decide +kernel
theorem dX3_read_73 : decode cX3_read 73 = .ok (.iload 4, 2) := by decide +kernel
theorem dX3_read_75 : decode cX3_read 75 = .ok (.aload_n 0, 1) := by decide +kernel
theorem dX3_read_76 : decode cX3_read 76 = .ok (.iload 4, 2) := by decide +kernel
theorem dX3_read_78 : decode cX3_read 78 = .ok (.iload_n 3, 1) := by decide +kernel
theorem dX3_read_79 : decode cX3_read 79 = .ok (.invokevirtual 36, 3) := by decide +kernel
theorem dX3_read_82 : decode cX3_read 82 = .ok (.iastore, 1) := by decide +kernel
theorem dX3_read_83 : decode cX3_read 83 = .ok (.aload_n 0, 1) := by decide +kernel
theorem dX3_read_84 : decode cX3_read 84 = .ok (.getfield 15, 3) := by decide +kernel
theorem dX3_read_87 : decode cX3_read 87 = .ok (.iload 4, 2) := by decide +kernel
theorem dX3_read_89 : decode cX3_read 89 = .ok (.iaload, 1) := by decide +kernel
theorem dX3_read_90 : decode cX3_read 90 = .ok (.iload_n 3, 1) := by decide +kernel
theorem dX3_read_91 : decode cX3_read 91 = .ok (.if_icmp .le 5, 3) := by decide +kernel
theorem dX3_read_94 : decode cX3_read 94 = .ok (.iconst 0, 1) := by decide +kernel
theorem dX3_read_95 : decode cX3_read 95 = .ok (.ireturn, 1) := by decide +kernel
theorem dX3_read_96 : decode cX3_read 96 = .ok (.aload_n 0, 1) := by decide +kernel
theorem dX3_read_97 : decode cX3_read 97 = .ok (.getfield 18, 3) := by decide +kernel
theorem dX3_read_100 : decode cX3_read 100 = .ok (.iload 4, 2) := by decide +kernel
theorem dX3_read_102 : decode cX3_read 102 = .ok (.lload 5, 2) := by decide +kernel
theorem dX3_read_104 : decode cX3_read 104 = .ok (.iload_n 3, 1) := by decide +kernel
theorem dX3_read_105 : decode cX3_read 105 = .ok (.aload_n 0, 1) := by decide +kernel
theorem dX3_read_106 : decode cX3_read 106 = .ok (.getfield 15, 3) := by decide +kernel
theorem dX3_read_109 : decode cX3_read 109 = .ok (.iload 4, 2) := by decide +kernel
theorem dX3_read_111 : decode cX3_read 111 = .ok (.iaload, 1) := by decide +kernel
theorem dX3_read_112 : decode cX3_read 112 = .ok (.isub, 1) := by decide +kernel
theorem dX3_read_113 : decode cX3_read 113 = .ok (.invokestatic 26, 3) := by decide +kernel
theorem dX3_read_116 : decode cX3_read 116 = .ok (.ldiv, 1) := by decide +kernel
theorem dX3_read_117 : decode cX3_read 117 = .ok (.lastore, 1) := by decide +kernel
theorem dX3_read_118 : decode cX3_read 118 = .ok (.iinc 4 (-1), 3) := by decide +kernel
theorem dX3_read_121 : decode cX3_read 121 = .ok (.goto (-88), 3) := by decide +kernel
theorem dX3_read_124 : decode cX3_read 124 = .ok (.aload_n 0, 1) := by decide +kernel
theorem dX3_read_125 : decode cX3_read 125 = .ok (.getfield 15, 3) := by decide +kernel
theorem dX3_read_128 : decode cX3_read 128 = .ok (.iconst 0, 1) := by decide +kernel
theorem dX3_read_129 : decode cX3_read 129 = .ok (.iaload, 1) := by decide +kernel
theorem dX3_read_130 : decode cX3_read 130 = .ok (.iload_n 3, 1) := by decide +kernel
theorem dX3_read_131 : decode cX3_read 131 = .ok (.if_icmp .eq 5, 3) := by decide +kernel
theorem dX3_read_134 : decode cX3_read 134 = .ok (.iconst 0, 1) := by decide +kernel
theorem dX3_read_135 : decode cX3_read 135 = .ok (.ireturn, 1) := by decide +kernel
theorem dX3_read_136 : decode cX3_read 136 = .ok (.aload_n 0, 1) := by decide +kernel
theorem dX3_read_137 : decode cX3_read 137 = .ok (.iload_n 3, 1) := by decide +kernel
theorem dX3_read_138 : decode cX3_read 138 = .ok (.putfield 22, 3) := by decide +kernel
theorem dX3_read_141 : decode cX3_read 141 = .ok (.iconst 1, 1) := by decide +kernel
theorem dX3_read_142 : decode cX3_read 142 = .ok (.ireturn, 1) := by decide +kernel
theorem dX3_endOfNode_0 : decode cX3_endOfNode 0 = .ok (.aload_n 0, 1) := by decide +kernel
theorem dX3_endOfNode_1 : decode cX3_endOfNode 1 = .ok (.getfield 9, 3) := by decide +kernel
theorem dX3_endOfNode_4 : decode cX3_endOfNode 4 = .ok (.iload_n 1, 1) := by decide +kernel
theorem dX3_endOfNode_5 : decode cX3_endOfNode 5 = .ok (.iaload, 1) := by decide +kernel
theorem dX3_endOfNode_6 : decode cX3_endOfNode 6 = .ok (.istore_n 3, 1) := by decide +kernel
theorem dX3_endOfNode_7 : decode cX3_endOfNode 7 = .ok (.iload_n 3, 1) := by decide +kernel
theorem dX3_endOfNode_8 : decode cX3_endOfNode 8 = .ok (.iconst 1, 1) := by decide +kernel
theorem dX3_endOfNode_9 : decode cX3_endOfNode 9 = .ok (.if_icmp .lt 12, 3) := by decide +kernel
theorem dX3_endOfNode_12 : decode cX3_endOfNode 12 = .ok (.iload_n 3, 1) := by decide +kernel
theorem dX3_endOfNode_13 : decode cX3_endOfNode 13 = .ok (.iconst 5, 1) := by decide +kernel
theorem dX3_endOfNode_14 : decode cX3_endOfNode 14 = .ok (.if_icmp .gt 7, 3) := by decide +kernel
theorem dX3_endOfNode_17 : decode cX3_endOfNode 17 = .ok (.iload_n 1, 1) := by decide +kernel
theorem dX3_endOfNode_18 : decode cX3_endOfNode 18 = .ok (.iconst 1, 1) := by decide +kernel
theorem dX3_endOfNode_19 : decode cX3_endOfNode 19 = .ok (.iadd, 1) := by decide +kernel
theorem dX3_endOfNode_20 : decode cX3_endOfNode 20 = .ok (.ireturn, 1) := by decide +kernel
theorem dX3_endOfNode_21 : decode cX3_endOfNode 21 = .ok (.iload_n 1, 1) := by decide +kernel
theorem dX3_endOfNode_22 : decode cX3_endOfNode 22 = .ok (.iconst 1, 1) := by decide +kernel
theorem dX3_endOfNode_23 : decode cX3_endOfNode 23 = .ok (.iadd, 1) := by decide +kernel
theorem dX3_endOfNode_24 : decode cX3_endOfNode 24 = .ok (.istore 4, 2) := by decide +kernel
theorem dX3_endOfNode_26 : decode cX3_endOfNode 26 = .ok (.iload 4, 2) := by decide +kernel
theorem dX3_endOfNode_28 : decode cX3_endOfNode 28 = .ok (.iload_n 2, 1) := by decide +kernel
theorem dX3_endOfNode_29 : decode cX3_endOfNode 29 = .ok (.if_icmp .ge 15, 3) := by decide +kernel
theorem dX3_endOfNode_32 : decode cX3_endOfNode 32 = .ok (.iload_n 3, 1) := by decide +kernel
theorem dX3_endOfNode_33 : decode cX3_endOfNode 33 = .ok (.bipush 6, 2) := by decide +kernel
theorem dX3_endOfNode_35 : decode cX3_endOfNode 35 = .ok (.if_icmp .lt 9, 3) := by decide +kernel
theorem dX3_endOfNode_38 : decode cX3_endOfNode 38 = .ok (.iload_n 3, 1) := by decide +kernel
theorem dX3_endOfNode_39 : decode cX3_endOfNode 39 = .ok (.bipush 8, 2) := by decide +kernel
theorem dX3_endOfNode_41 : decode cX3_endOfNode 41 = .ok (.if_icmp .le 7, 3) := by decide +kernel
theorem dX3_endOfNode_44 : decode cX3_endOfNode 44 = .ok (.iload_n 2, 1) := by decide +kernel
theorem dX3_endOfNode_45 : decode cX3_endOfNode 45 = .ok (.iconst 1, 1) := by decide +kernel
theorem dX3_endOfNode_46 : decode cX3_endOfNode 46 = .ok (.iadd, 1) := by decide +kernel
theorem dX3_endOfNode_47 : decode cX3_endOfNode 47 = .ok (.ireturn, 1) := by decide +kernel
theorem dX3_endOfNode_48 : decode cX3_endOfNode 48 = .ok (.aload_n 0, 1) := by decide +kernel
theorem dX3_endOfNode_49 : decode cX3_endOfNode 49 = .ok (.getfield 15, 3) := by decide +kernel
theorem dX3_endOfNode_52 : decode cX3_endOfNode 52 = .ok (.iload 4, 2) := by decide +kernel
theorem dX3_endOfNode_54 : decode cX3_endOfNode 54 = .ok (.iaload, 1) := by decide +kernel
theorem dX3_endOfNode_55 : decode cX3_endOfNode 55 = .ok (.istore 5, 2) := by decide +kernel
theorem dX3_endOfNode_57 : decode cX3_endOfNode 57 = .ok (.iload_n 3, 1) := by decide +kernel
theorem dX3_endOfNode_58 : decode cX3_endOfNode 58 = .ok (.bipush 8, 2) := by decide +kernel
theorem dX3_endOfNode_60 : decode cX3_endOfNode 60 = .ok (.if_icmp .ne 6, 3) := by decide +kernel
theorem dX3_endOfNode_63 : decode cX3_endOfNode 63 = .ok (.iload 5, 2) := by decide +kernel
theorem dX3_endOfNode_65 : decode cX3_endOfNode 65 = .ok (.ireturn, 1) := by decide +kernel
theorem dX3_endOfNode_66 : decode cX3_endOfNode 66 = .ok (.iload 5, 2) := by decide +kernel
theorem dX3_endOfNode_68 : decode cX3_endOfNode 68 = .ok (.iload_n 2, 1) := by decide +kernel
theorem dX3_endOfNode_69 : decode cX3_endOfNode 69 = .ok (.if_icmp .ge 13, 3) := by decide +kernel
theorem dX3_endOfNode_72 : decode cX3_endOfNode 72 = .ok (.aload_n 0, 1) := by decide +kernel
theorem dX3_endOfNode_73 : decode cX3_endOfNode 73 = .ok (.getfield 15, 3) := by decide +kernel
theorem dX3_endOfNode_76 : decode cX3_endOfNode 76 = .ok (.iload 5, 2) := by decide +kernel
theorem dX3_endOfNode_78 : decode cX3_endOfNode 78 = .ok (.iaload, 1) := by decide +kernel
theorem dX3_endOfNode_79 : decode cX3_endOfNode 79 = .ok (.goto 6, 3) := by decide +kernel
theorem dX3_endOfNode_82 : decode cX3_endOfNode 82 = .ok (.iload_n 2, 1) := by decide +kernel
theorem dX3_endOfNode_83 : decode cX3_endOfNode 83 = .ok (.iconst 1, 1) := by decide +kernel
theorem dX3_endOfNode_84 : decode cX3_endOfNode 84 = .ok (.iadd, 1) := by decide +kernel
theorem dX3_endOfNode_85 : decode cX3_endOfNode 85 = .ok (.ireturn, 1) := by decide +kernel
theorem dX3_nodeCount_0 : decode cX3_nodeCount 0 = .ok (.aload_n 0, 1) := by decide +kernel
theorem dX3_nodeCount_1 : decode cX3_nodeCount 1 = .ok (.getfield 22, 3) := by decide +kernel
theorem dX3_nodeCount_4 : decode cX3_nodeCount 4 = .ok (.ireturn, 1) := by decide +kernel
theorem dX3_has_0 : decode cX3_has 0 = .ok (.iload_n 1, 1) := by decide +kernel
theorem dX3_has_1 : decode cX3_has 1 = .ok (.ifCond .lt 15, 3) := by decide +kernel
theorem dX3_has_4 : decode cX3_has 4 = .ok (.iload_n 1, 1) := by decide +kernel
theorem dX3_has_5 : decode cX3_has 5 = .ok (.aload_n 0, 1) := by decide +kernel
theorem dX3_has_6 : decode cX3_has 6 = .ok (.getfield 22, 3) := by decide +kernel
theorem dX3_has_9 : decode cX3_has 9 = .ok (.if_icmp .ge 7, 3) := by decide +kernel
theorem dX3_has_12 : decode cX3_has 12 = .ok (.iconst 1, 1) := by decide +kernel
theorem dX3_has_13 : decode cX3_has 13 = .ok (.goto 4, 3) := by decide +kernel
theorem dX3_has_16 : decode cX3_has 16 = .ok (.iconst 0, 1) := by decide +kernel
theorem dX3_has_17 : decode cX3_has 17 = .ok (.ireturn, 1) := by decide +kernel
theorem dX3_kindAt_0 : decode cX3_kindAt 0 = .ok (.iload_n 1, 1) := by decide +kernel
theorem dX3_kindAt_1 : decode cX3_kindAt 1 = .ok (.ifCond .lt 20, 3) := by decide +kernel
theorem dX3_kindAt_4 : decode cX3_kindAt 4 = .ok (.iload_n 1, 1) := by decide +kernel
theorem dX3_kindAt_5 : decode cX3_kindAt 5 = .ok (.aload_n 0, 1) := by decide +kernel
theorem dX3_kindAt_6 : decode cX3_kindAt 6 = .ok (.getfield 22, 3) := by decide +kernel
theorem dX3_kindAt_9 : decode cX3_kindAt 9 = .ok (.if_icmp .ge 12, 3) := by decide +kernel
theorem dX3_kindAt_12 : decode cX3_kindAt 12 = .ok (.aload_n 0, 1) := by decide +kernel
theorem dX3_kindAt_13 : decode cX3_kindAt 13 = .ok (.getfield 9, 3) := by decide +kernel
theorem dX3_kindAt_16 : decode cX3_kindAt 16 = .ok (.iload_n 1, 1) := by decide +kernel
theorem dX3_kindAt_17 : decode cX3_kindAt 17 = .ok (.iaload, 1) := by decide +kernel
theorem dX3_kindAt_18 : decode cX3_kindAt 18 = .ok (.goto 4, 3) := by decide +kernel
theorem dX3_kindAt_21 : decode cX3_kindAt 21 = .ok (.iconst 0, 1) := by decide +kernel
theorem dX3_kindAt_22 : decode cX3_kindAt 22 = .ok (.ireturn, 1) := by decide +kernel
theorem dX3_codeAt_0 : decode cX3_codeAt 0 = .ok (.iload_n 1, 1) := by decide +kernel
theorem dX3_codeAt_1 : decode cX3_codeAt 1 = .ok (.ifCond .lt 20, 3) := by decide +kernel
theorem dX3_codeAt_4 : decode cX3_codeAt 4 = .ok (.iload_n 1, 1) := by decide +kernel
theorem dX3_codeAt_5 : decode cX3_codeAt 5 = .ok (.aload_n 0, 1) := by decide +kernel
theorem dX3_codeAt_6 : decode cX3_codeAt 6 = .ok (.getfield 22, 3) := by decide +kernel
theorem dX3_codeAt_9 : decode cX3_codeAt 9 = .ok (.if_icmp .ge 12, 3) := by decide +kernel
theorem dX3_codeAt_12 : decode cX3_codeAt 12 = .ok (.aload_n 0, 1) := by decide +kernel
theorem dX3_codeAt_13 : decode cX3_codeAt 13 = .ok (.getfield 18, 3) := by decide +kernel
theorem dX3_codeAt_16 : decode cX3_codeAt 16 = .ok (.iload_n 1, 1) := by decide +kernel
theorem dX3_codeAt_17 : decode cX3_codeAt 17 = .ok (.laload, 1) := by decide +kernel
theorem dX3_codeAt_18 : decode cX3_codeAt 18 = .ok (.goto 4, 3) := by decide +kernel
theorem dX3_codeAt_21 : decode cX3_codeAt 21 = .ok (.lconst 0, 1) := by decide +kernel
theorem dX3_codeAt_22 : decode cX3_codeAt 22 = .ok (.lreturn, 1) := by decide +kernel
theorem dX3_leftOf_0 : decode cX3_leftOf 0 = .ok (.iload_n 1, 1) := by decide +kernel
theorem dX3_leftOf_1 : decode cX3_leftOf 1 = .ok (.iconst 1, 1) := by decide +kernel
theorem dX3_leftOf_2 : decode cX3_leftOf 2 = .ok (.iadd, 1) := by decide +kernel
theorem dX3_leftOf_3 : decode cX3_leftOf 3 = .ok (.ireturn, 1) := by decide +kernel
theorem dX3_rightOf_0 : decode cX3_rightOf 0 = .ok (.iload_n 1, 1) := by decide +kernel
theorem dX3_rightOf_1 : decode cX3_rightOf 1 = .ok (.iconst (-1), 1) := by decide +kernel
theorem dX3_rightOf_2 : decode cX3_rightOf 2 = .ok (.if_icmp .lt 24, 3) := by decide +kernel
theorem dX3_rightOf_5 : decode cX3_rightOf 5 = .ok (.iload_n 1, 1) := by decide +kernel
theorem dX3_rightOf_6 : decode cX3_rightOf 6 = .ok (.aload_n 0, 1) := by decide +kernel
theorem dX3_rightOf_7 : decode cX3_rightOf 7 = .ok (.getfield 22, 3) := by decide +kernel
theorem dX3_rightOf_10 : decode cX3_rightOf 10 = .ok (.iconst 1, 1) := by decide +kernel
theorem dX3_rightOf_11 : decode cX3_rightOf 11 = .ok (.isub, 1) := by decide +kernel
theorem dX3_rightOf_12 : decode cX3_rightOf 12 = .ok (.if_icmp .ge 14, 3) := by decide +kernel
theorem dX3_rightOf_15 : decode cX3_rightOf 15 = .ok (.aload_n 0, 1) := by decide +kernel
theorem dX3_rightOf_16 : decode cX3_rightOf 16 = .ok (.getfield 15, 3) := by decide +kernel
theorem dX3_rightOf_19 : decode cX3_rightOf 19 = .ok (.iload_n 1, 1) := by decide +kernel
theorem dX3_rightOf_20 : decode cX3_rightOf 20 = .ok (.iconst 1, 1) := by decide +kernel
theorem dX3_rightOf_21 : decode cX3_rightOf 21 = .ok (.iadd, 1) := by decide +kernel
theorem dX3_rightOf_22 : decode cX3_rightOf 22 = .ok (.iaload, 1) := by decide +kernel
theorem dX3_rightOf_23 : decode cX3_rightOf 23 = .ok (.goto 7, 3) := by decide +kernel
theorem dX3_rightOf_26 : decode cX3_rightOf 26 = .ok (.aload_n 0, 1) := by decide +kernel
theorem dX3_rightOf_27 : decode cX3_rightOf 27 = .ok (.getfield 22, 3) := by decide +kernel
theorem dX3_rightOf_30 : decode cX3_rightOf 30 = .ok (.ireturn, 1) := by decide +kernel
theorem dX3_starredAt_0 : decode cX3_starredAt 0 = .ok (.iload_n 1, 1) := by decide +kernel
theorem dX3_starredAt_1 : decode cX3_starredAt 1 = .ok (.ifCond .lt 28, 3) := by decide +kernel
theorem dX3_starredAt_4 : decode cX3_starredAt 4 = .ok (.iload_n 1, 1) := by decide +kernel
theorem dX3_starredAt_5 : decode cX3_starredAt 5 = .ok (.aload_n 0, 1) := by decide +kernel
theorem dX3_starredAt_6 : decode cX3_starredAt 6 = .ok (.getfield 22, 3) := by decide +kernel
theorem dX3_starredAt_9 : decode cX3_starredAt 9 = .ok (.iconst 1, 1) := by decide +kernel
theorem dX3_starredAt_10 : decode cX3_starredAt 10 = .ok (.isub, 1) := by decide +kernel
theorem dX3_starredAt_11 : decode cX3_starredAt 11 = .ok (.if_icmp .ge 18, 3) := by decide +kernel
theorem dX3_starredAt_14 : decode cX3_starredAt 14 = .ok (.aload_n 0, 1) := by decide +kernel
theorem dX3_starredAt_15 : decode cX3_starredAt 15 = .ok (.getfield 9, 3) := by decide +kernel
theorem dX3_starredAt_18 : decode cX3_starredAt 18 = .ok (.iload_n 1, 1) := by decide +kernel
theorem dX3_starredAt_19 : decode cX3_starredAt 19 = .ok (.iaload, 1) := by decide +kernel
theorem dX3_starredAt_20 : decode cX3_starredAt 20 = .ok (.bipush 8, 2) := by decide +kernel
theorem dX3_starredAt_22 : decode cX3_starredAt 22 = .ok (.if_icmp .ne 7, 3) := by decide +kernel
theorem dX3_starredAt_25 : decode cX3_starredAt 25 = .ok (.iconst 1, 1) := by decide +kernel
theorem dX3_starredAt_26 : decode cX3_starredAt 26 = .ok (.goto 4, 3) := by decide +kernel
theorem dX3_starredAt_29 : decode cX3_starredAt 29 = .ok (.iconst 0, 1) := by decide +kernel
theorem dX3_starredAt_30 : decode cX3_starredAt 30 = .ok (.istore_n 2, 1) := by decide +kernel
theorem dX3_starredAt_31 : decode cX3_starredAt 31 = .ok (.iload_n 2, 1) := by decide +kernel
theorem dX3_starredAt_32 : decode cX3_starredAt 32 = .ok (.ifCond .eq 14, 3) := by decide +kernel
theorem dX3_starredAt_35 : decode cX3_starredAt 35 = .ok (.aload_n 0, 1) := by decide +kernel
theorem dX3_starredAt_36 : decode cX3_starredAt 36 = .ok (.getfield 18, 3) := by decide +kernel
theorem dX3_starredAt_39 : decode cX3_starredAt 39 = .ok (.iload_n 1, 1) := by decide +kernel
theorem dX3_starredAt_40 : decode cX3_starredAt 40 = .ok (.iconst 1, 1) := by decide +kernel
theorem dX3_starredAt_41 : decode cX3_starredAt 41 = .ok (.iadd, 1) := by decide +kernel
theorem dX3_starredAt_42 : decode cX3_starredAt 42 = .ok (.laload, 1) := by decide +kernel
theorem dX3_starredAt_43 : decode cX3_starredAt 43 = .ok (.goto 4, 3) := by decide +kernel
theorem dX3_starredAt_46 : decode cX3_starredAt 46 = .ok (.lconst 0, 1) := by decide +kernel
theorem dX3_starredAt_47 : decode cX3_starredAt 47 = .ok (.lreturn, 1) := by decide +kernel
set_option maxRecDepth 20000 in
theorem ggX3_deepestStars_X3_starsAround : GoodIn wsX3_deepestStars wsX3_starsAround := goodIn_r _ [10, 1, 11, 12, 13, 14, 15, 16] rfl (by decide +kernel)
set_option maxRecDepth 20000 in
theorem gX3_deepestStars_X3_starsAround : GoodIn wsX3_deepestStars (wsV RX3 40 RX3 yX3_starsAround wsX3_starsAround) := goodIn_app (goodIn_of _ (by decide +kernel)) ggX3_deepestStars_X3_starsAround
theorem dX3_deepestStars_0 : decode cX3_deepestStars 0 = .ok (.iconst 0, 1) := by decide +kernel
theorem dX3_deepestStars_1 : decode cX3_deepestStars 1 = .ok (.istore_n 1, 1) := by decide +kernel
theorem dX3_deepestStars_2 : decode cX3_deepestStars 2 = .ok (.iconst 0, 1) := by decide +kernel
theorem dX3_deepestStars_3 : decode cX3_deepestStars 3 = .ok (.istore_n 2, 1) := by decide +kernel
theorem dX3_deepestStars_4 : decode cX3_deepestStars 4 = .ok (.iload_n 2, 1) := by decide +kernel
theorem dX3_deepestStars_5 : decode cX3_deepestStars 5 = .ok (.aload_n 0, 1) := by decide +kernel
theorem dX3_deepestStars_6 : decode cX3_deepestStars 6 = .ok (.getfield 22, 3) := by decide +kernel
theorem dX3_deepestStars_9 : decode cX3_deepestStars 9 = .ok (.if_icmp .ge 19, 3) := by decide +kernel
theorem dX3_deepestStars_12 : decode cX3_deepestStars 12 = .ok (.iload_n 1, 1) := by decide +kernel
theorem dX3_deepestStars_13 : decode cX3_deepestStars 13 = .ok (.aload_n 0, 1) := by decide +kernel
theorem dX3_deepestStars_14 : decode cX3_deepestStars 14 = .ok (.iload_n 2, 1) := by decide +kernel
theorem dX3_deepestStars_15 : decode cX3_deepestStars 15 = .ok (.invokevirtual 40, 3) := by decide +kernel
theorem dX3_deepestStars_18 : decode cX3_deepestStars 18 = .ok (.invokestatic 44, 3) := by decide +kernel
theorem dX3_deepestStars_21 : decode cX3_deepestStars 21 = .ok (.istore_n 1, 1) := by decide +kernel
theorem dX3_deepestStars_22 : decode cX3_deepestStars 22 = .ok (.iinc 2 1, 3) := by decide +kernel
theorem dX3_deepestStars_25 : decode cX3_deepestStars 25 = .ok (.goto (-21), 3) := by decide +kernel
theorem dX3_deepestStars_28 : decode cX3_deepestStars 28 = .ok (.iload_n 1, 1) := by decide +kernel
theorem dX3_deepestStars_29 : decode cX3_deepestStars 29 = .ok (.ireturn, 1) := by decide +kernel
theorem dX3_starsAround_0 : decode cX3_starsAround 0 = .ok (.iconst 0, 1) := by decide +kernel
theorem dX3_starsAround_1 : decode cX3_starsAround 1 = .ok (.istore_n 2, 1) := by decide +kernel
theorem dX3_starsAround_2 : decode cX3_starsAround 2 = .ok (.iconst 0, 1) := by decide +kernel
theorem dX3_starsAround_3 : decode cX3_starsAround 3 = .ok (.istore_n 3, 1) := by decide +kernel
theorem dX3_starsAround_4 : decode cX3_starsAround 4 = .ok (.iload_n 3, 1) := by decide +kernel
theorem dX3_starsAround_5 : decode cX3_starsAround 5 = .ok (.iload_n 1, 1) := by decide +kernel
theorem dX3_starsAround_6 : decode cX3_starsAround 6 = .ok (.if_icmp .gt 41, 3) := by decide +kernel
theorem dX3_starsAround_9 : decode cX3_starsAround 9 = .ok (.iload_n 3, 1) := by decide +kernel
theorem dX3_starsAround_10 : decode cX3_starsAround 10 = .ok (.aload_n 0, 1) := by decide +kernel
theorem dX3_starsAround_11 : decode cX3_starsAround 11 = .ok (.getfield 22, 3) := by decide +kernel
theorem dX3_starsAround_14 : decode cX3_starsAround 14 = .ok (.if_icmp .ge 33, 3) := by decide +kernel
theorem dX3_starsAround_17 : decode cX3_starsAround 17 = .ok (.aload_n 0, 1) := by decide +kernel
theorem dX3_starsAround_18 : decode cX3_starsAround 18 = .ok (.getfield 9, 3) := by decide +kernel
theorem dX3_starsAround_21 : decode cX3_starsAround 21 = .ok (.iload_n 3, 1) := by decide +kernel
theorem dX3_starsAround_22 : decode cX3_starsAround 22 = .ok (.iaload, 1) := by decide +kernel
theorem dX3_starsAround_23 : decode cX3_starsAround 23 = .ok (.bipush 8, 2) := by decide +kernel
theorem dX3_starsAround_25 : decode cX3_starsAround 25 = .ok (.if_icmp .ne 16, 3) := by decide +kernel
theorem dX3_starsAround_28 : decode cX3_starsAround 28 = .ok (.aload_n 0, 1) := by decide +kernel
theorem dX3_starsAround_29 : decode cX3_starsAround 29 = .ok (.getfield 15, 3) := by decide +kernel
theorem dX3_starsAround_32 : decode cX3_starsAround 32 = .ok (.iload_n 3, 1) := by decide +kernel
theorem dX3_starsAround_33 : decode cX3_starsAround 33 = .ok (.iaload, 1) := by decide +kernel
theorem dX3_starsAround_34 : decode cX3_starsAround 34 = .ok (.iload_n 1, 1) := by decide +kernel
theorem dX3_starsAround_35 : decode cX3_starsAround 35 = .ok (.if_icmp .le 6, 3) := by decide +kernel
theorem dX3_starsAround_38 : decode cX3_starsAround 38 = .ok (.iinc 2 1, 3) := by decide +kernel
theorem dX3_starsAround_41 : decode cX3_starsAround 41 = .ok (.iinc 3 1, 3) := by decide +kernel
theorem dX3_starsAround_44 : decode cX3_starsAround 44 = .ok (.goto (-40), 3) := by decide +kernel
theorem dX3_starsAround_47 : decode cX3_starsAround 47 = .ok (.iload_n 2, 1) := by decide +kernel
theorem dX3_starsAround_48 : decode cX3_starsAround 48 = .ok (.ireturn, 1) := by decide +kernel
set_option maxRecDepth 20000 in
theorem ggX3_withReplaced_X1_powerOfTen : GoodIn wsX3_withReplaced wsX1_powerOfTen := goodIn_r _ [7, 8] rfl (by decide +kernel)
set_option maxRecDepth 20000 in
theorem gX3_withReplaced_X1_powerOfTen : GoodIn wsX3_withReplaced (va_wsS RX3 26 yX1_powerOfTen wsX1_powerOfTen) := goodIn_app (goodIn_of _ (by decide +kernel)) ggX3_withReplaced_X1_powerOfTen
set_option maxRecDepth 20000 in
theorem ggX3_withReplaced_X1_append : GoodIn wsX3_withReplaced wsX1_append := goodIn_r _ [11, 12] rfl (by decide +kernel)
set_option maxRecDepth 20000 in
theorem gX3_withReplaced_X1_append : GoodIn wsX3_withReplaced (va_wsS RX3 49 yX1_append wsX1_append) := goodIn_app (goodIn_of _ (by decide +kernel)) ggX3_withReplaced_X1_append
theorem dX3_withReplaced_0 : decode cX3_withReplaced 0 = .ok (.iload_n 1, 1) := by decide +kernel
theorem dX3_withReplaced_1 : decode cX3_withReplaced 1 = .ok (.ifCond .lt 11, 3) := by decide +kernel
theorem dX3_withReplaced_4 : decode cX3_withReplaced 4 = .ok (.iload_n 1, 1) := by decide +kernel
theorem dX3_withReplaced_5 : decode cX3_withReplaced 5 = .ok (.aload_n 0, 1) := by decide +kernel
theorem dX3_withReplaced_6 : decode cX3_withReplaced 6 = .ok (.getfield 22, 3) := by decide +kernel
theorem dX3_withReplaced_9 : decode cX3_withReplaced 9 = .ok (.if_icmp .lt 5, 3) := by decide +kernel
theorem dX3_withReplaced_12 : decode cX3_withReplaced 12 = .ok (.lconst 0, 1) := by decide +kernel
theorem dX3_withReplaced_13 : decode cX3_withReplaced 13 = .ok (.lreturn, 1) := by decide +kernel
theorem dX3_withReplaced_14 : decode cX3_withReplaced 14 = .ok (.aload_n 0, 1) := by decide +kernel
theorem dX3_withReplaced_15 : decode cX3_withReplaced 15 = .ok (.getfield 22, 3) := by decide +kernel
theorem dX3_withReplaced_18 : decode cX3_withReplaced 18 = .ok (.aload_n 0, 1) := by decide +kernel
theorem dX3_withReplaced_19 : decode cX3_withReplaced 19 = .ok (.getfield 15, 3) := by decide +kernel
theorem dX3_withReplaced_22 : decode cX3_withReplaced 22 = .ok (.iload_n 1, 1) := by decide +kernel
theorem dX3_withReplaced_23 : decode cX3_withReplaced 23 = .ok (.iaload, 1) := by decide +kernel
theorem dX3_withReplaced_24 : decode cX3_withReplaced 24 = .ok (.isub, 1) := by decide +kernel
theorem dX3_withReplaced_25 : decode cX3_withReplaced 25 = .ok (.istore 4, 2) := by decide +kernel
theorem dX3_withReplaced_27 : decode cX3_withReplaced 27 = .ok (.aload_n 0, 1) := by decide +kernel
theorem dX3_withReplaced_28 : decode cX3_withReplaced 28 = .ok (.getfield 18, 3) := by decide +kernel
theorem dX3_withReplaced_31 : decode cX3_withReplaced 31 = .ok (.iconst 0, 1) := by decide +kernel
theorem dX3_withReplaced_32 : decode cX3_withReplaced 32 = .ok (.laload, 1) := by decide +kernel
theorem dX3_withReplaced_33 : decode cX3_withReplaced 33 = .ok (.aload_n 0, 1) := by decide +kernel
theorem dX3_withReplaced_34 : decode cX3_withReplaced 34 = .ok (.getfield 22, 3) := by decide +kernel
theorem dX3_withReplaced_37 : decode cX3_withReplaced 37 = .ok (.iload_n 1, 1) := by decide +kernel
theorem dX3_withReplaced_38 : decode cX3_withReplaced 38 = .ok (.isub, 1) := by decide +kernel
theorem dX3_withReplaced_39 : decode cX3_withReplaced 39 = .ok (.invokestatic 26, 3) := by decide +kernel
theorem dX3_withReplaced_42 : decode cX3_withReplaced 42 = .ok (.ldiv, 1) := by decide +kernel
theorem dX3_withReplaced_43 : decode cX3_withReplaced 43 = .ok (.lstore 5, 2) := by decide +kernel
theorem dX3_withReplaced_45 : decode cX3_withReplaced 45 = .ok (.aload_n 0, 1) := by decide +kernel
theorem dX3_withReplaced_46 : decode cX3_withReplaced 46 = .ok (.getfield 18, 3) := by decide +kernel
theorem dX3_withReplaced_49 : decode cX3_withReplaced 49 = .ok (.iconst 0, 1) := by decide +kernel
theorem dX3_withReplaced_50 : decode cX3_withReplaced 50 = .ok (.laload, 1) := by decide +kernel
theorem dX3_withReplaced_51 : decode cX3_withReplaced 51 = .ok (.iload 4, 2) := by decide +kernel
theorem dX3_withReplaced_53 : decode cX3_withReplaced 53 = .ok (.invokestatic 26, 3) := by decide +kernel
theorem dX3_withReplaced_56 : decode cX3_withReplaced 56 = .ok (.lrem, 1) := by decide +kernel
theorem dX3_withReplaced_57 : decode cX3_withReplaced 57 = .ok (.lstore 7, 2) := by decide +kernel
theorem dX3_withReplaced_59 : decode cX3_withReplaced 59 = .ok (.lload 5, 2) := by decide +kernel
theorem dX3_withReplaced_61 : decode cX3_withReplaced 61 = .ok (.lload_n 2, 1) := by decide +kernel
theorem dX3_withReplaced_62 : decode cX3_withReplaced 62 = .ok (.invokestatic 49, 3) := by decide +kernel
theorem dX3_withReplaced_65 : decode cX3_withReplaced 65 = .ok (.iload 4, 2) := by decide +kernel
theorem dX3_withReplaced_67 : decode cX3_withReplaced 67 = .ok (.invokestatic 26, 3) := by decide +kernel
theorem dX3_withReplaced_70 : decode cX3_withReplaced 70 = .ok (.lmul, 1) := by decide +kernel
theorem dX3_withReplaced_71 : decode cX3_withReplaced 71 = .ok (.lload 7, 2) := by decide +kernel
theorem dX3_withReplaced_73 : decode cX3_withReplaced 73 = .ok (.ladd, 1) := by decide +kernel
theorem dX3_withReplaced_74 : decode cX3_withReplaced 74 = .ok (.lreturn, 1) := by decide +kernel
set_option maxRecDepth 20000 in
theorem ggX4_fits_X4_replacement : GoodIn wsX4_fits wsX4_replacement := goodIn_r _ [4, 5, 6, 7, 8, 9, 10, 11, 12, 13, 14, 15, 16, 17, 18, 19, 20, 21, 22, 23, 3, 24, 25, 26, 27, 28, 29, 30, 31, 32, 33, 34, 35, 36, 37, 38, 39, 40, 41, 42, 43, 44, 45, 46, 47, 48, 49, 50, 51, 52, 53, 54, 55, 56, 57, 58, 59, 60, 61, 62, 63, 64, 65, 66, 67, 68, 69, 70, 71, 72, 73, 74, 75, 76, 77, 78, 79, 80, 81, 82, 83, 84, 85, 86, 87, 88, 89, 90, 91, 92, 93, 94, 95, 96, 97, 98, 99, 100] rfl (by decide +kernel)
set_option maxRecDepth 20000 in
theorem gX4_fits_X4_replacement : GoodIn wsX4_fits (va_wsS RX4 9 yX4_replacement wsX4_replacement) := goodIn_app (goodIn_of _ (by decide +kernel)) ggX4_fits_X4_replacement
theorem dX4_fits_0 : decode cX4_fits 0 = .ok (.aload_n 0, 1) := by decide +kernel
theorem dX4_fits_1 : decode cX4_fits 1 = .ok (.iload_n 1, 1) := by decide +kernel
theorem dX4_fits_2 : decode cX4_fits 2 = .ok (.iload_n 2, 1) := by decide +kernel
theorem dX4_fits_3 : decode cX4_fits 3 = .ok (.invokestatic 9, 3) := by decide +kernel
theorem dX4_fits_6 : decode cX4_fits 6 = .ok (.lconst 0, 1) := by decide +kernel
theorem dX4_fits_7 : decode cX4_fits 7 = .ok (.lcmp, 1) := by decide +kernel
theorem dX4_fits_8 : decode cX4_fits 8 = .ok (.ifCond .eq 7, 3) := by decide +kernel
theorem dX4_fits_11 : decode cX4_fits 11 = .ok (.iconst 1, 1) := by decide +kernel
theorem dX4_fits_12 : decode cX4_fits 12 = .ok (.goto 4, 3) := by decide +kernel
theorem dX4_fits_15 : decode cX4_fits 15 = .ok (.iconst 0, 1) := by decide +kernel
theorem dX4_fits_16 : decode cX4_fits 16 = .ok (.ireturn, 1) := by decide +kernel
set_option maxRecDepth 20000 in
theorem ggX4_firstFittingPosition_X3_nodeCount : GoodIn wsX4_firstFittingPosition wsX3_nodeCount := goodIn_r _ [5, 6, 104, 105, 106, 107] rfl (by decide +kernel)
set_option maxRecDepth 20000 in
theorem gX4_firstFittingPosition_X3_nodeCount : GoodIn wsX4_firstFittingPosition (wsV RX4 15 RX3 yX3_nodeCount wsX3_nodeCount) := goodIn_app (goodIn_of _ (by decide +kernel)) ggX4_firstFittingPosition_X3_nodeCount
set_option maxRecDepth 20000 in
theorem ggX4_firstFittingPosition_X4_firstFittingRule : GoodIn wsX4_firstFittingPosition wsX4_firstFittingRule := goodIn_r _ [10, 11, 12, 9, 13, 14, 15, 16, 17, 4, 18, 6, 19, 20, 21, 22, 23, 24, 25, 26, 27, 28, 29, 30, 31, 32, 33, 34, 35, 36, 37, 38, 39, 40, 41, 42, 43, 44, 45, 46, 47, 48, 49, 50, 51, 52, 53, 54, 55, 56, 57, 58, 59, 60, 61, 62, 63, 64, 65, 66, 67, 68, 69, 70, 71, 72, 73, 74, 75, 76, 77, 78, 79, 80, 81, 82, 83, 84, 85, 86, 87, 88, 89, 90, 91, 92, 93, 94, 95, 96, 97, 98, 99, 100, 101, 102, 103, 104, 105, 106, 107] rfl (by decide +kernel)
set_option maxRecDepth 20000 in
theorem gX4_firstFittingPosition_X4_firstFittingRule : GoodIn wsX4_firstFittingPosition (va_wsS RX4 21 yX4_firstFittingRule wsX4_firstFittingRule) := goodIn_app (goodIn_of _ (by decide +kernel)) ggX4_firstFittingPosition_X4_firstFittingRule
theorem dX4_firstFittingPosition_0 : decode cX4_firstFittingPosition 0 = .ok (.iconst 0, 1) := by decide +kernel
theorem dX4_firstFittingPosition_1 : decode cX4_firstFittingPosition 1 = .ok (.istore_n 1, 1) := by decide +kernel
theorem dX4_firstFittingPosition_2 : decode cX4_firstFittingPosition 2 = .ok (.iload_n 1, 1) := by decide +kernel
theorem dX4_firstFittingPosition_3 : decode cX4_firstFittingPosition 3 = .ok (.aload_n 0, 1) := by decide +kernel
theorem dX4_firstFittingPosition_4 : decode cX4_firstFittingPosition 4 = .ok (.invokevirtual 15, 3) := by decide +kernel
theorem dX4_firstFittingPosition_7 : decode cX4_firstFittingPosition 7 = .ok (.if_icmp .ge 21, 3) := by decide +kernel
theorem dX4_firstFittingPosition_10 : decode cX4_firstFittingPosition 10 = .ok (.aload_n 0, 1) := by decide +kernel
theorem dX4_firstFittingPosition_11 : decode cX4_firstFittingPosition 11 = .ok (.iload_n 1, 1) := by decide +kernel
theorem dX4_firstFittingPosition_12 : decode cX4_firstFittingPosition 12 = .ok (.invokestatic 21, 3) := by decide +kernel
theorem dX4_firstFittingPosition_15 : decode cX4_firstFittingPosition 15 = .ok (.bipush (-9), 2) := by decide +kernel
theorem dX4_firstFittingPosition_17 : decode cX4_firstFittingPosition 17 = .ok (.if_icmp .eq 5, 3) := by decide +kernel
theorem dX4_firstFittingPosition_20 : decode cX4_firstFittingPosition 20 = .ok (.iload_n 1, 1) := by decide +kernel
theorem dX4_firstFittingPosition_21 : decode cX4_firstFittingPosition 21 = .ok (.ireturn, 1) := by decide +kernel
theorem dX4_firstFittingPosition_22 : decode cX4_firstFittingPosition 22 = .ok (.iinc 1 1, 3) := by decide +kernel
theorem dX4_firstFittingPosition_25 : decode cX4_firstFittingPosition 25 = .ok (.goto (-23), 3) := by decide +kernel
theorem dX4_firstFittingPosition_28 : decode cX4_firstFittingPosition 28 = .ok (.bipush (-9), 2) := by decide +kernel
theorem dX4_firstFittingPosition_30 : decode cX4_firstFittingPosition 30 = .ok (.ireturn, 1) := by decide +kernel
set_option maxRecDepth 20000 in
theorem ggX4_firstFittingRule_X4_replacement : GoodIn wsX4_firstFittingRule wsX4_replacement := goodIn_r _ [4, 5, 6, 7, 8, 9, 10, 11, 12, 13, 14, 15, 16, 17, 18, 19, 20, 21, 22, 23, 3, 24, 25, 26, 27, 28, 29, 30, 31, 32, 33, 34, 35, 36, 37, 38, 39, 40, 41, 42, 43, 44, 45, 46, 47, 48, 49, 50, 51, 52, 53, 54, 55, 56, 57, 58, 59, 60, 61, 62, 63, 64, 65, 66, 67, 68, 69, 70, 71, 72, 73, 74, 75, 76, 77, 78, 79, 80, 81, 82, 83, 84, 85, 86, 87, 88, 89, 90, 91, 92, 93, 94, 95, 96, 97, 98, 99, 100] rfl (by decide +kernel)
set_option maxRecDepth 20000 in
theorem gX4_firstFittingRule_X4_replacement : GoodIn wsX4_firstFittingRule (va_wsS RX4 9 yX4_replacement wsX4_replacement) := goodIn_app (goodIn_of _ (by decide +kernel)) ggX4_firstFittingRule_X4_replacement
theorem dX4_firstFittingRule_0 : decode cX4_firstFittingRule 0 = .ok (.iconst 0, 1) := by decide +kernel
theorem dX4_firstFittingRule_1 : decode cX4_firstFittingRule 1 = .ok (.istore_n 2, 1) := by decide +kernel
theorem dX4_firstFittingRule_2 : decode cX4_firstFittingRule 2 = .ok (.iload_n 2, 1) := by decide +kernel
theorem dX4_firstFittingRule_3 : decode cX4_firstFittingRule 3 = .ok (.bipush 16, 2) := by decide +kernel
theorem dX4_firstFittingRule_5 : decode cX4_firstFittingRule 5 = .ok (.if_icmp .ge 22, 3) := by decide +kernel
theorem dX4_firstFittingRule_8 : decode cX4_firstFittingRule 8 = .ok (.aload_n 0, 1) := by decide +kernel
theorem dX4_firstFittingRule_9 : decode cX4_firstFittingRule 9 = .ok (.iload_n 2, 1) := by decide +kernel
theorem dX4_firstFittingRule_10 : decode cX4_firstFittingRule 10 = .ok (.iload_n 1, 1) := by decide +kernel
theorem dX4_firstFittingRule_11 : decode cX4_firstFittingRule 11 = .ok (.invokestatic 9, 3) := by decide +kernel
theorem dX4_firstFittingRule_14 : decode cX4_firstFittingRule 14 = .ok (.lconst 0, 1) := by decide +kernel
theorem dX4_firstFittingRule_15 : decode cX4_firstFittingRule 15 = .ok (.lcmp, 1) := by decide +kernel
theorem dX4_firstFittingRule_16 : decode cX4_firstFittingRule 16 = .ok (.ifCond .eq 5, 3) := by decide +kernel
theorem dX4_firstFittingRule_19 : decode cX4_firstFittingRule 19 = .ok (.iload_n 2, 1) := by decide +kernel
theorem dX4_firstFittingRule_20 : decode cX4_firstFittingRule 20 = .ok (.ireturn, 1) := by decide +kernel
theorem dX4_firstFittingRule_21 : decode cX4_firstFittingRule 21 = .ok (.iinc 2 1, 3) := by decide +kernel
theorem dX4_firstFittingRule_24 : decode cX4_firstFittingRule 24 = .ok (.goto (-22), 3) := by decide +kernel
theorem dX4_firstFittingRule_27 : decode cX4_firstFittingRule 27 = .ok (.bipush (-9), 2) := by decide +kernel
theorem dX4_firstFittingRule_29 : decode cX4_firstFittingRule 29 = .ok (.ireturn, 1) := by decide +kernel
set_option maxRecDepth 20000 in
theorem ggX4_replacement_X3_kindAt : GoodIn wsX4_replacement wsX3_kindAt := goodIn_r _ [6, 7, 8, 94, 95, 96, 97] rfl (by decide +kernel)
set_option maxRecDepth 20000 in
theorem gX4_replacement_X3_kindAt : GoodIn wsX4_replacement (wsV RX4 29 RX3 yX3_kindAt wsX3_kindAt) := goodIn_app (goodIn_of _ (by decide +kernel)) ggX4_replacement_X3_kindAt
set_option maxRecDepth 20000 in
theorem ggX4_replacement_X3_leftOf : GoodIn wsX4_replacement wsX3_leftOf := goodIn_r _ [12] rfl (by decide +kernel)
set_option maxRecDepth 20000 in
theorem gX4_replacement_X3_leftOf : GoodIn wsX4_replacement (wsV RX4 33 RX3 yX3_leftOf wsX3_leftOf) := goodIn_app (goodIn_of _ (by decide +kernel)) ggX4_replacement_X3_leftOf
set_option maxRecDepth 20000 in
theorem ggX4_replacement_X3_rightOf : GoodIn wsX4_replacement wsX3_rightOf := goodIn_r _ [16, 7, 17, 94, 95, 96, 97] rfl (by decide +kernel)
set_option maxRecDepth 20000 in
theorem gX4_replacement_X3_rightOf : GoodIn wsX4_replacement (wsV RX4 36 RX3 yX3_rightOf wsX3_rightOf) := goodIn_app (goodIn_of _ (by decide +kernel)) ggX4_replacement_X3_rightOf
set_option maxRecDepth 20000 in
theorem ggX4_replacement_X4_besideUnit : GoodIn wsX4_replacement wsX4_besideUnit := goodIn_r _ [21, 22, 23, 24, 5, 25, 7, 26, 94, 95, 96, 97] rfl (by decide +kernel)
set_option maxRecDepth 20000 in
theorem gX4_replacement_X4_besideUnit : GoodIn wsX4_replacement (va_wsS RX4 39 yX4_besideUnit wsX4_besideUnit) := goodIn_app (goodIn_of _ (by decide +kernel)) ggX4_replacement_X4_besideUnit
set_option maxRecDepth 20000 in
theorem ggX4_replacement_X4_concatenatedEmptySet : GoodIn wsX4_replacement wsX4_concatenatedEmptySet := goodIn_r _ [29, 22, 23, 24, 5, 25, 7, 26, 94, 95, 96, 97] rfl (by decide +kernel)
set_option maxRecDepth 20000 in
theorem gX4_replacement_X4_concatenatedEmptySet : GoodIn wsX4_replacement (va_wsS RX4 43 yX4_concatenatedEmptySet wsX4_concatenatedEmptySet) := goodIn_app (goodIn_of _ (by decide +kernel)) ggX4_replacement_X4_concatenatedEmptySet
set_option maxRecDepth 20000 in
theorem ggX4_replacement_X4_starOfNothing : GoodIn wsX4_replacement wsX4_starOfNothing := goodIn_r _ [32, 33, 22, 23, 24, 5, 25, 7, 26, 94, 95, 96, 97] rfl (by decide +kernel)
set_option maxRecDepth 20000 in
theorem gX4_replacement_X4_starOfNothing : GoodIn wsX4_replacement (va_wsS RX4 46 yX4_starOfNothing wsX4_starOfNothing) := goodIn_app (goodIn_of _ (by decide +kernel)) ggX4_replacement_X4_starOfNothing
set_option maxRecDepth 20000 in
theorem ggX4_replacement_X4_unionOfSame : GoodIn wsX4_replacement wsX4_unionOfSame := goodIn_r _ [36, 22, 23, 24, 5, 25, 7, 26, 94, 95, 96, 97] rfl (by decide +kernel)
set_option maxRecDepth 20000 in
theorem gX4_replacement_X4_unionOfSame : GoodIn wsX4_replacement (va_wsS RX4 50 yX4_unionOfSame wsX4_unionOfSame) := goodIn_app (goodIn_of _ (by decide +kernel)) ggX4_replacement_X4_unionOfSame
set_option maxRecDepth 20000 in
theorem ggX4_replacement_X4_starOfStar : GoodIn wsX4_replacement wsX4_starOfStar := goodIn_r _ [39, 2, 3, 4, 5, 6, 7, 8, 22, 23, 24, 25, 26, 94, 95, 96, 97] rfl (by decide +kernel)
set_option maxRecDepth 20000 in
theorem gX4_replacement_X4_starOfStar : GoodIn wsX4_replacement (va_wsS RX4 53 yX4_starOfStar wsX4_starOfStar) := goodIn_app (goodIn_of _ (by decide +kernel)) ggX4_replacement_X4_starOfStar
set_option maxRecDepth 20000 in
theorem ggX4_replacement_X4_starOfOptional : GoodIn wsX4_replacement wsX4_starOfOptional := goodIn_r _ [42, 2, 3, 4, 5, 6, 7, 8, 9, 10, 11, 12, 13, 14, 15, 16, 17, 18, 19, 20, 21, 22, 23, 24, 25, 26, 43, 44, 45, 46, 47, 48, 49, 50, 51, 94, 95, 96, 97] rfl (by decide +kernel)
set_option maxRecDepth 20000 in
theorem gX4_replacement_X4_starOfOptional : GoodIn wsX4_replacement (va_wsS RX4 56 yX4_starOfOptional wsX4_starOfOptional) := goodIn_app (goodIn_of _ (by decide +kernel)) ggX4_replacement_X4_starOfOptional
set_option maxRecDepth 20000 in
theorem ggX4_replacement_X4_sameStarTwice : GoodIn wsX4_replacement wsX4_sameStarTwice := goodIn_r _ [54, 22, 23, 24, 5, 25, 7, 26, 2, 3, 4, 6, 8, 94, 95, 96, 97] rfl (by decide +kernel)
set_option maxRecDepth 20000 in
theorem gX4_replacement_X4_sameStarTwice : GoodIn wsX4_replacement (va_wsS RX4 59 yX4_sameStarTwice wsX4_sameStarTwice) := goodIn_app (goodIn_of _ (by decide +kernel)) ggX4_replacement_X4_sameStarTwice
set_option maxRecDepth 20000 in
theorem ggX4_replacement_X4_starOrEmptyWord : GoodIn wsX4_replacement wsX4_starOrEmptyWord := goodIn_r _ [57, 33, 22, 23, 24, 5, 25, 7, 26, 2, 3, 4, 6, 8, 94, 95, 96, 97] rfl (by decide +kernel)
set_option maxRecDepth 20000 in
theorem gX4_replacement_X4_starOrEmptyWord : GoodIn wsX4_replacement (va_wsS RX4 62 yX4_starOrEmptyWord wsX4_starOrEmptyWord) := goodIn_app (goodIn_of _ (by decide +kernel)) ggX4_replacement_X4_starOrEmptyWord
set_option maxRecDepth 20000 in
theorem ggX4_replacement_X4_besideItsStar : GoodIn wsX4_replacement wsX4_besideItsStar := goodIn_r _ [60, 61, 62, 63, 5, 64, 7, 8, 26, 22, 23, 24, 25, 94, 95, 96, 97] rfl (by decide +kernel)
set_option maxRecDepth 20000 in
theorem gX4_replacement_X4_besideItsStar : GoodIn wsX4_replacement (va_wsS RX4 65 yX4_besideItsStar wsX4_besideItsStar) := goodIn_app (goodIn_of _ (by decide +kernel)) ggX4_replacement_X4_besideItsStar
set_option maxRecDepth 20000 in
theorem ggX4_replacement_X4_sharedFront : GoodIn wsX4_replacement wsX4_sharedFront := goodIn_r _ [67, 9, 10, 11, 5, 12, 22, 23, 24, 25, 7, 26, 68, 69, 20, 70, 2, 3, 4, 6, 8, 13, 14, 15, 16, 17, 71, 72, 45, 73, 74, 48, 49, 50, 51, 75, 76, 77, 78, 94, 95, 96, 97] rfl (by decide +kernel)
set_option maxRecDepth 20000 in
theorem gX4_replacement_X4_sharedFront : GoodIn wsX4_replacement (va_wsS RX4 68 yX4_sharedFront wsX4_sharedFront) := goodIn_app (goodIn_of _ (by decide +kernel)) ggX4_replacement_X4_sharedFront
set_option maxRecDepth 20000 in
theorem ggX4_replacement_X4_sharedBack : GoodIn wsX4_replacement wsX4_sharedBack := goodIn_r _ [81, 13, 14, 15, 5, 16, 7, 17, 22, 23, 24, 25, 26, 68, 69, 20, 70, 2, 3, 4, 6, 8, 9, 10, 11, 12, 71, 72, 45, 73, 74, 48, 49, 50, 51, 75, 76, 77, 78, 94, 95, 96, 97] rfl (by decide +kernel)
set_option maxRecDepth 20000 in
theorem gX4_replacement_X4_sharedBack : GoodIn wsX4_replacement (va_wsS RX4 71 yX4_sharedBack wsX4_sharedBack) := goodIn_app (goodIn_of _ (by decide +kernel)) ggX4_replacement_X4_sharedBack
set_option maxRecDepth 20000 in
theorem ggX4_replacement_X4_optionalRepetition : GoodIn wsX4_replacement wsX4_optionalRepetition := goodIn_r _ [84, 33, 22, 23, 24, 5, 25, 7, 26, 2, 3, 4, 6, 8, 9, 10, 11, 12, 13, 14, 15, 16, 17, 58, 59, 20, 60, 61, 62, 63, 64, 94, 95, 96, 97] rfl (by decide +kernel)
set_option maxRecDepth 20000 in
theorem gX4_replacement_X4_optionalRepetition : GoodIn wsX4_replacement (va_wsS RX4 74 yX4_optionalRepetition wsX4_optionalRepetition) := goodIn_app (goodIn_of _ (by decide +kernel)) ggX4_replacement_X4_optionalRepetition
set_option maxRecDepth 20000 in
theorem ggX4_replacement_X4_starOfUnionWithStar : GoodIn wsX4_replacement wsX4_starOfUnionWithStar := goodIn_r _ [87, 2, 3, 4, 5, 6, 7, 8, 9, 10, 11, 12, 13, 14, 15, 16, 17, 61, 62, 63, 64, 26, 22, 23, 24, 25, 71, 72, 45, 73, 74, 48, 49, 50, 51, 43, 44, 46, 47, 94, 95, 96, 97] rfl (by decide +kernel)
set_option maxRecDepth 20000 in
theorem gX4_replacement_X4_starOfUnionWithStar : GoodIn wsX4_replacement (va_wsS RX4 77 yX4_starOfUnionWithStar wsX4_starOfUnionWithStar) := goodIn_app (goodIn_of _ (by decide +kernel)) ggX4_replacement_X4_starOfUnionWithStar
set_option maxRecDepth 20000 in
theorem ggX4_replacement_X4_starOfTwoStars : GoodIn wsX4_replacement wsX4_starOfTwoStars := goodIn_r _ [90, 2, 3, 4, 5, 6, 7, 8, 9, 10, 11, 12, 61, 62, 63, 64, 26, 13, 14, 15, 16, 17, 71, 72, 45, 73, 74, 48, 49, 50, 51, 43, 44, 46, 47, 94, 95, 96, 97] rfl (by decide +kernel)
set_option maxRecDepth 20000 in
theorem gX4_replacement_X4_starOfTwoStars : GoodIn wsX4_replacement (va_wsS RX4 80 yX4_starOfTwoStars wsX4_starOfTwoStars) := goodIn_app (goodIn_of _ (by decide +kernel)) ggX4_replacement_X4_starOfTwoStars
set_option maxRecDepth 20000 in
theorem ggX4_replacement_X4_repeatedInInnerUnion : GoodIn wsX4_replacement wsX4_repeatedInInnerUnion := goodIn_r _ [93, 2, 3, 4, 5, 6, 7, 8, 22, 23, 24, 25, 26, 9, 10, 11, 12, 13, 14, 15, 16, 17, 71, 72, 45, 73, 74, 48, 49, 50, 51, 94, 95, 96, 97] rfl (by decide +kernel)
set_option maxRecDepth 20000 in
theorem gX4_replacement_X4_repeatedInInnerUnion : GoodIn wsX4_replacement (va_wsS RX4 83 yX4_repeatedInInnerUnion wsX4_repeatedInInnerUnion) := goodIn_app (goodIn_of _ (by decide +kernel)) ggX4_replacement_X4_repeatedInInnerUnion
theorem dX4_replacement_0 : decode cX4_replacement 0 = .ok (.iload_n 1, 1) := by decide +kernel
theorem dX4_replacement_1 : decode cX4_replacement 1 = .ok (.ifCond .lt 15, 3) := by decide +kernel
theorem dX4_replacement_4 : decode cX4_replacement 4 = .ok (.iload_n 1, 1) := by decide +kernel
theorem dX4_replacement_5 : decode cX4_replacement 5 = .ok (.getstatic 25, 3) := by decide +kernel
theorem dX4_replacement_8 : decode cX4_replacement 8 = .ok (.arraylength, 1) := by decide +kernel
theorem dX4_replacement_9 : decode cX4_replacement 9 = .ok (.if_icmp .ge 7, 3) := by decide +kernel
theorem dX4_replacement_12 : decode cX4_replacement 12 = .ok (.iconst 1, 1) := by decide +kernel
theorem dX4_replacement_13 : decode cX4_replacement 13 = .ok (.goto 4, 3) := by decide +kernel
theorem dX4_replacement_16 : decode cX4_replacement 16 = .ok (.iconst 0, 1) := by decide +kernel
theorem dX4_replacement_17 : decode cX4_replacement 17 = .ok (.istore_n 3, 1) := by decide +kernel
theorem dX4_replacement_18 : decode cX4_replacement 18 = .ok (.iload_n 3, 1) := by decide +kernel
theorem dX4_replacement_19 : decode cX4_replacement 19 = .ok (.ifCond .eq 16, 3) := by decide +kernel
theorem dX4_replacement_22 : decode cX4_replacement 22 = .ok (.aload_n 0, 1) := by decide +kernel
theorem dX4_replacement_23 : decode cX4_replacement 23 = .ok (.iload_n 2, 1) := by decide +kernel
theorem dX4_replacement_24 : decode cX4_replacement 24 = .ok (.invokevirtual 29, 3) := by decide +kernel
theorem dX4_replacement_27 : decode cX4_replacement 27 = .ok (.getstatic 25, 3) := by decide +kernel
theorem dX4_replacement_30 : decode cX4_replacement 30 = .ok (.iload_n 1, 1) := by decide +kernel
theorem dX4_replacement_31 : decode cX4_replacement 31 = .ok (.iaload, 1) := by decide +kernel
theorem dX4_replacement_32 : decode cX4_replacement 32 = .ok (.if_icmp .eq 5, 3) := by decide +kernel
theorem dX4_replacement_35 : decode cX4_replacement 35 = .ok (.lconst 0, 1) := by decide +kernel
theorem dX4_replacement_36 : decode cX4_replacement 36 = .ok (.lreturn, 1) := by decide +kernel
theorem dX4_replacement_37 : decode cX4_replacement 37 = .ok (.aload_n 0, 1) := by decide +kernel
theorem dX4_replacement_38 : decode cX4_replacement 38 = .ok (.iload_n 2, 1) := by decide +kernel
theorem dX4_replacement_39 : decode cX4_replacement 39 = .ok (.invokevirtual 33, 3) := by decide +kernel
theorem dX4_replacement_42 : decode cX4_replacement 42 = .ok (.istore 4, 2) := by decide +kernel
theorem dX4_replacement_44 : decode cX4_replacement 44 = .ok (.aload_n 0, 1) := by decide +kernel
theorem dX4_replacement_45 : decode cX4_replacement 45 = .ok (.iload_n 2, 1) := by decide +kernel
theorem dX4_replacement_46 : decode cX4_replacement 46 = .ok (.invokevirtual 36, 3) := by decide +kernel
theorem dX4_replacement_49 : decode cX4_replacement 49 = .ok (.istore 5, 2) := by decide +kernel
theorem dX4_replacement_51 : decode cX4_replacement 51 = .ok (.iload_n 1, 1) := by decide +kernel
theorem dX4_replacement_52 : decode cX4_replacement 52 = .ok (.tableswitch 216 0 15 #[80, 90, 99, 109, 116, 125, 132, 139, 148, 157, 166, 175, 184, 193, 200, 207], 80) := by decide +kernel
theorem dX4_replacement_132 : decode cX4_replacement 132 = .ok (.aload_n 0, 1) := by decide +kernel
theorem dX4_replacement_133 : decode cX4_replacement 133 = .ok (.iconst 1, 1) := by decide +kernel
theorem dX4_replacement_134 : decode cX4_replacement 134 = .ok (.iload 4, 2) := by decide +kernel
theorem dX4_replacement_136 : decode cX4_replacement 136 = .ok (.iload 5, 2) := by decide +kernel
theorem dX4_replacement_138 : decode cX4_replacement 138 = .ok (.invokestatic 39, 3) := by decide +kernel
theorem dX4_replacement_141 : decode cX4_replacement 141 = .ok (.lreturn, 1) := by decide +kernel
theorem dX4_replacement_142 : decode cX4_replacement 142 = .ok (.aload_n 0, 1) := by decide +kernel
theorem dX4_replacement_143 : decode cX4_replacement 143 = .ok (.iload 4, 2) := by decide +kernel
theorem dX4_replacement_145 : decode cX4_replacement 145 = .ok (.iload 5, 2) := by decide +kernel
theorem dX4_replacement_147 : decode cX4_replacement 147 = .ok (.invokestatic 43, 3) := by decide +kernel
theorem dX4_replacement_150 : decode cX4_replacement 150 = .ok (.lreturn, 1) := by decide +kernel
theorem dX4_replacement_151 : decode cX4_replacement 151 = .ok (.aload_n 0, 1) := by decide +kernel
theorem dX4_replacement_152 : decode cX4_replacement 152 = .ok (.iconst 2, 1) := by decide +kernel
theorem dX4_replacement_153 : decode cX4_replacement 153 = .ok (.iload 4, 2) := by decide +kernel
theorem dX4_replacement_155 : decode cX4_replacement 155 = .ok (.iload 5, 2) := by decide +kernel
theorem dX4_replacement_157 : decode cX4_replacement 157 = .ok (.invokestatic 39, 3) := by decide +kernel
theorem dX4_replacement_160 : decode cX4_replacement 160 = .ok (.lreturn, 1) := by decide +kernel
theorem dX4_replacement_161 : decode cX4_replacement 161 = .ok (.aload_n 0, 1) := by decide +kernel
theorem dX4_replacement_162 : decode cX4_replacement 162 = .ok (.iload 4, 2) := by decide +kernel
theorem dX4_replacement_164 : decode cX4_replacement 164 = .ok (.invokestatic 46, 3) := by decide +kernel
theorem dX4_replacement_167 : decode cX4_replacement 167 = .ok (.lreturn, 1) := by decide +kernel
theorem dX4_replacement_168 : decode cX4_replacement 168 = .ok (.aload_n 0, 1) := by decide +kernel
theorem dX4_replacement_169 : decode cX4_replacement 169 = .ok (.iload 4, 2) := by decide +kernel
theorem dX4_replacement_171 : decode cX4_replacement 171 = .ok (.iload 5, 2) := by decide +kernel
theorem dX4_replacement_173 : decode cX4_replacement 173 = .ok (.invokestatic 50, 3) := by decide +kernel
theorem dX4_replacement_176 : decode cX4_replacement 176 = .ok (.lreturn, 1) := by decide +kernel
theorem dX4_replacement_177 : decode cX4_replacement 177 = .ok (.aload_n 0, 1) := by decide +kernel
theorem dX4_replacement_178 : decode cX4_replacement 178 = .ok (.iload 4, 2) := by decide +kernel
theorem dX4_replacement_180 : decode cX4_replacement 180 = .ok (.invokestatic 53, 3) := by decide +kernel
theorem dX4_replacement_183 : decode cX4_replacement 183 = .ok (.lreturn, 1) := by decide +kernel
theorem dX4_replacement_184 : decode cX4_replacement 184 = .ok (.aload_n 0, 1) := by decide +kernel
theorem dX4_replacement_185 : decode cX4_replacement 185 = .ok (.iload 4, 2) := by decide +kernel
theorem dX4_replacement_187 : decode cX4_replacement 187 = .ok (.invokestatic 56, 3) := by decide +kernel
theorem dX4_replacement_190 : decode cX4_replacement 190 = .ok (.lreturn, 1) := by decide +kernel
theorem dX4_replacement_191 : decode cX4_replacement 191 = .ok (.aload_n 0, 1) := by decide +kernel
theorem dX4_replacement_192 : decode cX4_replacement 192 = .ok (.iload 4, 2) := by decide +kernel
theorem dX4_replacement_194 : decode cX4_replacement 194 = .ok (.iload 5, 2) := by decide +kernel
theorem dX4_replacement_196 : decode cX4_replacement 196 = .ok (.invokestatic 59, 3) := by decide +kernel
theorem dX4_replacement_199 : decode cX4_replacement 199 = .ok (.lreturn, 1) := by decide +kernel
theorem dX4_replacement_200 : decode cX4_replacement 200 = .ok (.aload_n 0, 1) := by decide +kernel
theorem dX4_replacement_201 : decode cX4_replacement 201 = .ok (.iload 4, 2) := by decide +kernel
theorem dX4_replacement_203 : decode cX4_replacement 203 = .ok (.iload 5, 2) := by decide +kernel
theorem dX4_replacement_205 : decode cX4_replacement 205 = .ok (.invokestatic 62, 3) := by decide +kernel
theorem dX4_replacement_208 : decode cX4_replacement 208 = .ok (.lreturn, 1) := by decide +kernel
theorem dX4_replacement_209 : decode cX4_replacement 209 = .ok (.aload_n 0, 1) := by decide +kernel
theorem dX4_replacement_210 : decode cX4_replacement 210 = .ok (.iload 4, 2) := by decide +kernel
theorem dX4_replacement_212 : decode cX4_replacement 212 = .ok (.iload 5, 2) := by decide +kernel
theorem dX4_replacement_214 : decode cX4_replacement 214 = .ok (.invokestatic 65, 3) := by decide +kernel
theorem dX4_replacement_217 : decode cX4_replacement 217 = .ok (.lreturn, 1) := by decide +kernel
theorem dX4_replacement_218 : decode cX4_replacement 218 = .ok (.aload_n 0, 1) := by decide +kernel
theorem dX4_replacement_219 : decode cX4_replacement 219 = .ok (.iload 4, 2) := by decide +kernel
theorem dX4_replacement_221 : decode cX4_replacement 221 = .ok (.iload 5, 2) := by decide +kernel
theorem dX4_replacement_223 : decode cX4_replacement 223 = .ok (.invokestatic 68, 3) := by decide +kernel
theorem dX4_replacement_226 : decode cX4_replacement 226 = .ok (.lreturn, 1) := by decide +kernel
theorem dX4_replacement_227 : decode cX4_replacement 227 = .ok (.aload_n 0, 1) := by decide +kernel
theorem dX4_replacement_228 : decode cX4_replacement 228 = .ok (.iload 4, 2) := by decide +kernel
theorem dX4_replacement_230 : decode cX4_replacement 230 = .ok (.iload 5, 2) := by decide +kernel
theorem dX4_replacement_232 : decode cX4_replacement 232 = .ok (.invokestatic 71, 3) := by decide +kernel
theorem dX4_replacement_235 : decode cX4_replacement 235 = .ok (.lreturn, 1) := by decide +kernel
theorem dX4_replacement_236 : decode cX4_replacement 236 = .ok (.aload_n 0, 1) := by decide +kernel
theorem dX4_replacement_237 : decode cX4_replacement 237 = .ok (.iload 4, 2) := by decide +kernel
theorem dX4_replacement_239 : decode cX4_replacement 239 = .ok (.iload 5, 2) := by decide +kernel
theorem dX4_replacement_241 : decode cX4_replacement 241 = .ok (.invokestatic 74, 3) := by decide +kernel
theorem dX4_replacement_244 : decode cX4_replacement 244 = .ok (.lreturn, 1) := by decide +kernel
theorem dX4_replacement_245 : decode cX4_replacement 245 = .ok (.aload_n 0, 1) := by decide +kernel
theorem dX4_replacement_246 : decode cX4_replacement 246 = .ok (.iload 4, 2) := by decide +kernel
theorem dX4_replacement_248 : decode cX4_replacement 248 = .ok (.invokestatic 77, 3) := by decide +kernel
theorem dX4_replacement_251 : decode cX4_replacement 251 = .ok (.lreturn, 1) := by decide +kernel
theorem dX4_replacement_252 : decode cX4_replacement 252 = .ok (.aload_n 0, 1) := by decide +kernel
theorem dX4_replacement_253 : decode cX4_replacement 253 = .ok (.iload 4, 2) := by decide +kernel
theorem dX4_replacement_255 : decode cX4_replacement 255 = .ok (.invokestatic 80, 3) := by decide +kernel
theorem dX4_replacement_258 : decode cX4_replacement 258 = .ok (.lreturn, 1) := by decide +kernel
theorem dX4_replacement_259 : decode cX4_replacement 259 = .ok (.aload_n 0, 1) := by decide +kernel
theorem dX4_replacement_260 : decode cX4_replacement 260 = .ok (.iload 4, 2) := by decide +kernel
theorem dX4_replacement_262 : decode cX4_replacement 262 = .ok (.iload 5, 2) := by decide +kernel
theorem dX4_replacement_264 : decode cX4_replacement 264 = .ok (.invokestatic 83, 3) := by decide +kernel
theorem dX4_replacement_267 : decode cX4_replacement 267 = .ok (.lreturn, 1) := by decide +kernel
theorem dX4_replacement_268 : decode cX4_replacement 268 = .ok (.lconst 0, 1) := by decide +kernel
theorem dX4_replacement_269 : decode cX4_replacement 269 = .ok (.lreturn, 1) := by decide +kernel
set_option maxRecDepth 20000 in
theorem ggX4_besideUnit_X3_codeAt : GoodIn wsX4_besideUnit wsX3_codeAt := goodIn_r _ [5, 6, 7, 8, 9, 10, 11] rfl (by decide +kernel)
set_option maxRecDepth 20000 in
theorem gX4_besideUnit_X3_codeAt : GoodIn wsX4_besideUnit (wsV RX4 86 RX3 yX3_codeAt wsX3_codeAt) := goodIn_app (goodIn_of _ (by decide +kernel)) ggX4_besideUnit_X3_codeAt
theorem dX4_besideUnit_0 : decode cX4_besideUnit 0 = .ok (.aload_n 0, 1) := by decide +kernel
theorem dX4_besideUnit_1 : decode cX4_besideUnit 1 = .ok (.iload_n 2, 1) := by decide +kernel
theorem dX4_besideUnit_2 : decode cX4_besideUnit 2 = .ok (.invokevirtual 86, 3) := by decide +kernel
theorem dX4_besideUnit_5 : decode cX4_besideUnit 5 = .ok (.iload_n 1, 1) := by decide +kernel
theorem dX4_besideUnit_6 : decode cX4_besideUnit 6 = .ok (.i2l, 1) := by decide +kernel
theorem dX4_besideUnit_7 : decode cX4_besideUnit 7 = .ok (.lcmp, 1) := by decide +kernel
theorem dX4_besideUnit_8 : decode cX4_besideUnit 8 = .ok (.ifCond .ne 9, 3) := by decide +kernel
theorem dX4_besideUnit_11 : decode cX4_besideUnit 11 = .ok (.aload_n 0, 1) := by decide +kernel
theorem dX4_besideUnit_12 : decode cX4_besideUnit 12 = .ok (.iload_n 3, 1) := by decide +kernel
theorem dX4_besideUnit_13 : decode cX4_besideUnit 13 = .ok (.invokevirtual 86, 3) := by decide +kernel
theorem dX4_besideUnit_16 : decode cX4_besideUnit 16 = .ok (.lreturn, 1) := by decide +kernel
theorem dX4_besideUnit_17 : decode cX4_besideUnit 17 = .ok (.aload_n 0, 1) := by decide +kernel
theorem dX4_besideUnit_18 : decode cX4_besideUnit 18 = .ok (.iload_n 3, 1) := by decide +kernel
theorem dX4_besideUnit_19 : decode cX4_besideUnit 19 = .ok (.invokevirtual 86, 3) := by decide +kernel
theorem dX4_besideUnit_22 : decode cX4_besideUnit 22 = .ok (.iload_n 1, 1) := by decide +kernel
theorem dX4_besideUnit_23 : decode cX4_besideUnit 23 = .ok (.i2l, 1) := by decide +kernel
theorem dX4_besideUnit_24 : decode cX4_besideUnit 24 = .ok (.lcmp, 1) := by decide +kernel
theorem dX4_besideUnit_25 : decode cX4_besideUnit 25 = .ok (.ifCond .ne 11, 3) := by decide +kernel
theorem dX4_besideUnit_28 : decode cX4_besideUnit 28 = .ok (.aload_n 0, 1) := by decide +kernel
theorem dX4_besideUnit_29 : decode cX4_besideUnit 29 = .ok (.iload_n 2, 1) := by decide +kernel
theorem dX4_besideUnit_30 : decode cX4_besideUnit 30 = .ok (.invokevirtual 86, 3) := by decide +kernel
theorem dX4_besideUnit_33 : decode cX4_besideUnit 33 = .ok (.goto 4, 3) := by decide +kernel
theorem dX4_besideUnit_36 : decode cX4_besideUnit 36 = .ok (.lconst 0, 1) := by decide +kernel
theorem dX4_besideUnit_37 : decode cX4_besideUnit 37 = .ok (.lreturn, 1) := by decide +kernel
set_option maxRecDepth 20000 in
theorem ggX4_concatenatedEmptySet_X3_codeAt : GoodIn wsX4_concatenatedEmptySet wsX3_codeAt := goodIn_r _ [5, 6, 7, 8, 9, 10, 11] rfl (by decide +kernel)
set_option maxRecDepth 20000 in
theorem gX4_concatenatedEmptySet_X3_codeAt : GoodIn wsX4_concatenatedEmptySet (wsV RX4 86 RX3 yX3_codeAt wsX3_codeAt) := goodIn_app (goodIn_of _ (by decide +kernel)) ggX4_concatenatedEmptySet_X3_codeAt
theorem dX4_concatenatedEmptySet_0 : decode cX4_concatenatedEmptySet 0 = .ok (.aload_n 0, 1) := by decide +kernel
theorem dX4_concatenatedEmptySet_1 : decode cX4_concatenatedEmptySet 1 = .ok (.iload_n 1, 1) := by decide +kernel
theorem dX4_concatenatedEmptySet_2 : decode cX4_concatenatedEmptySet 2 = .ok (.invokevirtual 86, 3) := by decide +kernel
theorem dX4_concatenatedEmptySet_5 : decode cX4_concatenatedEmptySet 5 = .ok (.lconst 1, 1) := by decide +kernel
theorem dX4_concatenatedEmptySet_6 : decode cX4_concatenatedEmptySet 6 = .ok (.lcmp, 1) := by decide +kernel
theorem dX4_concatenatedEmptySet_7 : decode cX4_concatenatedEmptySet 7 = .ok (.ifCond .eq 13, 3) := by decide +kernel
theorem dX4_concatenatedEmptySet_10 : decode cX4_concatenatedEmptySet 10 = .ok (.aload_n 0, 1) := by decide +kernel
theorem dX4_concatenatedEmptySet_11 : decode cX4_concatenatedEmptySet 11 = .ok (.iload_n 2, 1) := by decide +kernel
theorem dX4_concatenatedEmptySet_12 : decode cX4_concatenatedEmptySet 12 = .ok (.invokevirtual 86, 3) := by decide +kernel
theorem dX4_concatenatedEmptySet_15 : decode cX4_concatenatedEmptySet 15 = .ok (.lconst 1, 1) := by decide +kernel
theorem dX4_concatenatedEmptySet_16 : decode cX4_concatenatedEmptySet 16 = .ok (.lcmp, 1) := by decide +kernel
theorem dX4_concatenatedEmptySet_17 : decode cX4_concatenatedEmptySet 17 = .ok (.ifCond .ne 7, 3) := by decide +kernel
theorem dX4_concatenatedEmptySet_20 : decode cX4_concatenatedEmptySet 20 = .ok (.iconst 1, 1) := by decide +kernel
theorem dX4_concatenatedEmptySet_21 : decode cX4_concatenatedEmptySet 21 = .ok (.goto 4, 3) := by decide +kernel
theorem dX4_concatenatedEmptySet_24 : decode cX4_concatenatedEmptySet 24 = .ok (.iconst 0, 1) := by decide +kernel
theorem dX4_concatenatedEmptySet_25 : decode cX4_concatenatedEmptySet 25 = .ok (.istore_n 3, 1) := by decide +kernel
theorem dX4_concatenatedEmptySet_26 : decode cX4_concatenatedEmptySet 26 = .ok (.iload_n 3, 1) := by decide +kernel
theorem dX4_concatenatedEmptySet_27 : decode cX4_concatenatedEmptySet 27 = .ok (.ifCond .eq 7, 3) := by decide +kernel
theorem dX4_concatenatedEmptySet_30 : decode cX4_concatenatedEmptySet 30 = .ok (.lconst 1, 1) := by decide +kernel
theorem dX4_concatenatedEmptySet_31 : decode cX4_concatenatedEmptySet 31 = .ok (.goto 4, 3) := by decide +kernel
theorem dX4_concatenatedEmptySet_34 : decode cX4_concatenatedEmptySet 34 = .ok (.lconst 0, 1) := by decide +kernel
theorem dX4_concatenatedEmptySet_35 : decode cX4_concatenatedEmptySet 35 = .ok (.lreturn, 1) := by decide +kernel
set_option maxRecDepth 20000 in
theorem ggX4_starOfNothing_X3_codeAt : GoodIn wsX4_starOfNothing wsX3_codeAt := goodIn_r _ [6, 7, 8, 9, 10, 11, 12] rfl (by decide +kernel)
set_option maxRecDepth 20000 in
theorem gX4_starOfNothing_X3_codeAt : GoodIn wsX4_starOfNothing (wsV RX4 86 RX3 yX3_codeAt wsX3_codeAt) := goodIn_app (goodIn_of _ (by decide +kernel)) ggX4_starOfNothing_X3_codeAt
theorem dX4_starOfNothing_0 : decode cX4_starOfNothing 0 = .ok (.aload_n 0, 1) := by decide +kernel
theorem dX4_starOfNothing_1 : decode cX4_starOfNothing 1 = .ok (.iload_n 1, 1) := by decide +kernel
theorem dX4_starOfNothing_2 : decode cX4_starOfNothing 2 = .ok (.invokevirtual 86, 3) := by decide +kernel
theorem dX4_starOfNothing_5 : decode cX4_starOfNothing 5 = .ok (.lstore_n 2, 1) := by decide +kernel
theorem dX4_starOfNothing_6 : decode cX4_starOfNothing 6 = .ok (.lload_n 2, 1) := by decide +kernel
theorem dX4_starOfNothing_7 : decode cX4_starOfNothing 7 = .ok (.lconst 1, 1) := by decide +kernel
theorem dX4_starOfNothing_8 : decode cX4_starOfNothing 8 = .ok (.lcmp, 1) := by decide +kernel
theorem dX4_starOfNothing_9 : decode cX4_starOfNothing 9 = .ok (.ifCond .eq 11, 3) := by decide +kernel
theorem dX4_starOfNothing_12 : decode cX4_starOfNothing 12 = .ok (.lload_n 2, 1) := by decide +kernel
theorem dX4_starOfNothing_13 : decode cX4_starOfNothing 13 = .ok (.ldc2_w 90, 3) := by decide +kernel
theorem dX4_starOfNothing_16 : decode cX4_starOfNothing 16 = .ok (.lcmp, 1) := by decide +kernel
theorem dX4_starOfNothing_17 : decode cX4_starOfNothing 17 = .ok (.ifCond .ne 9, 3) := by decide +kernel
theorem dX4_starOfNothing_20 : decode cX4_starOfNothing 20 = .ok (.ldc2_w 90, 3) := by decide +kernel
theorem dX4_starOfNothing_23 : decode cX4_starOfNothing 23 = .ok (.goto 4, 3) := by decide +kernel
theorem dX4_starOfNothing_26 : decode cX4_starOfNothing 26 = .ok (.lconst 0, 1) := by decide +kernel
theorem dX4_starOfNothing_27 : decode cX4_starOfNothing 27 = .ok (.lreturn, 1) := by decide +kernel
set_option maxRecDepth 20000 in
theorem ggX4_unionOfSame_X3_codeAt : GoodIn wsX4_unionOfSame wsX3_codeAt := goodIn_r _ [5, 6, 7, 8, 9, 10, 11] rfl (by decide +kernel)
set_option maxRecDepth 20000 in
theorem gX4_unionOfSame_X3_codeAt : GoodIn wsX4_unionOfSame (wsV RX4 86 RX3 yX3_codeAt wsX3_codeAt) := goodIn_app (goodIn_of _ (by decide +kernel)) ggX4_unionOfSame_X3_codeAt
theorem dX4_unionOfSame_0 : decode cX4_unionOfSame 0 = .ok (.aload_n 0, 1) := by decide +kernel
theorem dX4_unionOfSame_1 : decode cX4_unionOfSame 1 = .ok (.iload_n 1, 1) := by decide +kernel
theorem dX4_unionOfSame_2 : decode cX4_unionOfSame 2 = .ok (.invokevirtual 86, 3) := by decide +kernel
theorem dX4_unionOfSame_5 : decode cX4_unionOfSame 5 = .ok (.aload_n 0, 1) := by decide +kernel
theorem dX4_unionOfSame_6 : decode cX4_unionOfSame 6 = .ok (.iload_n 2, 1) := by decide +kernel
theorem dX4_unionOfSame_7 : decode cX4_unionOfSame 7 = .ok (.invokevirtual 86, 3) := by decide +kernel
theorem dX4_unionOfSame_10 : decode cX4_unionOfSame 10 = .ok (.lcmp, 1) := by decide +kernel
theorem dX4_unionOfSame_11 : decode cX4_unionOfSame 11 = .ok (.ifCond .ne 11, 3) := by decide +kernel
theorem dX4_unionOfSame_14 : decode cX4_unionOfSame 14 = .ok (.aload_n 0, 1) := by decide +kernel
theorem dX4_unionOfSame_15 : decode cX4_unionOfSame 15 = .ok (.iload_n 1, 1) := by decide +kernel
theorem dX4_unionOfSame_16 : decode cX4_unionOfSame 16 = .ok (.invokevirtual 86, 3) := by decide +kernel
theorem dX4_unionOfSame_19 : decode cX4_unionOfSame 19 = .ok (.goto 4, 3) := by decide +kernel
theorem dX4_unionOfSame_22 : decode cX4_unionOfSame 22 = .ok (.lconst 0, 1) := by decide +kernel
theorem dX4_unionOfSame_23 : decode cX4_unionOfSame 23 = .ok (.lreturn, 1) := by decide +kernel
set_option maxRecDepth 20000 in
theorem ggX4_starOfStar_X3_kindAt : GoodIn wsX4_starOfStar wsX3_kindAt := goodIn_r _ [5, 6, 7, 13, 14, 15, 16] rfl (by decide +kernel)
set_option maxRecDepth 20000 in
theorem gX4_starOfStar_X3_kindAt : GoodIn wsX4_starOfStar (wsV RX4 29 RX3 yX3_kindAt wsX3_kindAt) := goodIn_app (goodIn_of _ (by decide +kernel)) ggX4_starOfStar_X3_kindAt
set_option maxRecDepth 20000 in
theorem ggX4_starOfStar_X3_codeAt : GoodIn wsX4_starOfStar wsX3_codeAt := goodIn_r _ [11, 6, 12, 13, 14, 15, 16] rfl (by decide +kernel)
set_option maxRecDepth 20000 in
theorem gX4_starOfStar_X3_codeAt : GoodIn wsX4_starOfStar (wsV RX4 86 RX3 yX3_codeAt wsX3_codeAt) := goodIn_app (goodIn_of _ (by decide +kernel)) ggX4_starOfStar_X3_codeAt
theorem dX4_starOfStar_0 : decode cX4_starOfStar 0 = .ok (.aload_n 0, 1) := by decide +kernel
theorem dX4_starOfStar_1 : decode cX4_starOfStar 1 = .ok (.iload_n 1, 1) := by decide +kernel
theorem dX4_starOfStar_2 : decode cX4_starOfStar 2 = .ok (.invokevirtual 29, 3) := by decide +kernel
theorem dX4_starOfStar_5 : decode cX4_starOfStar 5 = .ok (.bipush 8, 2) := by decide +kernel
theorem dX4_starOfStar_7 : decode cX4_starOfStar 7 = .ok (.if_icmp .ne 11, 3) := by decide +kernel
theorem dX4_starOfStar_10 : decode cX4_starOfStar 10 = .ok (.aload_n 0, 1) := by decide +kernel
theorem dX4_starOfStar_11 : decode cX4_starOfStar 11 = .ok (.iload_n 1, 1) := by decide +kernel
theorem dX4_starOfStar_12 : decode cX4_starOfStar 12 = .ok (.invokevirtual 86, 3) := by decide +kernel
theorem dX4_starOfStar_15 : decode cX4_starOfStar 15 = .ok (.goto 4, 3) := by decide +kernel
theorem dX4_starOfStar_18 : decode cX4_starOfStar 18 = .ok (.lconst 0, 1) := by decide +kernel
theorem dX4_starOfStar_19 : decode cX4_starOfStar 19 = .ok (.lreturn, 1) := by decide +kernel
set_option maxRecDepth 20000 in
theorem ggX4_starOfOptional_X3_kindAt : GoodIn wsX4_starOfOptional wsX3_kindAt := goodIn_r _ [5, 6, 7, 35, 36, 37, 38] rfl (by decide +kernel)
set_option maxRecDepth 20000 in
theorem gX4_starOfOptional_X3_kindAt : GoodIn wsX4_starOfOptional (wsV RX4 29 RX3 yX3_kindAt wsX3_kindAt) := goodIn_app (goodIn_of _ (by decide +kernel)) ggX4_starOfOptional_X3_kindAt
set_option maxRecDepth 20000 in
theorem ggX4_starOfOptional_X3_leftOf : GoodIn wsX4_starOfOptional wsX3_leftOf := goodIn_r _ [11] rfl (by decide +kernel)
set_option maxRecDepth 20000 in
theorem gX4_starOfOptional_X3_leftOf : GoodIn wsX4_starOfOptional (wsV RX4 33 RX3 yX3_leftOf wsX3_leftOf) := goodIn_app (goodIn_of _ (by decide +kernel)) ggX4_starOfOptional_X3_leftOf
set_option maxRecDepth 20000 in
theorem ggX4_starOfOptional_X3_rightOf : GoodIn wsX4_starOfOptional wsX3_rightOf := goodIn_r _ [15, 6, 16, 35, 36, 37, 38] rfl (by decide +kernel)
set_option maxRecDepth 20000 in
theorem gX4_starOfOptional_X3_rightOf : GoodIn wsX4_starOfOptional (wsV RX4 36 RX3 yX3_rightOf wsX3_rightOf) := goodIn_app (goodIn_of _ (by decide +kernel)) ggX4_starOfOptional_X3_rightOf
set_option maxRecDepth 20000 in
theorem ggX4_starOfOptional_X4_besideUnit : GoodIn wsX4_starOfOptional wsX4_besideUnit := goodIn_r _ [20, 21, 22, 23, 4, 24, 6, 25, 35, 36, 37, 38] rfl (by decide +kernel)
set_option maxRecDepth 20000 in
theorem gX4_starOfOptional_X4_besideUnit : GoodIn wsX4_starOfOptional (va_wsS RX4 39 yX4_besideUnit wsX4_besideUnit) := goodIn_app (goodIn_of _ (by decide +kernel)) ggX4_starOfOptional_X4_besideUnit
set_option maxRecDepth 20000 in
theorem ggX4_starOfOptional_X1_star : GoodIn wsX4_starOfOptional wsX1_star := goodIn_r _ [29, 30, 31, 32, 28, 33, 34] rfl (by decide +kernel)
set_option maxRecDepth 20000 in
theorem gX4_starOfOptional_X1_star : GoodIn wsX4_starOfOptional (va_wsS RX4 92 yX1_star wsX1_star) := goodIn_app (goodIn_of _ (by decide +kernel)) ggX4_starOfOptional_X1_star
theorem dX4_starOfOptional_0 : decode cX4_starOfOptional 0 = .ok (.aload_n 0, 1) := by decide +kernel
theorem dX4_starOfOptional_1 : decode cX4_starOfOptional 1 = .ok (.iload_n 1, 1) := by decide +kernel
theorem dX4_starOfOptional_2 : decode cX4_starOfOptional 2 = .ok (.invokevirtual 29, 3) := by decide +kernel
theorem dX4_starOfOptional_5 : decode cX4_starOfOptional 5 = .ok (.bipush 6, 2) := by decide +kernel
theorem dX4_starOfOptional_7 : decode cX4_starOfOptional 7 = .ok (.if_icmp .eq 5, 3) := by decide +kernel
theorem dX4_starOfOptional_10 : decode cX4_starOfOptional 10 = .ok (.lconst 0, 1) := by decide +kernel
theorem dX4_starOfOptional_11 : decode cX4_starOfOptional 11 = .ok (.lreturn, 1) := by decide +kernel
theorem dX4_starOfOptional_12 : decode cX4_starOfOptional 12 = .ok (.aload_n 0, 1) := by decide +kernel
theorem dX4_starOfOptional_13 : decode cX4_starOfOptional 13 = .ok (.iconst 2, 1) := by decide +kernel
theorem dX4_starOfOptional_14 : decode cX4_starOfOptional 14 = .ok (.aload_n 0, 1) := by decide +kernel
theorem dX4_starOfOptional_15 : decode cX4_starOfOptional 15 = .ok (.iload_n 1, 1) := by decide +kernel
theorem dX4_starOfOptional_16 : decode cX4_starOfOptional 16 = .ok (.invokevirtual 33, 3) := by decide +kernel
theorem dX4_starOfOptional_19 : decode cX4_starOfOptional 19 = .ok (.aload_n 0, 1) := by decide +kernel
theorem dX4_starOfOptional_20 : decode cX4_starOfOptional 20 = .ok (.iload_n 1, 1) := by decide +kernel
theorem dX4_starOfOptional_21 : decode cX4_starOfOptional 21 = .ok (.invokevirtual 36, 3) := by decide +kernel
theorem dX4_starOfOptional_24 : decode cX4_starOfOptional 24 = .ok (.invokestatic 39, 3) := by decide +kernel
theorem dX4_starOfOptional_27 : decode cX4_starOfOptional 27 = .ok (.lstore_n 2, 1) := by decide +kernel
theorem dX4_starOfOptional_28 : decode cX4_starOfOptional 28 = .ok (.lload_n 2, 1) := by decide +kernel
theorem dX4_starOfOptional_29 : decode cX4_starOfOptional 29 = .ok (.lconst 0, 1) := by decide +kernel
theorem dX4_starOfOptional_30 : decode cX4_starOfOptional 30 = .ok (.lcmp, 1) := by decide +kernel
theorem dX4_starOfOptional_31 : decode cX4_starOfOptional 31 = .ok (.ifCond .ne 7, 3) := by decide +kernel
theorem dX4_starOfOptional_34 : decode cX4_starOfOptional 34 = .ok (.lconst 0, 1) := by decide +kernel
theorem dX4_starOfOptional_35 : decode cX4_starOfOptional 35 = .ok (.goto 7, 3) := by decide +kernel
theorem dX4_starOfOptional_38 : decode cX4_starOfOptional 38 = .ok (.lload_n 2, 1) := by decide +kernel
theorem dX4_starOfOptional_39 : decode cX4_starOfOptional 39 = .ok (.invokestatic 92, 3) := by decide +kernel
theorem dX4_starOfOptional_42 : decode cX4_starOfOptional 42 = .ok (.lreturn, 1) := by decide +kernel
set_option maxRecDepth 20000 in
theorem ggX4_sameStarTwice_X3_codeAt : GoodIn wsX4_sameStarTwice wsX3_codeAt := goodIn_r _ [5, 6, 7, 13, 14, 15, 16] rfl (by decide +kernel)
set_option maxRecDepth 20000 in
theorem gX4_sameStarTwice_X3_codeAt : GoodIn wsX4_sameStarTwice (wsV RX4 86 RX3 yX3_codeAt wsX3_codeAt) := goodIn_app (goodIn_of _ (by decide +kernel)) ggX4_sameStarTwice_X3_codeAt
set_option maxRecDepth 20000 in
theorem ggX4_sameStarTwice_X3_kindAt : GoodIn wsX4_sameStarTwice wsX3_kindAt := goodIn_r _ [11, 6, 12, 13, 14, 15, 16] rfl (by decide +kernel)
set_option maxRecDepth 20000 in
theorem gX4_sameStarTwice_X3_kindAt : GoodIn wsX4_sameStarTwice (wsV RX4 29 RX3 yX3_kindAt wsX3_kindAt) := goodIn_app (goodIn_of _ (by decide +kernel)) ggX4_sameStarTwice_X3_kindAt
theorem dX4_sameStarTwice_0 : decode cX4_sameStarTwice 0 = .ok (.aload_n 0, 1) := by decide +kernel
theorem dX4_sameStarTwice_1 : decode cX4_sameStarTwice 1 = .ok (.iload_n 1, 1) := by decide +kernel
theorem dX4_sameStarTwice_2 : decode cX4_sameStarTwice 2 = .ok (.invokevirtual 86, 3) := by decide +kernel
theorem dX4_sameStarTwice_5 : decode cX4_sameStarTwice 5 = .ok (.aload_n 0, 1) := by decide +kernel
theorem dX4_sameStarTwice_6 : decode cX4_sameStarTwice 6 = .ok (.iload_n 2, 1) := by decide +kernel
theorem dX4_sameStarTwice_7 : decode cX4_sameStarTwice 7 = .ok (.invokevirtual 86, 3) := by decide +kernel
theorem dX4_sameStarTwice_10 : decode cX4_sameStarTwice 10 = .ok (.lcmp, 1) := by decide +kernel
theorem dX4_sameStarTwice_11 : decode cX4_sameStarTwice 11 = .ok (.ifCond .ne 7, 3) := by decide +kernel
theorem dX4_sameStarTwice_14 : decode cX4_sameStarTwice 14 = .ok (.iconst 1, 1) := by decide +kernel
theorem dX4_sameStarTwice_15 : decode cX4_sameStarTwice 15 = .ok (.goto 4, 3) := by decide +kernel
theorem dX4_sameStarTwice_18 : decode cX4_sameStarTwice 18 = .ok (.iconst 0, 1) := by decide +kernel
theorem dX4_sameStarTwice_19 : decode cX4_sameStarTwice 19 = .ok (.istore_n 3, 1) := by decide +kernel
theorem dX4_sameStarTwice_20 : decode cX4_sameStarTwice 20 = .ok (.iload_n 3, 1) := by decide +kernel
theorem dX4_sameStarTwice_21 : decode cX4_sameStarTwice 21 = .ok (.ifCond .eq 21, 3) := by decide +kernel
theorem dX4_sameStarTwice_24 : decode cX4_sameStarTwice 24 = .ok (.aload_n 0, 1) := by decide +kernel
theorem dX4_sameStarTwice_25 : decode cX4_sameStarTwice 25 = .ok (.iload_n 1, 1) := by decide +kernel
theorem dX4_sameStarTwice_26 : decode cX4_sameStarTwice 26 = .ok (.invokevirtual 29, 3) := by decide +kernel
theorem dX4_sameStarTwice_29 : decode cX4_sameStarTwice 29 = .ok (.bipush 8, 2) := by decide +kernel
theorem dX4_sameStarTwice_31 : decode cX4_sameStarTwice 31 = .ok (.if_icmp .ne 11, 3) := by decide +kernel
theorem dX4_sameStarTwice_34 : decode cX4_sameStarTwice 34 = .ok (.aload_n 0, 1) := by decide +kernel
theorem dX4_sameStarTwice_35 : decode cX4_sameStarTwice 35 = .ok (.iload_n 1, 1) := by decide +kernel
theorem dX4_sameStarTwice_36 : decode cX4_sameStarTwice 36 = .ok (.invokevirtual 86, 3) := by decide +kernel
theorem dX4_sameStarTwice_39 : decode cX4_sameStarTwice 39 = .ok (.goto 4, 3) := by decide +kernel
theorem dX4_sameStarTwice_42 : decode cX4_sameStarTwice 42 = .ok (.lconst 0, 1) := by decide +kernel
theorem dX4_sameStarTwice_43 : decode cX4_sameStarTwice 43 = .ok (.lreturn, 1) := by decide +kernel
set_option maxRecDepth 20000 in
theorem ggX4_starOrEmptyWord_X3_codeAt : GoodIn wsX4_starOrEmptyWord wsX3_codeAt := goodIn_r _ [6, 7, 8, 14, 15, 16, 17] rfl (by decide +kernel)
set_option maxRecDepth 20000 in
theorem gX4_starOrEmptyWord_X3_codeAt : GoodIn wsX4_starOrEmptyWord (wsV RX4 86 RX3 yX3_codeAt wsX3_codeAt) := goodIn_app (goodIn_of _ (by decide +kernel)) ggX4_starOrEmptyWord_X3_codeAt
set_option maxRecDepth 20000 in
theorem ggX4_starOrEmptyWord_X3_kindAt : GoodIn wsX4_starOrEmptyWord wsX3_kindAt := goodIn_r _ [12, 7, 13, 14, 15, 16, 17] rfl (by decide +kernel)
set_option maxRecDepth 20000 in
theorem gX4_starOrEmptyWord_X3_kindAt : GoodIn wsX4_starOrEmptyWord (wsV RX4 29 RX3 yX3_kindAt wsX3_kindAt) := goodIn_app (goodIn_of _ (by decide +kernel)) ggX4_starOrEmptyWord_X3_kindAt
theorem dX4_starOrEmptyWord_0 : decode cX4_starOrEmptyWord 0 = .ok (.aload_n 0, 1) := by decide +kernel
theorem dX4_starOrEmptyWord_1 : decode cX4_starOrEmptyWord 1 = .ok (.iload_n 1, 1) := by decide +kernel
theorem dX4_starOrEmptyWord_2 : decode cX4_starOrEmptyWord 2 = .ok (.invokevirtual 86, 3) := by decide +kernel
theorem dX4_starOrEmptyWord_5 : decode cX4_starOrEmptyWord 5 = .ok (.ldc2_w 90, 3) := by decide +kernel
theorem dX4_starOrEmptyWord_8 : decode cX4_starOrEmptyWord 8 = .ok (.lcmp, 1) := by decide +kernel
theorem dX4_starOrEmptyWord_9 : decode cX4_starOrEmptyWord 9 = .ok (.ifCond .ne 19, 3) := by decide +kernel
theorem dX4_starOrEmptyWord_12 : decode cX4_starOrEmptyWord 12 = .ok (.aload_n 0, 1) := by decide +kernel
theorem dX4_starOrEmptyWord_13 : decode cX4_starOrEmptyWord 13 = .ok (.iload_n 2, 1) := by decide +kernel
theorem dX4_starOrEmptyWord_14 : decode cX4_starOrEmptyWord 14 = .ok (.invokevirtual 29, 3) := by decide +kernel
theorem dX4_starOrEmptyWord_17 : decode cX4_starOrEmptyWord 17 = .ok (.bipush 8, 2) := by decide +kernel
theorem dX4_starOrEmptyWord_19 : decode cX4_starOrEmptyWord 19 = .ok (.if_icmp .ne 9, 3) := by decide +kernel
theorem dX4_starOrEmptyWord_22 : decode cX4_starOrEmptyWord 22 = .ok (.aload_n 0, 1) := by decide +kernel
theorem dX4_starOrEmptyWord_23 : decode cX4_starOrEmptyWord 23 = .ok (.iload_n 2, 1) := by decide +kernel
theorem dX4_starOrEmptyWord_24 : decode cX4_starOrEmptyWord 24 = .ok (.invokevirtual 86, 3) := by decide +kernel
theorem dX4_starOrEmptyWord_27 : decode cX4_starOrEmptyWord 27 = .ok (.lreturn, 1) := by decide +kernel
theorem dX4_starOrEmptyWord_28 : decode cX4_starOrEmptyWord 28 = .ok (.aload_n 0, 1) := by decide +kernel
theorem dX4_starOrEmptyWord_29 : decode cX4_starOrEmptyWord 29 = .ok (.iload_n 1, 1) := by decide +kernel
theorem dX4_starOrEmptyWord_30 : decode cX4_starOrEmptyWord 30 = .ok (.invokevirtual 29, 3) := by decide +kernel
theorem dX4_starOrEmptyWord_33 : decode cX4_starOrEmptyWord 33 = .ok (.bipush 8, 2) := by decide +kernel
theorem dX4_starOrEmptyWord_35 : decode cX4_starOrEmptyWord 35 = .ok (.if_icmp .ne 19, 3) := by decide +kernel
theorem dX4_starOrEmptyWord_38 : decode cX4_starOrEmptyWord 38 = .ok (.aload_n 0, 1) := by decide +kernel
theorem dX4_starOrEmptyWord_39 : decode cX4_starOrEmptyWord 39 = .ok (.iload_n 2, 1) := by decide +kernel
theorem dX4_starOrEmptyWord_40 : decode cX4_starOrEmptyWord 40 = .ok (.invokevirtual 86, 3) := by decide +kernel
theorem dX4_starOrEmptyWord_43 : decode cX4_starOrEmptyWord 43 = .ok (.ldc2_w 90, 3) := by decide +kernel
theorem dX4_starOrEmptyWord_46 : decode cX4_starOrEmptyWord 46 = .ok (.lcmp, 1) := by decide +kernel
theorem dX4_starOrEmptyWord_47 : decode cX4_starOrEmptyWord 47 = .ok (.ifCond .ne 7, 3) := by decide +kernel
theorem dX4_starOrEmptyWord_50 : decode cX4_starOrEmptyWord 50 = .ok (.iconst 1, 1) := by decide +kernel
theorem dX4_starOrEmptyWord_51 : decode cX4_starOrEmptyWord 51 = .ok (.goto 4, 3) := by decide +kernel
theorem dX4_starOrEmptyWord_54 : decode cX4_starOrEmptyWord 54 = .ok (.iconst 0, 1) := by decide +kernel
theorem dX4_starOrEmptyWord_55 : decode cX4_starOrEmptyWord 55 = .ok (.istore_n 3, 1) := by decide +kernel
theorem dX4_starOrEmptyWord_56 : decode cX4_starOrEmptyWord 56 = .ok (.iload_n 3, 1) := by decide +kernel
theorem dX4_starOrEmptyWord_57 : decode cX4_starOrEmptyWord 57 = .ok (.ifCond .eq 11, 3) := by decide +kernel
theorem dX4_starOrEmptyWord_60 : decode cX4_starOrEmptyWord 60 = .ok (.aload_n 0, 1) := by decide +kernel
theorem dX4_starOrEmptyWord_61 : decode cX4_starOrEmptyWord 61 = .ok (.iload_n 1, 1) := by decide +kernel
theorem dX4_starOrEmptyWord_62 : decode cX4_starOrEmptyWord 62 = .ok (.invokevirtual 86, 3) := by decide +kernel
theorem dX4_starOrEmptyWord_65 : decode cX4_starOrEmptyWord 65 = .ok (.goto 4, 3) := by decide +kernel
theorem dX4_starOrEmptyWord_68 : decode cX4_starOrEmptyWord 68 = .ok (.lconst 0, 1) := by decide +kernel
theorem dX4_starOrEmptyWord_69 : decode cX4_starOrEmptyWord 69 = .ok (.lreturn, 1) := by decide +kernel
set_option maxRecDepth 20000 in
theorem ggX4_besideItsStar_X3_starredAt : GoodIn wsX4_besideItsStar wsX3_starredAt := goodIn_r _ [5, 6, 7, 8, 13, 14, 15, 16] rfl (by decide +kernel)
set_option maxRecDepth 20000 in
theorem gX4_besideItsStar_X3_starredAt : GoodIn wsX4_besideItsStar (wsV RX4 98 RX3 yX3_starredAt wsX3_starredAt) := goodIn_app (goodIn_of _ (by decide +kernel)) ggX4_besideItsStar_X3_starredAt
set_option maxRecDepth 20000 in
theorem ggX4_besideItsStar_X3_codeAt : GoodIn wsX4_besideItsStar wsX3_codeAt := goodIn_r _ [12, 6, 8, 13, 14, 15, 16] rfl (by decide +kernel)
set_option maxRecDepth 20000 in
theorem gX4_besideItsStar_X3_codeAt : GoodIn wsX4_besideItsStar (wsV RX4 86 RX3 yX3_codeAt wsX3_codeAt) := goodIn_app (goodIn_of _ (by decide +kernel)) ggX4_besideItsStar_X3_codeAt
theorem dX4_besideItsStar_0 : decode cX4_besideItsStar 0 = .ok (.aload_n 0, 1) := by decide +kernel
theorem dX4_besideItsStar_1 : decode cX4_besideItsStar 1 = .ok (.iload_n 2, 1) := by decide +kernel
theorem dX4_besideItsStar_2 : decode cX4_besideItsStar 2 = .ok (.invokevirtual 98, 3) := by decide +kernel
theorem dX4_besideItsStar_5 : decode cX4_besideItsStar 5 = .ok (.aload_n 0, 1) := by decide +kernel
theorem dX4_besideItsStar_6 : decode cX4_besideItsStar 6 = .ok (.iload_n 1, 1) := by decide +kernel
theorem dX4_besideItsStar_7 : decode cX4_besideItsStar 7 = .ok (.invokevirtual 86, 3) := by decide +kernel
theorem dX4_besideItsStar_10 : decode cX4_besideItsStar 10 = .ok (.lcmp, 1) := by decide +kernel
theorem dX4_besideItsStar_11 : decode cX4_besideItsStar 11 = .ok (.ifCond .ne 9, 3) := by decide +kernel
theorem dX4_besideItsStar_14 : decode cX4_besideItsStar 14 = .ok (.aload_n 0, 1) := by decide +kernel
theorem dX4_besideItsStar_15 : decode cX4_besideItsStar 15 = .ok (.iload_n 2, 1) := by decide +kernel
theorem dX4_besideItsStar_16 : decode cX4_besideItsStar 16 = .ok (.invokevirtual 86, 3) := by decide +kernel
theorem dX4_besideItsStar_19 : decode cX4_besideItsStar 19 = .ok (.lreturn, 1) := by decide +kernel
theorem dX4_besideItsStar_20 : decode cX4_besideItsStar 20 = .ok (.aload_n 0, 1) := by decide +kernel
theorem dX4_besideItsStar_21 : decode cX4_besideItsStar 21 = .ok (.iload_n 1, 1) := by decide +kernel
theorem dX4_besideItsStar_22 : decode cX4_besideItsStar 22 = .ok (.invokevirtual 98, 3) := by decide +kernel
theorem dX4_besideItsStar_25 : decode cX4_besideItsStar 25 = .ok (.aload_n 0, 1) := by decide +kernel
theorem dX4_besideItsStar_26 : decode cX4_besideItsStar 26 = .ok (.iload_n 2, 1) := by decide +kernel
theorem dX4_besideItsStar_27 : decode cX4_besideItsStar 27 = .ok (.invokevirtual 86, 3) := by decide +kernel
theorem dX4_besideItsStar_30 : decode cX4_besideItsStar 30 = .ok (.lcmp, 1) := by decide +kernel
theorem dX4_besideItsStar_31 : decode cX4_besideItsStar 31 = .ok (.ifCond .ne 11, 3) := by decide +kernel
theorem dX4_besideItsStar_34 : decode cX4_besideItsStar 34 = .ok (.aload_n 0, 1) := by decide +kernel
theorem dX4_besideItsStar_35 : decode cX4_besideItsStar 35 = .ok (.iload_n 1, 1) := by decide +kernel
theorem dX4_besideItsStar_36 : decode cX4_besideItsStar 36 = .ok (.invokevirtual 86, 3) := by decide +kernel
theorem dX4_besideItsStar_39 : decode cX4_besideItsStar 39 = .ok (.goto 4, 3) := by decide +kernel
theorem dX4_besideItsStar_42 : decode cX4_besideItsStar 42 = .ok (.lconst 0, 1) := by decide +kernel
theorem dX4_besideItsStar_43 : decode cX4_besideItsStar 43 = .ok (.lreturn, 1) := by decide +kernel
set_option maxRecDepth 20000 in
theorem ggX4_bothConcatenations_X3_kindAt : GoodIn wsX4_bothConcatenations wsX3_kindAt := goodIn_r _ [5, 6, 7, 8, 9, 10, 11] rfl (by decide +kernel)
set_option maxRecDepth 20000 in
theorem gX4_bothConcatenations_X3_kindAt : GoodIn wsX4_bothConcatenations (wsV RX4 29 RX3 yX3_kindAt wsX3_kindAt) := goodIn_app (goodIn_of _ (by decide +kernel)) ggX4_bothConcatenations_X3_kindAt
theorem dX4_bothConcatenations_0 : decode cX4_bothConcatenations 0 = .ok (.aload_n 0, 1) := by decide +kernel
theorem dX4_bothConcatenations_1 : decode cX4_bothConcatenations 1 = .ok (.iload_n 1, 1) := by decide +kernel
theorem dX4_bothConcatenations_2 : decode cX4_bothConcatenations 2 = .ok (.invokevirtual 29, 3) := by decide +kernel
theorem dX4_bothConcatenations_5 : decode cX4_bothConcatenations 5 = .ok (.bipush 7, 2) := by decide +kernel
theorem dX4_bothConcatenations_7 : decode cX4_bothConcatenations 7 = .ok (.if_icmp .ne 17, 3) := by decide +kernel
theorem dX4_bothConcatenations_10 : decode cX4_bothConcatenations 10 = .ok (.aload_n 0, 1) := by decide +kernel
theorem dX4_bothConcatenations_11 : decode cX4_bothConcatenations 11 = .ok (.iload_n 2, 1) := by decide +kernel
theorem dX4_bothConcatenations_12 : decode cX4_bothConcatenations 12 = .ok (.invokevirtual 29, 3) := by decide +kernel
theorem dX4_bothConcatenations_15 : decode cX4_bothConcatenations 15 = .ok (.bipush 7, 2) := by decide +kernel
theorem dX4_bothConcatenations_17 : decode cX4_bothConcatenations 17 = .ok (.if_icmp .ne 7, 3) := by decide +kernel
theorem dX4_bothConcatenations_20 : decode cX4_bothConcatenations 20 = .ok (.iconst 1, 1) := by decide +kernel
theorem dX4_bothConcatenations_21 : decode cX4_bothConcatenations 21 = .ok (.goto 4, 3) := by decide +kernel
theorem dX4_bothConcatenations_24 : decode cX4_bothConcatenations 24 = .ok (.iconst 0, 1) := by decide +kernel
theorem dX4_bothConcatenations_25 : decode cX4_bothConcatenations 25 = .ok (.ireturn, 1) := by decide +kernel
set_option maxRecDepth 20000 in
theorem ggX4_sharedFront_X3_leftOf : GoodIn wsX4_sharedFront wsX3_leftOf := goodIn_r _ [5] rfl (by decide +kernel)
set_option maxRecDepth 20000 in
theorem gX4_sharedFront_X3_leftOf : GoodIn wsX4_sharedFront (wsV RX4 33 RX3 yX3_leftOf wsX3_leftOf) := goodIn_app (goodIn_of _ (by decide +kernel)) ggX4_sharedFront_X3_leftOf
set_option maxRecDepth 20000 in
theorem ggX4_sharedFront_X3_codeAt : GoodIn wsX4_sharedFront wsX3_codeAt := goodIn_r _ [9, 10, 11, 39, 40, 41, 42] rfl (by decide +kernel)
set_option maxRecDepth 20000 in
theorem gX4_sharedFront_X3_codeAt : GoodIn wsX4_sharedFront (wsV RX4 86 RX3 yX3_codeAt wsX3_codeAt) := goodIn_app (goodIn_of _ (by decide +kernel)) ggX4_sharedFront_X3_codeAt
set_option maxRecDepth 20000 in
theorem ggX4_sharedFront_X4_bothConcatenations : GoodIn wsX4_sharedFront wsX4_bothConcatenations := goodIn_r _ [15, 16, 17, 18, 4, 19, 10, 20, 39, 40, 41, 42] rfl (by decide +kernel)
set_option maxRecDepth 20000 in
theorem gX4_sharedFront_X4_bothConcatenations : GoodIn wsX4_sharedFront (va_wsS RX4 101 yX4_bothConcatenations wsX4_bothConcatenations) := goodIn_app (goodIn_of _ (by decide +kernel)) ggX4_sharedFront_X4_bothConcatenations
set_option maxRecDepth 20000 in
theorem ggX4_sharedFront_X3_rightOf : GoodIn wsX4_sharedFront wsX3_rightOf := goodIn_r _ [24, 10, 25, 39, 40, 41, 42] rfl (by decide +kernel)
set_option maxRecDepth 20000 in
theorem gX4_sharedFront_X3_rightOf : GoodIn wsX4_sharedFront (wsV RX4 36 RX3 yX3_rightOf wsX3_rightOf) := goodIn_app (goodIn_of _ (by decide +kernel)) ggX4_sharedFront_X3_rightOf
set_option maxRecDepth 20000 in
theorem ggX4_sharedFront_X1_union : GoodIn wsX4_sharedFront wsX1_union := goodIn_r _ [29, 30, 31, 32, 28, 33, 34] rfl (by decide +kernel)
set_option maxRecDepth 20000 in
theorem gX4_sharedFront_X1_union : GoodIn wsX4_sharedFront (va_wsS RX4 105 yX1_union wsX1_union) := goodIn_app (goodIn_of _ (by decide +kernel)) ggX4_sharedFront_X1_union
set_option maxRecDepth 20000 in
theorem ggX4_sharedFront_X1_concatenation : GoodIn wsX4_sharedFront wsX1_concatenation := goodIn_r _ [37, 38, 31, 32, 28, 33, 34] rfl (by decide +kernel)
set_option maxRecDepth 20000 in
theorem gX4_sharedFront_X1_concatenation : GoodIn wsX4_sharedFront (va_wsS RX4 109 yX1_concatenation wsX1_concatenation) := goodIn_app (goodIn_of _ (by decide +kernel)) ggX4_sharedFront_X1_concatenation
theorem dX4_sharedFront_0 : decode cX4_sharedFront 0 = .ok (.aload_n 0, 1) := by decide +kernel
theorem dX4_sharedFront_1 : decode cX4_sharedFront 1 = .ok (.aload_n 0, 1) := by decide +kernel
theorem dX4_sharedFront_2 : decode cX4_sharedFront 2 = .ok (.iload_n 1, 1) := by decide +kernel
theorem dX4_sharedFront_3 : decode cX4_sharedFront 3 = .ok (.invokevirtual 33, 3) := by decide +kernel
theorem dX4_sharedFront_6 : decode cX4_sharedFront 6 = .ok (.invokevirtual 86, 3) := by decide +kernel
theorem dX4_sharedFront_9 : decode cX4_sharedFront 9 = .ok (.lstore_n 3, 1) := by decide +kernel
theorem dX4_sharedFront_10 : decode cX4_sharedFront 10 = .ok (.aload_n 0, 1) := by decide +kernel
theorem dX4_sharedFront_11 : decode cX4_sharedFront 11 = .ok (.iload_n 1, 1) := by decide +kernel
theorem dX4_sharedFront_12 : decode cX4_sharedFront 12 = .ok (.iload_n 2, 1) := by decide +kernel
theorem dX4_sharedFront_13 : decode cX4_sharedFront 13 = .ok (.invokestatic 101, 3) := by decide +kernel
theorem dX4_sharedFront_16 : decode cX4_sharedFront 16 = .ok (.ifCond .eq 17, 3) := by decide +kernel
theorem dX4_sharedFront_19 : decode cX4_sharedFront 19 = .ok (.lload_n 3, 1) := by decide +kernel
theorem dX4_sharedFront_20 : decode cX4_sharedFront 20 = .ok (.aload_n 0, 1) := by decide +kernel
theorem dX4_sharedFront_21 : decode cX4_sharedFront 21 = .ok (.aload_n 0, 1) := by decide +kernel
theorem dX4_sharedFront_22 : decode cX4_sharedFront 22 = .ok (.iload_n 2, 1) := by decide +kernel
theorem dX4_sharedFront_23 : decode cX4_sharedFront 23 = .ok (.invokevirtual 33, 3) := by decide +kernel
theorem dX4_sharedFront_26 : decode cX4_sharedFront 26 = .ok (.invokevirtual 86, 3) := by decide +kernel
theorem dX4_sharedFront_29 : decode cX4_sharedFront 29 = .ok (.lcmp, 1) := by decide +kernel
theorem dX4_sharedFront_30 : decode cX4_sharedFront 30 = .ok (.ifCond .eq 5, 3) := by decide +kernel
theorem dX4_sharedFront_33 : decode cX4_sharedFront 33 = .ok (.lconst 0, 1) := by decide +kernel
theorem dX4_sharedFront_34 : decode cX4_sharedFront 34 = .ok (.lreturn, 1) := by decide +kernel
theorem dX4_sharedFront_35 : decode cX4_sharedFront 35 = .ok (.aload_n 0, 1) := by decide +kernel
theorem dX4_sharedFront_36 : decode cX4_sharedFront 36 = .ok (.aload_n 0, 1) := by decide +kernel
theorem dX4_sharedFront_37 : decode cX4_sharedFront 37 = .ok (.iload_n 1, 1) := by decide +kernel
theorem dX4_sharedFront_38 : decode cX4_sharedFront 38 = .ok (.invokevirtual 36, 3) := by decide +kernel
theorem dX4_sharedFront_41 : decode cX4_sharedFront 41 = .ok (.invokevirtual 86, 3) := by decide +kernel
theorem dX4_sharedFront_44 : decode cX4_sharedFront 44 = .ok (.aload_n 0, 1) := by decide +kernel
theorem dX4_sharedFront_45 : decode cX4_sharedFront 45 = .ok (.aload_n 0, 1) := by decide +kernel
theorem dX4_sharedFront_46 : decode cX4_sharedFront 46 = .ok (.iload_n 2, 1) := by decide +kernel
theorem dX4_sharedFront_47 : decode cX4_sharedFront 47 = .ok (.invokevirtual 36, 3) := by decide +kernel
