theorem dX8_replaced_63 : decode cX8_replaced 63 = .ok (.i2l, 1) := by decide +kernel
theorem dX8_replaced_64 : decode cX8_replaced 64 = .ok (.ladd, 1) := by decide +kernel
theorem dX8_replaced_65 : decode cX8_replaced 65 = .ok (.lstore_n 2, 1) := by decide +kernel
theorem dX8_replaced_66 : decode cX8_replaced 66 = .ok (.iinc 5 1, 3) := by decide +kernel
theorem dX8_replaced_69 : decode cX8_replaced 69 = .ok (.goto (-27), 3) := by decide +kernel
theorem dX8_replaced_72 : decode cX8_replaced 72 = .ok (.iload 4, 2) := by decide +kernel
theorem dX8_replaced_74 : decode cX8_replaced 74 = .ok (.istore 5, 2) := by decide +kernel
theorem dX8_replaced_76 : decode cX8_replaced 76 = .ok (.iload 5, 2) := by decide +kernel
theorem dX8_replaced_78 : decode cX8_replaced 78 = .ok (.aload_n 0, 1) := by decide +kernel
theorem dX8_replaced_79 : decode cX8_replaced 79 = .ok (.getfield 78, 3) := by decide +kernel
theorem dX8_replaced_82 : decode cX8_replaced 82 = .ok (.if_icmp .ge 24, 3) := by decide +kernel
theorem dX8_replaced_85 : decode cX8_replaced 85 = .ok (.ldc2_w 82, 3) := by decide +kernel
theorem dX8_replaced_88 : decode cX8_replaced 88 = .ok (.lload_n 2, 1) := by decide +kernel
theorem dX8_replaced_89 : decode cX8_replaced 89 = .ok (.lmul, 1) := by decide +kernel
theorem dX8_replaced_90 : decode cX8_replaced 90 = .ok (.aload_n 0, 1) := by decide +kernel
theorem dX8_replaced_91 : decode cX8_replaced 91 = .ok (.getfield 7, 3) := by decide +kernel
theorem dX8_replaced_94 : decode cX8_replaced 94 = .ok (.iload 5, 2) := by decide +kernel
theorem dX8_replaced_96 : decode cX8_replaced 96 = .ok (.iaload, 1) := by decide +kernel
theorem dX8_replaced_97 : decode cX8_replaced 97 = .ok (.i2l, 1) := by decide +kernel
theorem dX8_replaced_98 : decode cX8_replaced 98 = .ok (.ladd, 1) := by decide +kernel
theorem dX8_replaced_99 : decode cX8_replaced 99 = .ok (.lstore_n 2, 1) := by decide +kernel
theorem dX8_replaced_100 : decode cX8_replaced 100 = .ok (.iinc 5 1, 3) := by decide +kernel
theorem dX8_replaced_103 : decode cX8_replaced 103 = .ok (.goto (-27), 3) := by decide +kernel
theorem dX8_replaced_106 : decode cX8_replaced 106 = .ok (.lload_n 2, 1) := by decide +kernel
theorem dX8_replaced_107 : decode cX8_replaced 107 = .ok (.lreturn, 1) := by decide +kernel
set_option maxRecDepth 20000 in
theorem ggX8_isRule_X8_within : GoodIn wsX8_isRule wsX8_within := goodIn_r _ [4] rfl (by decide +kernel)
set_option maxRecDepth 20000 in
theorem gX8_isRule_X8_within : GoodIn wsX8_isRule (va_wsS RX8 84 yX8_within wsX8_within) := goodIn_app (goodIn_of _ (by decide +kernel)) ggX8_isRule_X8_within
theorem dX8_isRule_0 : decode cX8_isRule 0 = .ok (.iload_n 0, 1) := by decide +kernel
theorem dX8_isRule_1 : decode cX8_isRule 1 = .ok (.iconst 0, 1) := by decide +kernel
theorem dX8_isRule_2 : decode cX8_isRule 2 = .ok (.bipush 15, 2) := by decide +kernel
theorem dX8_isRule_4 : decode cX8_isRule 4 = .ok (.invokestatic 84, 3) := by decide +kernel
theorem dX8_isRule_7 : decode cX8_isRule 7 = .ok (.ireturn, 1) := by decide +kernel
set_option maxRecDepth 20000 in
theorem ggX8_isApplicable_X8_parses : GoodIn wsX8_isApplicable wsX8_parses := goodIn_r _ [6, 1, 7, 8, 9, 10, 5, 11, 89, 90, 91, 92, 93, 94, 95, 96, 97, 98, 99, 100, 101, 102, 103, 104, 105, 106, 107, 108, 109, 110, 111, 112, 113, 114, 115, 116, 117, 118] rfl (by decide +kernel)
set_option maxRecDepth 20000 in
theorem gX8_isApplicable_X8_parses : GoodIn wsX8_isApplicable (wsV RX8 92 RX8 yX8_parses wsX8_parses) := goodIn_app (goodIn_of _ (by decide +kernel)) ggX8_isApplicable_X8_parses
set_option maxRecDepth 20000 in
theorem ggX8_isApplicable_X8_isRule : GoodIn wsX8_isApplicable wsX8_isRule := goodIn_r _ [14, 9, 10, 5, 11] rfl (by decide +kernel)
set_option maxRecDepth 20000 in
theorem gX8_isApplicable_X8_isRule : GoodIn wsX8_isApplicable (va_wsS RX8 199 yX8_isRule wsX8_isRule) := goodIn_app (goodIn_of _ (by decide +kernel)) ggX8_isApplicable_X8_isRule
set_option maxRecDepth 20000 in
theorem ggX8_isApplicable_X8_within : GoodIn wsX8_isApplicable wsX8_within := goodIn_r _ [11] rfl (by decide +kernel)
set_option maxRecDepth 20000 in
theorem gX8_isApplicable_X8_within : GoodIn wsX8_isApplicable (va_wsS RX8 84 yX8_within wsX8_within) := goodIn_app (goodIn_of _ (by decide +kernel)) ggX8_isApplicable_X8_within
set_option maxRecDepth 20000 in
theorem ggX8_isApplicable_X8_applies : GoodIn wsX8_isApplicable wsX8_applies := goodIn_r _ [18, 19, 8, 20, 21, 22, 5, 23, 24, 25, 26, 27, 28, 29, 30, 31, 32, 33, 34, 35, 36, 37, 38, 39, 40, 41, 42, 43, 44, 45, 46, 47, 48, 49, 50, 51, 52, 53, 54, 55, 56, 57, 58, 59, 60, 61, 62, 63, 64, 65, 66, 67, 68, 69, 70, 71, 72, 73, 74, 75, 76, 77, 78, 79, 80, 81, 82, 83, 84, 85, 86, 87, 88, 89, 90, 91, 92, 93, 94, 95, 96, 97, 98, 99, 100, 101, 102, 103, 104, 105, 106, 107, 108, 109, 110, 111, 112, 113, 114, 115, 116, 117, 118] rfl (by decide +kernel)
set_option maxRecDepth 20000 in
theorem gX8_isApplicable_X8_applies : GoodIn wsX8_isApplicable (wsV RX8 202 RX8 yX8_applies wsX8_applies) := goodIn_app (goodIn_of _ (by decide +kernel)) ggX8_isApplicable_X8_applies
theorem dX8_isApplicable_0 : decode cX8_isApplicable 0 = .ok (.aload_n 0, 1) := by decide +kernel
theorem dX8_isApplicable_1 : decode cX8_isApplicable 1 = .ok (.lload_n 1, 1) := by decide +kernel
theorem dX8_isApplicable_2 : decode cX8_isApplicable 2 = .ok (.invokevirtual 92, 3) := by decide +kernel
theorem dX8_isApplicable_5 : decode cX8_isApplicable 5 = .ok (.ifCond .ne 5, 3) := by decide +kernel
theorem dX8_isApplicable_8 : decode cX8_isApplicable 8 = .ok (.iconst (-1), 1) := by decide +kernel
theorem dX8_isApplicable_9 : decode cX8_isApplicable 9 = .ok (.ireturn, 1) := by decide +kernel
theorem dX8_isApplicable_10 : decode cX8_isApplicable 10 = .ok (.iload_n 3, 1) := by decide +kernel
theorem dX8_isApplicable_11 : decode cX8_isApplicable 11 = .ok (.invokestatic 199, 3) := by decide +kernel
theorem dX8_isApplicable_14 : decode cX8_isApplicable 14 = .ok (.ifCond .ne 6, 3) := by decide +kernel
theorem dX8_isApplicable_17 : decode cX8_isApplicable 17 = .ok (.bipush (-2), 2) := by decide +kernel
theorem dX8_isApplicable_19 : decode cX8_isApplicable 19 = .ok (.ireturn, 1) := by decide +kernel
theorem dX8_isApplicable_20 : decode cX8_isApplicable 20 = .ok (.iload 4, 2) := by decide +kernel
theorem dX8_isApplicable_22 : decode cX8_isApplicable 22 = .ok (.iconst 0, 1) := by decide +kernel
theorem dX8_isApplicable_23 : decode cX8_isApplicable 23 = .ok (.aload_n 0, 1) := by decide +kernel
theorem dX8_isApplicable_24 : decode cX8_isApplicable 24 = .ok (.getfield 78, 3) := by decide +kernel
theorem dX8_isApplicable_27 : decode cX8_isApplicable 27 = .ok (.iconst 1, 1) := by decide +kernel
theorem dX8_isApplicable_28 : decode cX8_isApplicable 28 = .ok (.isub, 1) := by decide +kernel
theorem dX8_isApplicable_29 : decode cX8_isApplicable 29 = .ok (.invokestatic 84, 3) := by decide +kernel
theorem dX8_isApplicable_32 : decode cX8_isApplicable 32 = .ok (.ifCond .ne 6, 3) := by decide +kernel
theorem dX8_isApplicable_35 : decode cX8_isApplicable 35 = .ok (.bipush (-3), 2) := by decide +kernel
theorem dX8_isApplicable_37 : decode cX8_isApplicable 37 = .ok (.ireturn, 1) := by decide +kernel
theorem dX8_isApplicable_38 : decode cX8_isApplicable 38 = .ok (.aload_n 0, 1) := by decide +kernel
theorem dX8_isApplicable_39 : decode cX8_isApplicable 39 = .ok (.iload_n 3, 1) := by decide +kernel
theorem dX8_isApplicable_40 : decode cX8_isApplicable 40 = .ok (.iload 4, 2) := by decide +kernel
theorem dX8_isApplicable_42 : decode cX8_isApplicable 42 = .ok (.invokevirtual 202, 3) := by decide +kernel
theorem dX8_isApplicable_45 : decode cX8_isApplicable 45 = .ok (.ifCond .eq 7, 3) := by decide +kernel
theorem dX8_isApplicable_48 : decode cX8_isApplicable 48 = .ok (.iconst 1, 1) := by decide +kernel
theorem dX8_isApplicable_49 : decode cX8_isApplicable 49 = .ok (.goto 4, 3) := by decide +kernel
theorem dX8_isApplicable_52 : decode cX8_isApplicable 52 = .ok (.iconst 0, 1) := by decide +kernel
theorem dX8_isApplicable_53 : decode cX8_isApplicable 53 = .ok (.ireturn, 1) := by decide +kernel
set_option maxRecDepth 20000 in
theorem ggX8_rewrite_X8_isApplicable : GoodIn wsX8_rewrite wsX8_isApplicable := goodIn_r _ [6, 7, 8, 9, 10, 5, 11, 12, 13, 14, 15, 16, 17, 18, 19, 20, 21, 22, 23, 24, 25, 26, 27, 28, 29, 30, 31, 32, 33, 34, 35, 36, 37, 38, 39, 40, 41, 42, 43, 44, 45, 46, 47, 48, 49, 50, 51, 52, 53, 54, 55, 56, 57, 58, 59, 60, 61, 62, 63, 64, 65, 66, 67, 68, 69, 70, 71, 72, 73, 74, 75, 76, 77, 78, 79, 80, 81, 82, 83, 84, 85, 86, 87, 88, 89, 90, 91, 92, 93, 98, 99, 100, 101, 102, 103, 104, 105, 106, 107, 108, 109, 110, 111, 112, 113, 114, 115, 116, 117, 118, 119, 120, 121, 122, 123, 124, 125, 126, 127] rfl (by decide +kernel)
set_option maxRecDepth 20000 in
theorem gX8_rewrite_X8_isApplicable : GoodIn wsX8_rewrite (wsV RX8 205 RX8 yX8_isApplicable wsX8_isApplicable) := goodIn_app (goodIn_of _ (by decide +kernel)) ggX8_rewrite_X8_isApplicable
set_option maxRecDepth 20000 in
theorem ggX8_rewrite_X8_replaced : GoodIn wsX8_rewrite wsX8_replaced := goodIn_r _ [97, 12, 13, 24, 37, 7, 29, 30, 31, 5, 32, 98, 99, 100, 101, 102, 103, 104, 105, 106, 107, 108, 109, 110, 111, 112, 113, 114, 115, 116, 117, 118, 119, 120, 121, 122, 123, 124, 125, 126, 127] rfl (by decide +kernel)
set_option maxRecDepth 20000 in
theorem gX8_rewrite_X8_replaced : GoodIn wsX8_rewrite (wsV RX8 211 RX8 yX8_replaced wsX8_replaced) := goodIn_app (goodIn_of _ (by decide +kernel)) ggX8_rewrite_X8_replaced
theorem dX8_rewrite_0 : decode cX8_rewrite 0 = .ok (.aload_n 0, 1) := by decide +kernel
theorem dX8_rewrite_1 : decode cX8_rewrite 1 = .ok (.lload_n 1, 1) := by decide +kernel
theorem dX8_rewrite_2 : decode cX8_rewrite 2 = .ok (.iload_n 3, 1) := by decide +kernel
theorem dX8_rewrite_3 : decode cX8_rewrite 3 = .ok (.iload 4, 2) := by decide +kernel
theorem dX8_rewrite_5 : decode cX8_rewrite 5 = .ok (.invokevirtual 205, 3) := by decide +kernel
theorem dX8_rewrite_8 : decode cX8_rewrite 8 = .ok (.istore 5, 2) := by decide +kernel
theorem dX8_rewrite_10 : decode cX8_rewrite 10 = .ok (.iload 5, 2) := by decide +kernel
theorem dX8_rewrite_12 : decode cX8_rewrite 12 = .ok (.ifCond .ge 9, 3) := by decide +kernel
theorem dX8_rewrite_15 : decode cX8_rewrite 15 = .ok (.iload 5, 2) := by decide +kernel
theorem dX8_rewrite_17 : decode cX8_rewrite 17 = .ok (.i2l, 1) := by decide +kernel
theorem dX8_rewrite_18 : decode cX8_rewrite 18 = .ok (.goto 20, 3) := by decide +kernel
theorem dX8_rewrite_21 : decode cX8_rewrite 21 = .ok (.iload 5, 2) := by decide +kernel
theorem dX8_rewrite_23 : decode cX8_rewrite 23 = .ok (.ifCond .ne 9, 3) := by decide +kernel
theorem dX8_rewrite_26 : decode cX8_rewrite 26 = .ok (.ldc2_w 209, 3) := by decide +kernel
theorem dX8_rewrite_29 : decode cX8_rewrite 29 = .ok (.goto 9, 3) := by decide +kernel
theorem dX8_rewrite_32 : decode cX8_rewrite 32 = .ok (.aload_n 0, 1) := by decide +kernel
theorem dX8_rewrite_33 : decode cX8_rewrite 33 = .ok (.iload 4, 2) := by decide +kernel
theorem dX8_rewrite_35 : decode cX8_rewrite 35 = .ok (.invokevirtual 211, 3) := by decide +kernel
theorem dX8_rewrite_38 : decode cX8_rewrite 38 = .ok (.lreturn, 1) := by decide +kernel
set_option maxRecDepth 20000 in
theorem ggX8_firstStep_X8_applies : GoodIn wsX8_firstStep wsX8_applies := goodIn_r _ [6, 7, 8, 9, 10, 11, 5, 12, 13, 14, 15, 16, 17, 18, 19, 20, 21, 22, 23, 24, 25, 26, 27, 28, 29, 30, 31, 32, 33, 34, 35, 36, 37, 38, 39, 40, 41, 42, 43, 44, 45, 46, 47, 48, 49, 50, 51, 52, 53, 54, 55, 56, 57, 58, 59, 60, 61, 62, 63, 64, 65, 66, 67, 68, 69, 70, 71, 72, 73, 74, 75, 76, 77, 78, 79, 80, 81, 82, 83, 84, 85, 86, 87, 88, 89, 90, 91, 92, 93, 94, 95, 96, 97, 98, 99, 100, 101, 102, 103, 104, 105, 106, 107] rfl (by decide +kernel)
set_option maxRecDepth 20000 in
theorem gX8_firstStep_X8_applies : GoodIn wsX8_firstStep (wsV RX8 202 RX8 yX8_applies wsX8_applies) := goodIn_app (goodIn_of _ (by decide +kernel)) ggX8_firstStep_X8_applies
theorem dX8_firstStep_0 : decode cX8_firstStep 0 = .ok (.iconst 0, 1) := by decide +kernel
theorem dX8_firstStep_1 : decode cX8_firstStep 1 = .ok (.istore_n 1, 1) := by decide +kernel
theorem dX8_firstStep_2 : decode cX8_firstStep 2 = .ok (.iload_n 1, 1) := by decide +kernel
theorem dX8_firstStep_3 : decode cX8_firstStep 3 = .ok (.bipush 16, 2) := by decide +kernel
theorem dX8_firstStep_5 : decode cX8_firstStep 5 = .ok (.aload_n 0, 1) := by decide +kernel
theorem dX8_firstStep_6 : decode cX8_firstStep 6 = .ok (.getfield 78, 3) := by decide +kernel
theorem dX8_firstStep_9 : decode cX8_firstStep 9 = .ok (.imul, 1) := by decide +kernel
theorem dX8_firstStep_10 : decode cX8_firstStep 10 = .ok (.if_icmp .ge 26, 3) := by decide +kernel
theorem dX8_firstStep_13 : decode cX8_firstStep 13 = .ok (.aload_n 0, 1) := by decide +kernel
theorem dX8_firstStep_14 : decode cX8_firstStep 14 = .ok (.iload_n 1, 1) := by decide +kernel
theorem dX8_firstStep_15 : decode cX8_firstStep 15 = .ok (.bipush 16, 2) := by decide +kernel
theorem dX8_firstStep_17 : decode cX8_firstStep 17 = .ok (.irem, 1) := by decide +kernel
theorem dX8_firstStep_18 : decode cX8_firstStep 18 = .ok (.iload_n 1, 1) := by decide +kernel
theorem dX8_firstStep_19 : decode cX8_firstStep 19 = .ok (.bipush 16, 2) := by decide +kernel
theorem dX8_firstStep_21 : decode cX8_firstStep 21 = .ok (.idiv, 1) := by decide +kernel
theorem dX8_firstStep_22 : decode cX8_firstStep 22 = .ok (.invokevirtual 202, 3) := by decide +kernel
theorem dX8_firstStep_25 : decode cX8_firstStep 25 = .ok (.ifCond .eq 5, 3) := by decide +kernel
theorem dX8_firstStep_28 : decode cX8_firstStep 28 = .ok (.iload_n 1, 1) := by decide +kernel
theorem dX8_firstStep_29 : decode cX8_firstStep 29 = .ok (.ireturn, 1) := by decide +kernel
theorem dX8_firstStep_30 : decode cX8_firstStep 30 = .ok (.iinc 1 1, 3) := by decide +kernel
theorem dX8_firstStep_33 : decode cX8_firstStep 33 = .ok (.goto (-31), 3) := by decide +kernel
theorem dX8_firstStep_36 : decode cX8_firstStep 36 = .ok (.bipush (-9), 2) := by decide +kernel
theorem dX8_firstStep_38 : decode cX8_firstStep 38 = .ok (.ireturn, 1) := by decide +kernel
set_option maxRecDepth 20000 in
theorem ggX8_firstPosition_X8_parses : GoodIn wsX8_firstPosition wsX8_parses := goodIn_r _ [5, 6, 7, 8, 9, 10, 4, 11, 90, 91, 92, 93, 94, 95, 96, 97, 98, 99, 100, 101, 102, 103, 104, 105, 106, 107, 108, 109, 110, 111, 112, 113, 114, 115, 116, 117, 118, 119] rfl (by decide +kernel)
set_option maxRecDepth 20000 in
theorem gX8_firstPosition_X8_parses : GoodIn wsX8_firstPosition (wsV RX8 92 RX8 yX8_parses wsX8_parses) := goodIn_app (goodIn_of _ (by decide +kernel)) ggX8_firstPosition_X8_parses
set_option maxRecDepth 20000 in
theorem ggX8_firstPosition_X8_firstStep : GoodIn wsX8_firstPosition wsX8_firstStep := goodIn_r _ [15, 6, 16, 17, 18, 4, 19, 20, 8, 21, 22, 23, 24, 25, 26, 27, 28, 29, 30, 31, 32, 33, 34, 35, 36, 37, 38, 39, 40, 41, 42, 43, 44, 45, 46, 47, 48, 49, 50, 51, 52, 53, 54, 55, 56, 57, 58, 59, 60, 61, 62, 63, 64, 65, 66, 67, 68, 69, 70, 71, 72, 73, 74, 75, 76, 77, 78, 79, 80, 81, 82, 83, 84, 85, 86, 87, 88, 89, 90, 91, 92, 93, 94, 95, 96, 97, 98, 99, 100, 101, 102, 103, 104, 105, 106, 107, 108, 109, 110, 111, 112, 113, 114, 115, 116, 117, 118, 119] rfl (by decide +kernel)
set_option maxRecDepth 20000 in
theorem gX8_firstPosition_X8_firstStep : GoodIn wsX8_firstPosition (wsV RX8 215 RX8 yX8_firstStep wsX8_firstStep) := goodIn_app (goodIn_of _ (by decide +kernel)) ggX8_firstPosition_X8_firstStep
theorem dX8_firstPosition_0 : decode cX8_firstPosition 0 = .ok (.aload_n 0, 1) := by decide +kernel
theorem dX8_firstPosition_1 : decode cX8_firstPosition 1 = .ok (.lload_n 1, 1) := by decide +kernel
theorem dX8_firstPosition_2 : decode cX8_firstPosition 2 = .ok (.invokevirtual 92, 3) := by decide +kernel
theorem dX8_firstPosition_5 : decode cX8_firstPosition 5 = .ok (.ifCond .ne 5, 3) := by decide +kernel
theorem dX8_firstPosition_8 : decode cX8_firstPosition 8 = .ok (.iconst (-1), 1) := by decide +kernel
theorem dX8_firstPosition_9 : decode cX8_firstPosition 9 = .ok (.ireturn, 1) := by decide +kernel
theorem dX8_firstPosition_10 : decode cX8_firstPosition 10 = .ok (.aload_n 0, 1) := by decide +kernel
theorem dX8_firstPosition_11 : decode cX8_firstPosition 11 = .ok (.invokevirtual 215, 3) := by decide +kernel
theorem dX8_firstPosition_14 : decode cX8_firstPosition 14 = .ok (.istore_n 3, 1) := by decide +kernel
theorem dX8_firstPosition_15 : decode cX8_firstPosition 15 = .ok (.iload_n 3, 1) := by decide +kernel
theorem dX8_firstPosition_16 : decode cX8_firstPosition 16 = .ok (.bipush (-9), 2) := by decide +kernel
theorem dX8_firstPosition_18 : decode cX8_firstPosition 18 = .ok (.if_icmp .ne 8, 3) := by decide +kernel
theorem dX8_firstPosition_21 : decode cX8_firstPosition 21 = .ok (.bipush (-9), 2) := by decide +kernel
theorem dX8_firstPosition_23 : decode cX8_firstPosition 23 = .ok (.goto 7, 3) := by decide +kernel
theorem dX8_firstPosition_26 : decode cX8_firstPosition 26 = .ok (.iload_n 3, 1) := by decide +kernel
theorem dX8_firstPosition_27 : decode cX8_firstPosition 27 = .ok (.bipush 16, 2) := by decide +kernel
theorem dX8_firstPosition_29 : decode cX8_firstPosition 29 = .ok (.idiv, 1) := by decide +kernel
theorem dX8_firstPosition_30 : decode cX8_firstPosition 30 = .ok (.ireturn, 1) := by decide +kernel
set_option maxRecDepth 20000 in
theorem ggX8_firstRule_X8_parses : GoodIn wsX8_firstRule wsX8_parses := goodIn_r _ [5, 6, 7, 8, 9, 10, 4, 11, 90, 91, 92, 93, 94, 95, 96, 97, 98, 99, 100, 101, 102, 103, 104, 105, 106, 107, 108, 109, 110, 111, 112, 113, 114, 115, 116, 117, 118, 119] rfl (by decide +kernel)
set_option maxRecDepth 20000 in
theorem gX8_firstRule_X8_parses : GoodIn wsX8_firstRule (wsV RX8 92 RX8 yX8_parses wsX8_parses) := goodIn_app (goodIn_of _ (by decide +kernel)) ggX8_firstRule_X8_parses
set_option maxRecDepth 20000 in
theorem ggX8_firstRule_X8_firstStep : GoodIn wsX8_firstRule wsX8_firstStep := goodIn_r _ [15, 6, 16, 17, 18, 4, 19, 20, 8, 21, 22, 23, 24, 25, 26, 27, 28, 29, 30, 31, 32, 33, 34, 35, 36, 37, 38, 39, 40, 41, 42, 43, 44, 45, 46, 47, 48, 49, 50, 51, 52, 53, 54, 55, 56, 57, 58, 59, 60, 61, 62, 63, 64, 65, 66, 67, 68, 69, 70, 71, 72, 73, 74, 75, 76, 77, 78, 79, 80, 81, 82, 83, 84, 85, 86, 87, 88, 89, 90, 91, 92, 93, 94, 95, 96, 97, 98, 99, 100, 101, 102, 103, 104, 105, 106, 107, 108, 109, 110, 111, 112, 113, 114, 115, 116, 117, 118, 119] rfl (by decide +kernel)
set_option maxRecDepth 20000 in
theorem gX8_firstRule_X8_firstStep : GoodIn wsX8_firstRule (wsV RX8 215 RX8 yX8_firstStep wsX8_firstStep) := goodIn_app (goodIn_of _ (by decide +kernel)) ggX8_firstRule_X8_firstStep
theorem dX8_firstRule_0 : decode cX8_firstRule 0 = .ok (.aload_n 0, 1) := by decide +kernel
theorem dX8_firstRule_1 : decode cX8_firstRule 1 = .ok (.lload_n 1, 1) := by decide +kernel
theorem dX8_firstRule_2 : decode cX8_firstRule 2 = .ok (.invokevirtual 92, 3) := by decide +kernel
theorem dX8_firstRule_5 : decode cX8_firstRule 5 = .ok (.ifCond .ne 5, 3) := by decide +kernel
theorem dX8_firstRule_8 : decode cX8_firstRule 8 = .ok (.iconst (-1), 1) := by decide +kernel
theorem dX8_firstRule_9 : decode cX8_firstRule 9 = .ok (.ireturn, 1) := by decide +kernel
theorem dX8_firstRule_10 : decode cX8_firstRule 10 = .ok (.aload_n 0, 1) := by decide +kernel
theorem dX8_firstRule_11 : decode cX8_firstRule 11 = .ok (.invokevirtual 215, 3) := by decide +kernel
theorem dX8_firstRule_14 : decode cX8_firstRule 14 = .ok (.istore_n 3, 1) := by decide +kernel
theorem dX8_firstRule_15 : decode cX8_firstRule 15 = .ok (.iload_n 3, 1) := by decide +kernel
theorem dX8_firstRule_16 : decode cX8_firstRule 16 = .ok (.bipush (-9), 2) := by decide +kernel
theorem dX8_firstRule_18 : decode cX8_firstRule 18 = .ok (.if_icmp .ne 8, 3) := by decide +kernel
theorem dX8_firstRule_21 : decode cX8_firstRule 21 = .ok (.bipush (-9), 2) := by decide +kernel
theorem dX8_firstRule_23 : decode cX8_firstRule 23 = .ok (.goto 7, 3) := by decide +kernel
theorem dX8_firstRule_26 : decode cX8_firstRule 26 = .ok (.iload_n 3, 1) := by decide +kernel
theorem dX8_firstRule_27 : decode cX8_firstRule 27 = .ok (.bipush 16, 2) := by decide +kernel
theorem dX8_firstRule_29 : decode cX8_firstRule 29 = .ok (.irem, 1) := by decide +kernel
theorem dX8_firstRule_30 : decode cX8_firstRule 30 = .ok (.ireturn, 1) := by decide +kernel
set_option maxRecDepth 20000 in
theorem ggX8_load_X8_parses : GoodIn wsX8_load wsX8_parses := goodIn_r _ [8, 3, 9, 10, 11, 12, 7, 13, 14, 15, 16, 17, 18, 19, 20, 21, 22, 23, 24, 25, 26, 27, 28, 29, 30, 31, 32, 33, 34, 35, 36, 37, 38, 39, 40, 41, 42, 43] rfl (by decide +kernel)
set_option maxRecDepth 20000 in
theorem gX8_load_X8_parses : GoodIn wsX8_load (wsV RX8 92 RX8 yX8_parses wsX8_parses) := goodIn_app (goodIn_of _ (by decide +kernel)) ggX8_load_X8_parses
theorem dX8_load_0 : decode cX8_load 0 = .ok (.aload_n 0, 1) := by decide +kernel
theorem dX8_load_1 : decode cX8_load 1 = .ok (.lload_n 1, 1) := by decide +kernel
theorem dX8_load_2 : decode cX8_load 2 = .ok (.invokevirtual 92, 3) := by decide +kernel
theorem dX8_load_5 : decode cX8_load 5 = .ok (.ifCond .ne 5, 3) := by decide +kernel
theorem dX8_load_8 : decode cX8_load 8 = .ok (.iconst (-1), 1) := by decide +kernel
theorem dX8_load_9 : decode cX8_load 9 = .ok (.ireturn, 1) := by decide +kernel
theorem dX8_load_10 : decode cX8_load 10 = .ok (.aload_n 0, 1) := by decide +kernel
theorem dX8_load_11 : decode cX8_load 11 = .ok (.lload_n 1, 1) := by decide +kernel
theorem dX8_load_12 : decode cX8_load 12 = .ok (.putfield 74, 3) := by decide +kernel
theorem dX8_load_15 : decode cX8_load 15 = .ok (.aload_n 0, 1) := by decide +kernel
theorem dX8_load_16 : decode cX8_load 16 = .ok (.iconst 0, 1) := by decide +kernel
theorem dX8_load_17 : decode cX8_load 17 = .ok (.putfield 219, 3) := by decide +kernel
theorem dX8_load_20 : decode cX8_load 20 = .ok (.aload_n 0, 1) := by decide +kernel
theorem dX8_load_21 : decode cX8_load 21 = .ok (.getfield 78, 3) := by decide +kernel
theorem dX8_load_24 : decode cX8_load 24 = .ok (.ireturn, 1) := by decide +kernel
theorem dX8_current_0 : decode cX8_current 0 = .ok (.aload_n 0, 1) := by decide +kernel
theorem dX8_current_1 : decode cX8_current 1 = .ok (.getfield 74, 3) := by decide +kernel
theorem dX8_current_4 : decode cX8_current 4 = .ok (.lreturn, 1) := by decide +kernel
theorem dX8_records_0 : decode cX8_records 0 = .ok (.aload_n 0, 1) := by decide +kernel
theorem dX8_records_1 : decode cX8_records 1 = .ok (.getfield 58, 3) := by decide +kernel
theorem dX8_records_4 : decode cX8_records 4 = .ok (.aload_n 0, 1) := by decide +kernel
theorem dX8_records_5 : decode cX8_records 5 = .ok (.getfield 219, 3) := by decide +kernel
theorem dX8_records_8 : decode cX8_records 8 = .ok (.iload_n 1, 1) := by decide +kernel
theorem dX8_records_9 : decode cX8_records 9 = .ok (.iastore, 1) := by decide +kernel
theorem dX8_records_10 : decode cX8_records 10 = .ok (.aload_n 0, 1) := by decide +kernel
theorem dX8_records_11 : decode cX8_records 11 = .ok (.getfield 61, 3) := by decide +kernel
theorem dX8_records_14 : decode cX8_records 14 = .ok (.aload_n 0, 1) := by decide +kernel
theorem dX8_records_15 : decode cX8_records 15 = .ok (.getfield 219, 3) := by decide +kernel
theorem dX8_records_18 : decode cX8_records 18 = .ok (.iload_n 2, 1) := by decide +kernel
theorem dX8_records_19 : decode cX8_records 19 = .ok (.iastore, 1) := by decide +kernel
theorem dX8_records_20 : decode cX8_records 20 = .ok (.aload_n 0, 1) := by decide +kernel
theorem dX8_records_21 : decode cX8_records 21 = .ok (.getfield 64, 3) := by decide +kernel
theorem dX8_records_24 : decode cX8_records 24 = .ok (.aload_n 0, 1) := by decide +kernel
theorem dX8_records_25 : decode cX8_records 25 = .ok (.getfield 219, 3) := by decide +kernel
theorem dX8_records_28 : decode cX8_records 28 = .ok (.aload_n 0, 1) := by decide +kernel
theorem dX8_records_29 : decode cX8_records 29 = .ok (.getfield 74, 3) := by decide +kernel
theorem dX8_records_32 : decode cX8_records 32 = .ok (.lastore, 1) := by decide +kernel
theorem dX8_records_33 : decode cX8_records 33 = .ok (.aload_n 0, 1) := by decide +kernel
theorem dX8_records_34 : decode cX8_records 34 = .ok (.dup, 1) := by decide +kernel
theorem dX8_records_35 : decode cX8_records 35 = .ok (.getfield 219, 3) := by decide +kernel
theorem dX8_records_38 : decode cX8_records 38 = .ok (.iconst 1, 1) := by decide +kernel
theorem dX8_records_39 : decode cX8_records 39 = .ok (.iadd, 1) := by decide +kernel
theorem dX8_records_40 : decode cX8_records 40 = .ok (.putfield 219, 3) := by decide +kernel
theorem dX8_records_43 : decode cX8_records 43 = .ok (.aload_n 0, 1) := by decide +kernel
theorem dX8_records_44 : decode cX8_records 44 = .ok (.lload_n 3, 1) := by decide +kernel
theorem dX8_records_45 : decode cX8_records 45 = .ok (.putfield 74, 3) := by decide +kernel
theorem dX8_records_48 : decode cX8_records 48 = .ok (.return_, 1) := by decide +kernel
set_option maxRecDepth 20000 in
theorem ggX8_apply_X8_rewrite : GoodIn wsX8_apply wsX8_rewrite := goodIn_r _ [6, 7, 8, 9, 10, 5, 11, 12, 13, 14, 15, 16, 17, 18, 19, 20, 21, 22, 23, 24, 25, 26, 27, 28, 29, 30, 31, 32, 33, 34, 35, 36, 37, 38, 39, 40, 41, 42, 43, 44, 45, 46, 47, 48, 49, 50, 51, 52, 53, 54, 55, 56, 57, 58, 59, 60, 61, 62, 63, 64, 65, 66, 67, 68, 69, 70, 71, 72, 73, 74, 75, 76, 77, 78, 79, 80, 81, 82, 83, 84, 85, 86, 87, 88, 89, 90, 91, 92, 93, 94, 95, 96, 97, 98, 99, 100, 101, 102, 115, 116, 117, 118, 119, 120, 121, 122, 123, 124, 125, 126, 127, 128, 129, 130, 131, 132, 133, 134, 135, 136, 137, 138, 139, 140, 141, 142, 143, 144] rfl (by decide +kernel)
set_option maxRecDepth 20000 in
theorem gX8_apply_X8_rewrite : GoodIn wsX8_apply (wsV RX8 222 RX8 yX8_rewrite wsX8_rewrite) := goodIn_app (goodIn_of _ (by decide +kernel)) ggX8_apply_X8_rewrite
set_option maxRecDepth 20000 in
theorem ggX8_apply_X8_records : GoodIn wsX8_apply wsX8_records := goodIn_r _ [106, 107, 108, 109, 110, 1, 115, 116, 117, 118, 119, 120, 121, 122, 123, 124, 125, 126, 127, 128, 129, 130, 131, 132, 133, 134, 135, 136, 137, 138, 139, 140, 141, 142, 143, 144] rfl (by decide +kernel)
set_option maxRecDepth 20000 in
theorem gX8_apply_X8_records : GoodIn wsX8_apply (wsV RX8 226 RX8 yX8_records wsX8_records) := goodIn_app (goodIn_of _ (by decide +kernel)) ggX8_apply_X8_records
set_option maxRecDepth 20000 in
theorem ggX8_apply_X8_size : GoodIn wsX8_apply wsX8_size := goodIn_r _ [114, 12, 13, 14, 15, 5, 16, 17, 18, 19, 20, 21, 115, 116, 117, 118, 119, 120, 121, 122, 123, 124, 125, 126, 127, 128, 129, 130, 131, 132, 133, 134, 135, 136, 137, 138, 139, 140, 141, 142, 143, 144] rfl (by decide +kernel)
set_option maxRecDepth 20000 in
theorem gX8_apply_X8_size : GoodIn wsX8_apply (wsV RX8 230 RX8 yX8_size wsX8_size) := goodIn_app (goodIn_of _ (by decide +kernel)) ggX8_apply_X8_size
theorem dX8_apply_0 : decode cX8_apply 0 = .ok (.aload_n 0, 1) := by decide +kernel
theorem dX8_apply_1 : decode cX8_apply 1 = .ok (.aload_n 0, 1) := by decide +kernel
theorem dX8_apply_2 : decode cX8_apply 2 = .ok (.getfield 74, 3) := by decide +kernel
theorem dX8_apply_5 : decode cX8_apply 5 = .ok (.iload_n 1, 1) := by decide +kernel
theorem dX8_apply_6 : decode cX8_apply 6 = .ok (.iload_n 2, 1) := by decide +kernel
theorem dX8_apply_7 : decode cX8_apply 7 = .ok (.invokevirtual 222, 3) := by decide +kernel
theorem dX8_apply_10 : decode cX8_apply 10 = .ok (.lstore_n 3, 1) := by decide +kernel
theorem dX8_apply_11 : decode cX8_apply 11 = .ok (.lload_n 3, 1) := by decide +kernel
theorem dX8_apply_12 : decode cX8_apply 12 = .ok (.lconst 0, 1) := by decide +kernel
theorem dX8_apply_13 : decode cX8_apply 13 = .ok (.lcmp, 1) := by decide +kernel
theorem dX8_apply_14 : decode cX8_apply 14 = .ok (.ifCond .ge 6, 3) := by decide +kernel
theorem dX8_apply_17 : decode cX8_apply 17 = .ok (.lload_n 3, 1) := by decide +kernel
theorem dX8_apply_18 : decode cX8_apply 18 = .ok (.l2i, 1) := by decide +kernel
theorem dX8_apply_19 : decode cX8_apply 19 = .ok (.ireturn, 1) := by decide +kernel
theorem dX8_apply_20 : decode cX8_apply 20 = .ok (.aload_n 0, 1) := by decide +kernel
theorem dX8_apply_21 : decode cX8_apply 21 = .ok (.iload_n 1, 1) := by decide +kernel
theorem dX8_apply_22 : decode cX8_apply 22 = .ok (.iload_n 2, 1) := by decide +kernel
theorem dX8_apply_23 : decode cX8_apply 23 = .ok (.lload_n 3, 1) := by decide +kernel
theorem dX8_apply_24 : decode cX8_apply 24 = .ok (.invokevirtual 226, 3) := by decide +kernel
theorem dX8_apply_27 : decode cX8_apply 27 = .ok (.aload_n 0, 1) := by decide +kernel
theorem dX8_apply_28 : decode cX8_apply 28 = .ok (.aload_n 0, 1) := by decide +kernel
theorem dX8_apply_29 : decode cX8_apply 29 = .ok (.getfield 74, 3) := by decide +kernel
theorem dX8_apply_32 : decode cX8_apply 32 = .ok (.invokevirtual 230, 3) := by decide +kernel
theorem dX8_apply_35 : decode cX8_apply 35 = .ok (.ireturn, 1) := by decide +kernel
set_option maxRecDepth 20000 in
theorem ggX8_simplify_X8_parses : GoodIn wsX8_simplify wsX8_parses := goodIn_r _ [6, 7, 8, 9, 10, 11, 5, 12, 103, 104, 105, 106, 107, 108, 109, 110, 111, 112, 113, 114, 115, 116, 117, 118, 119, 120, 121, 122, 123, 124, 125, 126, 127, 128, 129, 130, 131, 132] rfl (by decide +kernel)
set_option maxRecDepth 20000 in
theorem gX8_simplify_X8_parses : GoodIn wsX8_simplify (wsV RX8 92 RX8 yX8_parses wsX8_parses) := goodIn_app (goodIn_of _ (by decide +kernel)) ggX8_simplify_X8_parses
set_option maxRecDepth 20000 in
theorem ggX8_simplify_X8_firstStep : GoodIn wsX8_simplify wsX8_firstStep := goodIn_r _ [16, 7, 17, 18, 19, 5, 20, 21, 9, 22, 23, 24, 25, 26, 27, 28, 29, 30, 31, 32, 33, 34, 35, 36, 37, 38, 39, 40, 41, 42, 43, 44, 45, 46, 47, 48, 49, 50, 51, 52, 53, 54, 55, 56, 57, 58, 59, 60, 61, 62, 63, 64, 65, 66, 67, 68, 69, 70, 71, 72, 73, 74, 75, 76, 77, 78, 79, 80, 81, 82, 83, 84, 85, 86, 87, 88, 89, 90, 103, 104, 105, 106, 107, 108, 109, 110, 111, 112, 113, 114, 115, 116, 117, 118, 119, 120, 121, 122, 123, 124, 125, 126, 127, 128, 129, 130, 131, 132] rfl (by decide +kernel)
set_option maxRecDepth 20000 in
theorem gX8_simplify_X8_firstStep : GoodIn wsX8_simplify (wsV RX8 215 RX8 yX8_firstStep wsX8_firstStep) := goodIn_app (goodIn_of _ (by decide +kernel)) ggX8_simplify_X8_firstStep
set_option maxRecDepth 20000 in
theorem ggX8_simplify_X8_replaced : GoodIn wsX8_simplify wsX8_replaced := goodIn_r _ [94, 8, 9, 21, 34, 7, 26, 27, 28, 5, 29, 103, 104, 105, 106, 107, 108, 109, 110, 111, 112, 113, 114, 115, 116, 117, 118, 119, 120, 121, 122, 123, 124, 125, 126, 127, 128, 129, 130, 131, 132] rfl (by decide +kernel)
set_option maxRecDepth 20000 in
theorem gX8_simplify_X8_replaced : GoodIn wsX8_simplify (wsV RX8 211 RX8 yX8_replaced wsX8_replaced) := goodIn_app (goodIn_of _ (by decide +kernel)) ggX8_simplify_X8_replaced
set_option maxRecDepth 20000 in
theorem ggX8_simplify_X8_records : GoodIn wsX8_simplify wsX8_records := goodIn_r _ [98, 99, 100, 101, 102, 1, 103, 104, 105, 106, 107, 108, 109, 110, 111, 112, 113, 114, 115, 116, 117, 118, 119, 120, 121, 122, 123, 124, 125, 126, 127, 128, 129, 130, 131, 132] rfl (by decide +kernel)
set_option maxRecDepth 20000 in
theorem gX8_simplify_X8_records : GoodIn wsX8_simplify (wsV RX8 226 RX8 yX8_records wsX8_records) := goodIn_app (goodIn_of _ (by decide +kernel)) ggX8_simplify_X8_records
theorem dX8_simplify_0 : decode cX8_simplify 0 = .ok (.iconst 0, 1) := by decide +kernel
theorem dX8_simplify_1 : decode cX8_simplify 1 = .ok (.istore_n 1, 1) := by decide +kernel
theorem dX8_simplify_2 : decode cX8_simplify 2 = .ok (.aload_n 0, 1) := by decide +kernel
theorem dX8_simplify_3 : decode cX8_simplify 3 = .ok (.aload_n 0, 1) := by decide +kernel
theorem dX8_simplify_4 : decode cX8_simplify 4 = .ok (.getfield 74, 3) := by decide +kernel
theorem dX8_simplify_7 : decode cX8_simplify 7 = .ok (.invokevirtual 92, 3) := by decide +kernel
theorem dX8_simplify_10 : decode cX8_simplify 10 = .ok (.pop, 1) := by decide +kernel
theorem dX8_simplify_11 : decode cX8_simplify 11 = .ok (.aload_n 0, 1) := by decide +kernel
theorem dX8_simplify_12 : decode cX8_simplify 12 = .ok (.invokevirtual 215, 3) := by decide +kernel
theorem dX8_simplify_15 : decode cX8_simplify 15 = .ok (.istore_n 2, 1) := by decide +kernel
theorem dX8_simplify_16 : decode cX8_simplify 16 = .ok (.iload_n 2, 1) := by decide +kernel
theorem dX8_simplify_17 : decode cX8_simplify 17 = .ok (.bipush (-9), 2) := by decide +kernel
theorem dX8_simplify_19 : decode cX8_simplify 19 = .ok (.if_icmp .eq 43, 3) := by decide +kernel
theorem dX8_simplify_22 : decode cX8_simplify 22 = .ok (.aload_n 0, 1) := by decide +kernel
theorem dX8_simplify_23 : decode cX8_simplify 23 = .ok (.iload_n 2, 1) := by decide +kernel
theorem dX8_simplify_24 : decode cX8_simplify 24 = .ok (.bipush 16, 2) := by decide +kernel
theorem dX8_simplify_26 : decode cX8_simplify 26 = .ok (.irem, 1) := by decide +kernel
theorem dX8_simplify_27 : decode cX8_simplify 27 = .ok (.iload_n 2, 1) := by decide +kernel
theorem dX8_simplify_28 : decode cX8_simplify 28 = .ok (.bipush 16, 2) := by decide +kernel
theorem dX8_simplify_30 : decode cX8_simplify 30 = .ok (.idiv, 1) := by decide +kernel
theorem dX8_simplify_31 : decode cX8_simplify 31 = .ok (.aload_n 0, 1) := by decide +kernel
theorem dX8_simplify_32 : decode cX8_simplify 32 = .ok (.iload_n 2, 1) := by decide +kernel
theorem dX8_simplify_33 : decode cX8_simplify 33 = .ok (.bipush 16, 2) := by decide +kernel
theorem dX8_simplify_35 : decode cX8_simplify 35 = .ok (.idiv, 1) := by decide +kernel
theorem dX8_simplify_36 : decode cX8_simplify 36 = .ok (.invokevirtual 211, 3) := by decide +kernel
theorem dX8_simplify_39 : decode cX8_simplify 39 = .ok (.invokevirtual 226, 3) := by decide +kernel
theorem dX8_simplify_42 : decode cX8_simplify 42 = .ok (.iinc 1 1, 3) := by decide +kernel
theorem dX8_simplify_45 : decode cX8_simplify 45 = .ok (.aload_n 0, 1) := by decide +kernel
theorem dX8_simplify_46 : decode cX8_simplify 46 = .ok (.aload_n 0, 1) := by decide +kernel
theorem dX8_simplify_47 : decode cX8_simplify 47 = .ok (.getfield 74, 3) := by decide +kernel
theorem dX8_simplify_50 : decode cX8_simplify 50 = .ok (.invokevirtual 92, 3) := by decide +kernel
theorem dX8_simplify_53 : decode cX8_simplify 53 = .ok (.pop, 1) := by decide +kernel
theorem dX8_simplify_54 : decode cX8_simplify 54 = .ok (.aload_n 0, 1) := by decide +kernel
theorem dX8_simplify_55 : decode cX8_simplify 55 = .ok (.invokevirtual 215, 3) := by decide +kernel
theorem dX8_simplify_58 : decode cX8_simplify 58 = .ok (.istore_n 2, 1) := by decide +kernel
theorem dX8_simplify_59 : decode cX8_simplify 59 = .ok (.goto (-43), 3) := by decide +kernel
theorem dX8_simplify_62 : decode cX8_simplify 62 = .ok (.iload_n 1, 1) := by decide +kernel
theorem dX8_simplify_63 : decode cX8_simplify 63 = .ok (.ireturn, 1) := by decide +kernel
set_option maxRecDepth 20000 in
theorem ggX8_undo_X8_within : GoodIn wsX8_undo wsX8_within := goodIn_r _ [7] rfl (by decide +kernel)
set_option maxRecDepth 20000 in
theorem gX8_undo_X8_within : GoodIn wsX8_undo (va_wsS RX8 84 yX8_within wsX8_within) := goodIn_app (goodIn_of _ (by decide +kernel)) ggX8_undo_X8_within
theorem dX8_undo_0 : decode cX8_undo 0 = .ok (.iload_n 1, 1) := by decide +kernel
theorem dX8_undo_1 : decode cX8_undo 1 = .ok (.iconst 0, 1) := by decide +kernel
theorem dX8_undo_2 : decode cX8_undo 2 = .ok (.aload_n 0, 1) := by decide +kernel
theorem dX8_undo_3 : decode cX8_undo 3 = .ok (.getfield 219, 3) := by decide +kernel
theorem dX8_undo_6 : decode cX8_undo 6 = .ok (.invokestatic 84, 3) := by decide +kernel
theorem dX8_undo_9 : decode cX8_undo 9 = .ok (.ifCond .ne 6, 3) := by decide +kernel
theorem dX8_undo_12 : decode cX8_undo 12 = .ok (.bipush (-5), 2) := by decide +kernel
theorem dX8_undo_14 : decode cX8_undo 14 = .ok (.ireturn, 1) := by decide +kernel
theorem dX8_undo_15 : decode cX8_undo 15 = .ok (.aload_n 0, 1) := by decide +kernel
theorem dX8_undo_16 : decode cX8_undo 16 = .ok (.dup, 1) := by decide +kernel
theorem dX8_undo_17 : decode cX8_undo 17 = .ok (.getfield 219, 3) := by decide +kernel
theorem dX8_undo_20 : decode cX8_undo 20 = .ok (.iload_n 1, 1) := by decide +kernel
theorem dX8_undo_21 : decode cX8_undo 21 = .ok (.isub, 1) := by decide +kernel
theorem dX8_undo_22 : decode cX8_undo 22 = .ok (.putfield 219, 3) := by decide +kernel
theorem dX8_undo_25 : decode cX8_undo 25 = .ok (.aload_n 0, 1) := by decide +kernel
theorem dX8_undo_26 : decode cX8_undo 26 = .ok (.iload_n 1, 1) := by decide +kernel
theorem dX8_undo_27 : decode cX8_undo 27 = .ok (.ifCond .le 15, 3) := by decide +kernel
theorem dX8_undo_30 : decode cX8_undo 30 = .ok (.aload_n 0, 1) := by decide +kernel
theorem dX8_undo_31 : decode cX8_undo 31 = .ok (.getfield 64, 3) := by decide +kernel
theorem dX8_undo_34 : decode cX8_undo 34 = .ok (.aload_n 0, 1) := by decide +kernel
theorem dX8_undo_35 : decode cX8_undo 35 = .ok (.getfield 219, 3) := by decide +kernel
theorem dX8_undo_38 : decode cX8_undo 38 = .ok (.laload, 1) := by decide +kernel
theorem dX8_undo_39 : decode cX8_undo 39 = .ok (.goto 7, 3) := by decide +kernel
theorem dX8_undo_42 : decode cX8_undo 42 = .ok (.aload_n 0, 1) := by decide +kernel
theorem dX8_undo_43 : decode cX8_undo 43 = .ok (.getfield 74, 3) := by decide +kernel
theorem dX8_undo_46 : decode cX8_undo 46 = .ok (.putfield 74, 3) := by decide +kernel
theorem dX8_undo_49 : decode cX8_undo 49 = .ok (.aload_n 0, 1) := by decide +kernel
theorem dX8_undo_50 : decode cX8_undo 50 = .ok (.getfield 219, 3) := by decide +kernel
theorem dX8_undo_53 : decode cX8_undo 53 = .ok (.ireturn, 1) := by decide +kernel
theorem dX8_stepCount_0 : decode cX8_stepCount 0 = .ok (.aload_n 0, 1) := by decide +kernel
theorem dX8_stepCount_1 : decode cX8_stepCount 1 = .ok (.getfield 219, 3) := by decide +kernel
theorem dX8_stepCount_4 : decode cX8_stepCount 4 = .ok (.ireturn, 1) := by decide +kernel
set_option maxRecDepth 20000 in
theorem ggX8_stepRule_X8_within : GoodIn wsX8_stepRule wsX8_within := goodIn_r _ [6] rfl (by decide +kernel)
set_option maxRecDepth 20000 in
theorem gX8_stepRule_X8_within : GoodIn wsX8_stepRule (va_wsS RX8 84 yX8_within wsX8_within) := goodIn_app (goodIn_of _ (by decide +kernel)) ggX8_stepRule_X8_within
theorem dX8_stepRule_0 : decode cX8_stepRule 0 = .ok (.iload_n 1, 1) := by decide +kernel
theorem dX8_stepRule_1 : decode cX8_stepRule 1 = .ok (.iconst 0, 1) := by decide +kernel
theorem dX8_stepRule_2 : decode cX8_stepRule 2 = .ok (.aload_n 0, 1) := by decide +kernel
theorem dX8_stepRule_3 : decode cX8_stepRule 3 = .ok (.getfield 219, 3) := by decide +kernel
theorem dX8_stepRule_6 : decode cX8_stepRule 6 = .ok (.iconst 1, 1) := by decide +kernel
theorem dX8_stepRule_7 : decode cX8_stepRule 7 = .ok (.isub, 1) := by decide +kernel
theorem dX8_stepRule_8 : decode cX8_stepRule 8 = .ok (.invokestatic 84, 3) := by decide +kernel
theorem dX8_stepRule_11 : decode cX8_stepRule 11 = .ok (.ifCond .eq 12, 3) := by decide +kernel
theorem dX8_stepRule_14 : decode cX8_stepRule 14 = .ok (.aload_n 0, 1) := by decide +kernel
theorem dX8_stepRule_15 : decode cX8_stepRule 15 = .ok (.getfield 58, 3) := by decide +kernel
theorem dX8_stepRule_18 : decode cX8_stepRule 18 = .ok (.iload_n 1, 1) := by decide +kernel
theorem dX8_stepRule_19 : decode cX8_stepRule 19 = .ok (.iaload, 1) := by decide +kernel
theorem dX8_stepRule_20 : decode cX8_stepRule 20 = .ok (.goto 5, 3) := by decide +kernel
theorem dX8_stepRule_23 : decode cX8_stepRule 23 = .ok (.bipush (-5), 2) := by decide +kernel
theorem dX8_stepRule_25 : decode cX8_stepRule 25 = .ok (.ireturn, 1) := by decide +kernel
set_option maxRecDepth 20000 in
theorem ggX8_stepPosition_X8_within : GoodIn wsX8_stepPosition wsX8_within := goodIn_r _ [6] rfl (by decide +kernel)
set_option maxRecDepth 20000 in
theorem gX8_stepPosition_X8_within : GoodIn wsX8_stepPosition (va_wsS RX8 84 yX8_within wsX8_within) := goodIn_app (goodIn_of _ (by decide +kernel)) ggX8_stepPosition_X8_within
theorem dX8_stepPosition_0 : decode cX8_stepPosition 0 = .ok (.iload_n 1, 1) := by decide +kernel
theorem dX8_stepPosition_1 : decode cX8_stepPosition 1 = .ok (.iconst 0, 1) := by decide +kernel
theorem dX8_stepPosition_2 : decode cX8_stepPosition 2 = .ok (.aload_n 0, 1) := by decide +kernel
theorem dX8_stepPosition_3 : decode cX8_stepPosition 3 = .ok (.getfield 219, 3) := by decide +kernel
theorem dX8_stepPosition_6 : decode cX8_stepPosition 6 = .ok (.iconst 1, 1) := by decide +kernel
theorem dX8_stepPosition_7 : decode cX8_stepPosition 7 = .ok (.isub, 1) := by decide +kernel
theorem dX8_stepPosition_8 : decode cX8_stepPosition 8 = .ok (.invokestatic 84, 3) := by decide +kernel
theorem dX8_stepPosition_11 : decode cX8_stepPosition 11 = .ok (.ifCond .eq 12, 3) := by decide +kernel
theorem dX8_stepPosition_14 : decode cX8_stepPosition 14 = .ok (.aload_n 0, 1) := by decide +kernel
theorem dX8_stepPosition_15 : decode cX8_stepPosition 15 = .ok (.getfield 61, 3) := by decide +kernel
theorem dX8_stepPosition_18 : decode cX8_stepPosition 18 = .ok (.iload_n 1, 1) := by decide +kernel
theorem dX8_stepPosition_19 : decode cX8_stepPosition 19 = .ok (.iaload, 1) := by decide +kernel
theorem dX8_stepPosition_20 : decode cX8_stepPosition 20 = .ok (.goto 5, 3) := by decide +kernel
theorem dX8_stepPosition_23 : decode cX8_stepPosition 23 = .ok (.bipush (-5), 2) := by decide +kernel
theorem dX8_stepPosition_25 : decode cX8_stepPosition 25 = .ok (.ireturn, 1) := by decide +kernel
set_option maxRecDepth 20000 in
theorem ggX8_applicableCount_X8_parses : GoodIn wsX8_applicableCount wsX8_parses := goodIn_r _ [7, 2, 8, 9, 10, 11, 6, 12, 87, 88, 89, 90, 91, 92, 93, 94, 95, 96, 97, 98, 99, 100, 101, 102, 103, 104, 105, 106, 107, 108, 109, 110, 111, 112, 113, 114, 115, 116] rfl (by decide +kernel)
set_option maxRecDepth 20000 in
theorem gX8_applicableCount_X8_parses : GoodIn wsX8_applicableCount (wsV RX8 92 RX8 yX8_parses wsX8_parses) := goodIn_app (goodIn_of _ (by decide +kernel)) ggX8_applicableCount_X8_parses
set_option maxRecDepth 20000 in
theorem ggX8_applicableCount_X8_applies : GoodIn wsX8_applicableCount wsX8_applies := goodIn_r _ [16, 17, 9, 18, 19, 20, 6, 21, 22, 23, 24, 25, 26, 27, 28, 29, 30, 31, 32, 33, 34, 35, 36, 37, 38, 39, 40, 41, 42, 43, 44, 45, 46, 47, 48, 49, 50, 51, 52, 53, 54, 55, 56, 57, 58, 59, 60, 61, 62, 63, 64, 65, 66, 67, 68, 69, 70, 71, 72, 73, 74, 75, 76, 77, 78, 79, 80, 81, 82, 83, 84, 85, 86, 87, 88, 89, 90, 91, 92, 93, 94, 95, 96, 97, 98, 99, 100, 101, 102, 103, 104, 105, 106, 107, 108, 109, 110, 111, 112, 113, 114, 115, 116] rfl (by decide +kernel)
set_option maxRecDepth 20000 in
theorem gX8_applicableCount_X8_applies : GoodIn wsX8_applicableCount (wsV RX8 202 RX8 yX8_applies wsX8_applies) := goodIn_app (goodIn_of _ (by decide +kernel)) ggX8_applicableCount_X8_applies
theorem dX8_applicableCount_0 : decode cX8_applicableCount 0 = .ok (.aload_n 0, 1) := by decide +kernel
theorem dX8_applicableCount_1 : decode cX8_applicableCount 1 = .ok (.aload_n 0, 1) := by decide +kernel
theorem dX8_applicableCount_2 : decode cX8_applicableCount 2 = .ok (.getfield 74, 3) := by decide +kernel
theorem dX8_applicableCount_5 : decode cX8_applicableCount 5 = .ok (.invokevirtual 92, 3) := by decide +kernel
theorem dX8_applicableCount_8 : decode cX8_applicableCount 8 = .ok (.pop, 1) := by decide +kernel
theorem dX8_applicableCount_9 : decode cX8_applicableCount 9 = .ok (.iconst 0, 1) := by decide +kernel
theorem dX8_applicableCount_10 : decode cX8_applicableCount 10 = .ok (.istore_n 1, 1) := by decide +kernel
theorem dX8_applicableCount_11 : decode cX8_applicableCount 11 = .ok (.iconst 0, 1) := by decide +kernel
theorem dX8_applicableCount_12 : decode cX8_applicableCount 12 = .ok (.istore_n 2, 1) := by decide +kernel
theorem dX8_applicableCount_13 : decode cX8_applicableCount 13 = .ok (.iload_n 2, 1) := by decide +kernel
theorem dX8_applicableCount_14 : decode cX8_applicableCount 14 = .ok (.bipush 16, 2) := by decide +kernel
theorem dX8_applicableCount_16 : decode cX8_applicableCount 16 = .ok (.aload_n 0, 1) := by decide +kernel
theorem dX8_applicableCount_17 : decode cX8_applicableCount 17 = .ok (.getfield 78, 3) := by decide +kernel
theorem dX8_applicableCount_20 : decode cX8_applicableCount 20 = .ok (.imul, 1) := by decide +kernel
theorem dX8_applicableCount_21 : decode cX8_applicableCount 21 = .ok (.if_icmp .ge 32, 3) := by decide +kernel
theorem dX8_applicableCount_24 : decode cX8_applicableCount 24 = .ok (.iload_n 1, 1) := by decide +kernel
theorem dX8_applicableCount_25 : decode cX8_applicableCount 25 = .ok (.aload_n 0, 1) := by decide +kernel
theorem dX8_applicableCount_26 : decode cX8_applicableCount 26 = .ok (.iload_n 2, 1) := by decide +kernel
theorem dX8_applicableCount_27 : decode cX8_applicableCount 27 = .ok (.bipush 16, 2) := by decide +kernel
theorem dX8_applicableCount_29 : decode cX8_applicableCount 29 = .ok (.irem, 1) := by decide +kernel
theorem dX8_applicableCount_30 : decode cX8_applicableCount 30 = .ok (.iload_n 2, 1) := by decide +kernel
theorem dX8_applicableCount_31 : decode cX8_applicableCount 31 = .ok (.bipush 16, 2) := by decide +kernel
theorem dX8_applicableCount_33 : decode cX8_applicableCount 33 = .ok (.idiv, 1) := by decide +kernel
theorem dX8_applicableCount_34 : decode cX8_applicableCount 34 = .ok (.invokevirtual 202, 3) := by decide +kernel
theorem dX8_applicableCount_37 : decode cX8_applicableCount 37 = .ok (.ifCond .eq 7, 3) := by decide +kernel
theorem dX8_applicableCount_40 : decode cX8_applicableCount 40 = .ok (.iconst 1, 1) := by decide +kernel
theorem dX8_applicableCount_41 : decode cX8_applicableCount 41 = .ok (.goto 4, 3) := by decide +kernel
theorem dX8_applicableCount_44 : decode cX8_applicableCount 44 = .ok (.iconst 0, 1) := by decide +kernel
theorem dX8_applicableCount_45 : decode cX8_applicableCount 45 = .ok (.iadd, 1) := by decide +kernel
theorem dX8_applicableCount_46 : decode cX8_applicableCount 46 = .ok (.istore_n 1, 1) := by decide +kernel
theorem dX8_applicableCount_47 : decode cX8_applicableCount 47 = .ok (.iinc 2 1, 3) := by decide +kernel
theorem dX8_applicableCount_50 : decode cX8_applicableCount 50 = .ok (.goto (-37), 3) := by decide +kernel
theorem dX8_applicableCount_53 : decode cX8_applicableCount 53 = .ok (.iload_n 1, 1) := by decide +kernel
theorem dX8_applicableCount_54 : decode cX8_applicableCount 54 = .ok (.ireturn, 1) := by decide +kernel
theorem dX8_meets_0 : decode cX8_meets 0 = .ok (.iconst 0, 1) := by decide +kernel
theorem dX8_meets_1 : decode cX8_meets 1 = .ok (.istore 4, 2) := by decide +kernel
theorem dX8_meets_3 : decode cX8_meets 3 = .ok (.iload 4, 2) := by decide +kernel
theorem dX8_meets_5 : decode cX8_meets 5 = .ok (.aload_n 0, 1) := by decide +kernel
theorem dX8_meets_6 : decode cX8_meets 6 = .ok (.getfield 234, 3) := by decide +kernel
theorem dX8_meets_9 : decode cX8_meets 9 = .ok (.if_icmp .ge 23, 3) := by decide +kernel
theorem dX8_meets_12 : decode cX8_meets 12 = .ok (.aload_n 0, 1) := by decide +kernel
theorem dX8_meets_13 : decode cX8_meets 13 = .ok (.getfield 68, 3) := by decide +kernel
theorem dX8_meets_16 : decode cX8_meets 16 = .ok (.iload 4, 2) := by decide +kernel
theorem dX8_meets_18 : decode cX8_meets 18 = .ok (.laload, 1) := by decide +kernel
theorem dX8_meets_19 : decode cX8_meets 19 = .ok (.lload_n 1, 1) := by decide +kernel
theorem dX8_meets_20 : decode cX8_meets 20 = .ok (.lcmp, 1) := by decide +kernel
theorem dX8_meets_21 : decode cX8_meets 21 = .ok (.ifCond .ne 5, 3) := by decide +kernel
theorem dX8_meets_24 : decode cX8_meets 24 = .ok (.iconst 1, 1) := by decide +kernel
theorem dX8_meets_25 : decode cX8_meets 25 = .ok (.ireturn, 1) := by decide +kernel
theorem dX8_meets_26 : decode cX8_meets 26 = .ok (.iinc 4 1, 3) := by decide +kernel
theorem dX8_meets_29 : decode cX8_meets 29 = .ok (.goto (-26), 3) := by decide +kernel
theorem dX8_meets_32 : decode cX8_meets 32 = .ok (.aload_n 0, 1) := by decide +kernel
theorem dX8_meets_33 : decode cX8_meets 33 = .ok (.getfield 234, 3) := by decide +kernel
theorem dX8_meets_36 : decode cX8_meets 36 = .ok (.bipush 60, 2) := by decide +kernel
theorem dX8_meets_38 : decode cX8_meets 38 = .ok (.if_icmp .ne 5, 3) := by decide +kernel
theorem dX8_meets_41 : decode cX8_meets 41 = .ok (.iconst 0, 1) := by decide +kernel
theorem dX8_meets_42 : decode cX8_meets 42 = .ok (.ireturn, 1) := by decide +kernel
theorem dX8_meets_43 : decode cX8_meets 43 = .ok (.aload_n 0, 1) := by decide +kernel
theorem dX8_meets_44 : decode cX8_meets 44 = .ok (.getfield 68, 3) := by decide +kernel
theorem dX8_meets_47 : decode cX8_meets 47 = .ok (.aload_n 0, 1) := by decide +kernel
theorem dX8_meets_48 : decode cX8_meets 48 = .ok (.getfield 234, 3) := by decide +kernel
theorem dX8_meets_51 : decode cX8_meets 51 = .ok (.lload_n 1, 1) := by decide +kernel
theorem dX8_meets_52 : decode cX8_meets 52 = .ok (.lastore, 1) := by decide +kernel
theorem dX8_meets_53 : decode cX8_meets 53 = .ok (.aload_n 0, 1) := by decide +kernel
theorem dX8_meets_54 : decode cX8_meets 54 = .ok (.getfield 71, 3) := by decide +kernel
theorem dX8_meets_57 : decode cX8_meets 57 = .ok (.aload_n 0, 1) := by decide +kernel
theorem dX8_meets_58 : decode cX8_meets 58 = .ok (.getfield 234, 3) := by decide +kernel
theorem dX8_meets_61 : decode cX8_meets 61 = .ok (.iload_n 3, 1) := by decide +kernel
theorem dX8_meets_62 : decode cX8_meets 62 = .ok (.iastore, 1) := by decide +kernel
theorem dX8_meets_63 : decode cX8_meets 63 = .ok (.aload_n 0, 1) := by decide +kernel
theorem dX8_meets_64 : decode cX8_meets 64 = .ok (.dup, 1) := by decide +kernel
theorem dX8_meets_65 : decode cX8_meets 65 = .ok (.getfield 234, 3) := by decide +kernel
theorem dX8_meets_68 : decode cX8_meets 68 = .ok (.iconst 1, 1) := by decide +kernel
theorem dX8_meets_69 : decode cX8_meets 69 = .ok (.iadd, 1) := by decide +kernel
theorem dX8_meets_70 : decode cX8_meets 70 = .ok (.putfield 234, 3) := by decide +kernel
theorem dX8_meets_73 : decode cX8_meets 73 = .ok (.iconst 1, 1) := by decide +kernel
theorem dX8_meets_74 : decode cX8_meets 74 = .ok (.ireturn, 1) := by decide +kernel
set_option maxRecDepth 20000 in
theorem ggX8_expands_X8_parses : GoodIn wsX8_expands wsX8_parses := goodIn_r _ [8, 2, 9, 10, 11, 12, 7, 13, 97, 98, 99, 100, 101, 102, 103, 104, 105, 106, 107, 108, 109, 110, 111, 112, 113, 114, 115, 116, 117, 118, 119, 120, 121, 122, 123, 124, 125, 126] rfl (by decide +kernel)
set_option maxRecDepth 20000 in
theorem gX8_expands_X8_parses : GoodIn wsX8_expands (wsV RX8 92 RX8 yX8_parses wsX8_parses) := goodIn_app (goodIn_of _ (by decide +kernel)) ggX8_expands_X8_parses
set_option maxRecDepth 20000 in
theorem ggX8_expands_X8_applies : GoodIn wsX8_expands wsX8_applies := goodIn_r _ [17, 18, 10, 19, 20, 21, 7, 22, 23, 24, 25, 26, 27, 28, 29, 30, 31, 32, 33, 34, 35, 36, 37, 38, 39, 40, 41, 42, 43, 44, 45, 46, 47, 48, 49, 50, 51, 52, 53, 54, 55, 56, 57, 58, 59, 60, 61, 62, 63, 64, 65, 66, 67, 68, 69, 70, 71, 72, 73, 74, 75, 76, 77, 78, 79, 80, 81, 82, 83, 84, 85, 86, 87, 97, 98, 99, 100, 101, 102, 103, 104, 105, 106, 107, 108, 109, 110, 111, 112, 113, 114, 115, 116, 117, 118, 119, 120, 121, 122, 123, 124, 125, 126] rfl (by decide +kernel)
set_option maxRecDepth 20000 in
theorem gX8_expands_X8_applies : GoodIn wsX8_expands (wsV RX8 202 RX8 yX8_applies wsX8_applies) := goodIn_app (goodIn_of _ (by decide +kernel)) ggX8_expands_X8_applies
set_option maxRecDepth 20000 in
theorem ggX8_expands_X8_replaced : GoodIn wsX8_expands wsX8_replaced := goodIn_r _ [91, 9, 10, 18, 31, 2, 23, 24, 25, 7, 26, 97, 98, 99, 100, 101, 102, 103, 104, 105, 106, 107, 108, 109, 110, 111, 112, 113, 114, 115, 116, 117, 118, 119, 120, 121, 122, 123, 124, 125, 126] rfl (by decide +kernel)
set_option maxRecDepth 20000 in
theorem gX8_expands_X8_replaced : GoodIn wsX8_expands (wsV RX8 211 RX8 yX8_replaced wsX8_replaced) := goodIn_app (goodIn_of _ (by decide +kernel)) ggX8_expands_X8_replaced
set_option maxRecDepth 20000 in
theorem ggX8_expands_X8_meets : GoodIn wsX8_expands wsX8_meets := goodIn_r _ [95, 96, 1, 3, 97, 98, 99, 100, 101, 102, 103, 104, 105, 106, 107, 108, 109, 110, 111, 112, 113, 114, 115, 116, 117, 118, 119, 120, 121, 122, 123, 124, 125, 126] rfl (by decide +kernel)
set_option maxRecDepth 20000 in
theorem gX8_expands_X8_meets : GoodIn wsX8_expands (wsV RX8 237 RX8 yX8_meets wsX8_meets) := goodIn_app (goodIn_of _ (by decide +kernel)) ggX8_expands_X8_meets
theorem dX8_expands_0 : decode cX8_expands 0 = .ok (.aload_n 0, 1) := by decide +kernel
theorem dX8_expands_1 : decode cX8_expands 1 = .ok (.aload_n 0, 1) := by decide +kernel
theorem dX8_expands_2 : decode cX8_expands 2 = .ok (.getfield 68, 3) := by decide +kernel
theorem dX8_expands_5 : decode cX8_expands 5 = .ok (.iload_n 1, 1) := by decide +kernel
theorem dX8_expands_6 : decode cX8_expands 6 = .ok (.laload, 1) := by decide +kernel
theorem dX8_expands_7 : decode cX8_expands 7 = .ok (.invokevirtual 92, 3) := by decide +kernel
theorem dX8_expands_10 : decode cX8_expands 10 = .ok (.pop, 1) := by decide +kernel
theorem dX8_expands_11 : decode cX8_expands 11 = .ok (.iconst 0, 1) := by decide +kernel
theorem dX8_expands_12 : decode cX8_expands 12 = .ok (.istore_n 2, 1) := by decide +kernel
theorem dX8_expands_13 : decode cX8_expands 13 = .ok (.iload_n 2, 1) := by decide +kernel
theorem dX8_expands_14 : decode cX8_expands 14 = .ok (.bipush 16, 2) := by decide +kernel
theorem dX8_expands_16 : decode cX8_expands 16 = .ok (.aload_n 0, 1) := by decide +kernel
theorem dX8_expands_17 : decode cX8_expands 17 = .ok (.getfield 78, 3) := by decide +kernel
theorem dX8_expands_20 : decode cX8_expands 20 = .ok (.imul, 1) := by decide +kernel
theorem dX8_expands_21 : decode cX8_expands 21 = .ok (.if_icmp .ge 49, 3) := by decide +kernel
theorem dX8_expands_24 : decode cX8_expands 24 = .ok (.aload_n 0, 1) := by decide +kernel
theorem dX8_expands_25 : decode cX8_expands 25 = .ok (.iload_n 2, 1) := by decide +kernel
theorem dX8_expands_26 : decode cX8_expands 26 = .ok (.bipush 16, 2) := by decide +kernel
theorem dX8_expands_28 : decode cX8_expands 28 = .ok (.irem, 1) := by decide +kernel
theorem dX8_expands_29 : decode cX8_expands 29 = .ok (.iload_n 2, 1) := by decide +kernel
theorem dX8_expands_30 : decode cX8_expands 30 = .ok (.bipush 16, 2) := by decide +kernel
theorem dX8_expands_32 : decode cX8_expands 32 = .ok (.idiv, 1) := by decide +kernel
theorem dX8_expands_33 : decode cX8_expands 33 = .ok (.invokevirtual 202, 3) := by decide +kernel
theorem dX8_expands_36 : decode cX8_expands 36 = .ok (.ifCond .eq 28, 3) := by decide +kernel
theorem dX8_expands_39 : decode cX8_expands 39 = .ok (.aload_n 0, 1) := by decide +kernel
theorem dX8_expands_40 : decode cX8_expands 40 = .ok (.aload_n 0, 1) := by decide +kernel
theorem dX8_expands_41 : decode cX8_expands 41 = .ok (.iload_n 2, 1) := by decide +kernel
theorem dX8_expands_42 : decode cX8_expands 42 = .ok (.bipush 16, 2) := by decide +kernel
theorem dX8_expands_44 : decode cX8_expands 44 = .ok (.idiv, 1) := by decide +kernel
theorem dX8_expands_45 : decode cX8_expands 45 = .ok (.invokevirtual 211, 3) := by decide +kernel
theorem dX8_expands_48 : decode cX8_expands 48 = .ok (.aload_n 0, 1) := by decide +kernel
theorem dX8_expands_49 : decode cX8_expands 49 = .ok (.getfield 71, 3) := by decide +kernel
theorem dX8_expands_52 : decode cX8_expands 52 = .ok (.iload_n 1, 1) := by decide +kernel
theorem dX8_expands_53 : decode cX8_expands 53 = .ok (.iaload, 1) := by decide +kernel
theorem dX8_expands_54 : decode cX8_expands 54 = .ok (.iconst 1, 1) := by decide +kernel
theorem dX8_expands_55 : decode cX8_expands 55 = .ok (.iadd, 1) := by decide +kernel
theorem dX8_expands_56 : decode cX8_expands 56 = .ok (.invokevirtual 237, 3) := by decide +kernel
theorem dX8_expands_59 : decode cX8_expands 59 = .ok (.ifCond .ne 5, 3) := by decide +kernel
theorem dX8_expands_62 : decode cX8_expands 62 = .ok (.iconst 0, 1) := by decide +kernel
theorem dX8_expands_63 : decode cX8_expands 63 = .ok (.ireturn, 1) := by decide +kernel
theorem dX8_expands_64 : decode cX8_expands 64 = .ok (.iinc 2 1, 3) := by decide +kernel
theorem dX8_expands_67 : decode cX8_expands 67 = .ok (.goto (-54), 3) := by decide +kernel
theorem dX8_expands_70 : decode cX8_expands 70 = .ok (.iconst 1, 1) := by decide +kernel
theorem dX8_expands_71 : decode cX8_expands 71 = .ok (.ireturn, 1) := by decide +kernel
set_option maxRecDepth 20000 in
theorem ggX8_searches_X8_meets : GoodIn wsX8_searches wsX8_meets := goodIn_r _ [9, 1, 10, 11, 107, 108, 109, 110, 111, 112, 113, 114, 115, 116, 117, 118, 119, 120, 121, 122, 123, 124, 125, 126, 127, 128, 129, 130, 131, 132, 133, 134, 135, 136] rfl (by decide +kernel)
set_option maxRecDepth 20000 in
theorem gX8_searches_X8_meets : GoodIn wsX8_searches (wsV RX8 237 RX8 yX8_meets wsX8_meets) := goodIn_app (goodIn_of _ (by decide +kernel)) ggX8_searches_X8_meets
set_option maxRecDepth 20000 in
theorem ggX8_searches_X8_size : GoodIn wsX8_searches wsX8_size := goodIn_r _ [15, 4, 16, 17, 18, 8, 19, 20, 21, 22, 23, 24, 107, 108, 109, 110, 111, 112, 113, 114, 115, 116, 117, 118, 119, 120, 121, 122, 123, 124, 125, 126, 127, 128, 129, 130, 131, 132, 133, 134, 135, 136] rfl (by decide +kernel)
set_option maxRecDepth 20000 in
theorem gX8_searches_X8_size : GoodIn wsX8_searches (wsV RX8 230 RX8 yX8_size wsX8_size) := goodIn_app (goodIn_of _ (by decide +kernel)) ggX8_searches_X8_size
set_option maxRecDepth 20000 in
theorem ggX8_searches_X8_expands : GoodIn wsX8_searches wsX8_expands := goodIn_r _ [28, 10, 4, 11, 16, 17, 18, 8, 19, 20, 21, 22, 23, 24, 29, 30, 31, 32, 33, 34, 35, 36, 37, 38, 39, 40, 41, 42, 43, 44, 45, 46, 47, 48, 49, 50, 51, 52, 53, 54, 55, 56, 57, 58, 59, 60, 61, 62, 63, 64, 65, 66, 67, 68, 69, 70, 71, 72, 73, 74, 75, 76, 77, 78, 79, 80, 81, 82, 83, 84, 85, 86, 87, 88, 89, 90, 91, 92, 93, 94, 95, 96, 97, 98, 99, 100, 101, 102, 103, 104, 105, 106, 5, 6, 7, 9, 1, 107, 108, 109, 110, 111, 112, 113, 114, 115, 116, 117, 118, 119, 120, 121, 122, 123, 124, 125, 126, 127, 128, 129, 130, 131, 132, 133, 134, 135, 136] rfl (by decide +kernel)
set_option maxRecDepth 20000 in
theorem gX8_searches_X8_expands : GoodIn wsX8_searches (wsV RX8 244 RX8 yX8_expands wsX8_expands) := goodIn_app (goodIn_of _ (by decide +kernel)) ggX8_searches_X8_expands
theorem dX8_searches_0 : decode cX8_searches 0 = .ok (.aload_n 0, 1) := by decide +kernel
theorem dX8_searches_1 : decode cX8_searches 1 = .ok (.iconst 0, 1) := by decide +kernel
theorem dX8_searches_2 : decode cX8_searches 2 = .ok (.putfield 234, 3) := by decide +kernel
theorem dX8_searches_5 : decode cX8_searches 5 = .ok (.aload_n 0, 1) := by decide +kernel
theorem dX8_searches_6 : decode cX8_searches 6 = .ok (.aload_n 0, 1) := by decide +kernel
theorem dX8_searches_7 : decode cX8_searches 7 = .ok (.getfield 74, 3) := by decide +kernel
theorem dX8_searches_10 : decode cX8_searches 10 = .ok (.iconst 0, 1) := by decide +kernel
theorem dX8_searches_11 : decode cX8_searches 11 = .ok (.invokevirtual 237, 3) := by decide +kernel
theorem dX8_searches_14 : decode cX8_searches 14 = .ok (.pop, 1) := by decide +kernel
theorem dX8_searches_15 : decode cX8_searches 15 = .ok (.aload_n 0, 1) := by decide +kernel
theorem dX8_searches_16 : decode cX8_searches 16 = .ok (.iconst 0, 1) := by decide +kernel
theorem dX8_searches_17 : decode cX8_searches 17 = .ok (.putfield 241, 3) := by decide +kernel
theorem dX8_searches_20 : decode cX8_searches 20 = .ok (.aload_n 0, 1) := by decide +kernel
theorem dX8_searches_21 : decode cX8_searches 21 = .ok (.aload_n 0, 1) := by decide +kernel
theorem dX8_searches_22 : decode cX8_searches 22 = .ok (.getfield 74, 3) := by decide +kernel
theorem dX8_searches_25 : decode cX8_searches 25 = .ok (.invokevirtual 230, 3) := by decide +kernel
theorem dX8_searches_28 : decode cX8_searches 28 = .ok (.istore_n 1, 1) := by decide +kernel
theorem dX8_searches_29 : decode cX8_searches 29 = .ok (.iconst 0, 1) := by decide +kernel
theorem dX8_searches_30 : decode cX8_searches 30 = .ok (.istore_n 2, 1) := by decide +kernel
theorem dX8_searches_31 : decode cX8_searches 31 = .ok (.iload_n 2, 1) := by decide +kernel
theorem dX8_searches_32 : decode cX8_searches 32 = .ok (.aload_n 0, 1) := by decide +kernel
theorem dX8_searches_33 : decode cX8_searches 33 = .ok (.getfield 234, 3) := by decide +kernel
theorem dX8_searches_36 : decode cX8_searches 36 = .ok (.if_icmp .ge 56, 3) := by decide +kernel
theorem dX8_searches_39 : decode cX8_searches 39 = .ok (.aload_n 0, 1) := by decide +kernel
theorem dX8_searches_40 : decode cX8_searches 40 = .ok (.iload_n 2, 1) := by decide +kernel
theorem dX8_searches_41 : decode cX8_searches 41 = .ok (.invokevirtual 244, 3) := by decide +kernel
theorem dX8_searches_44 : decode cX8_searches 44 = .ok (.ifCond .ne 5, 3) := by decide +kernel
theorem dX8_searches_47 : decode cX8_searches 47 = .ok (.iconst 0, 1) := by decide +kernel
theorem dX8_searches_48 : decode cX8_searches 48 = .ok (.ireturn, 1) := by decide +kernel
theorem dX8_searches_49 : decode cX8_searches 49 = .ok (.aload_n 0, 1) := by decide +kernel
theorem dX8_searches_50 : decode cX8_searches 50 = .ok (.aload_n 0, 1) := by decide +kernel
theorem dX8_searches_51 : decode cX8_searches 51 = .ok (.getfield 78, 3) := by decide +kernel
theorem dX8_searches_54 : decode cX8_searches 54 = .ok (.iload_n 1, 1) := by decide +kernel
theorem dX8_searches_55 : decode cX8_searches 55 = .ok (.if_icmp .ge 7, 3) := by decide +kernel
theorem dX8_searches_58 : decode cX8_searches 58 = .ok (.iload_n 2, 1) := by decide +kernel
theorem dX8_searches_59 : decode cX8_searches 59 = .ok (.goto 7, 3) := by decide +kernel
theorem dX8_searches_62 : decode cX8_searches 62 = .ok (.aload_n 0, 1) := by decide +kernel
theorem dX8_searches_63 : decode cX8_searches 63 = .ok (.getfield 241, 3) := by decide +kernel
theorem dX8_searches_66 : decode cX8_searches 66 = .ok (.putfield 241, 3) := by decide +kernel
theorem dX8_searches_69 : decode cX8_searches 69 = .ok (.aload_n 0, 1) := by decide +kernel
theorem dX8_searches_70 : decode cX8_searches 70 = .ok (.getfield 78, 3) := by decide +kernel
theorem dX8_searches_73 : decode cX8_searches 73 = .ok (.iload_n 1, 1) := by decide +kernel
theorem dX8_searches_74 : decode cX8_searches 74 = .ok (.if_icmp .ge 10, 3) := by decide +kernel
theorem dX8_searches_77 : decode cX8_searches 77 = .ok (.aload_n 0, 1) := by decide +kernel
theorem dX8_searches_78 : decode cX8_searches 78 = .ok (.getfield 78, 3) := by decide +kernel
theorem dX8_searches_81 : decode cX8_searches 81 = .ok (.goto 4, 3) := by decide +kernel
theorem dX8_searches_84 : decode cX8_searches 84 = .ok (.iload_n 1, 1) := by decide +kernel
theorem dX8_searches_85 : decode cX8_searches 85 = .ok (.istore_n 1, 1) := by decide +kernel
theorem dX8_searches_86 : decode cX8_searches 86 = .ok (.iinc 2 1, 3) := by decide +kernel
theorem dX8_searches_89 : decode cX8_searches 89 = .ok (.goto (-58), 3) := by decide +kernel
theorem dX8_searches_92 : decode cX8_searches 92 = .ok (.iconst 1, 1) := by decide +kernel
theorem dX8_searches_93 : decode cX8_searches 93 = .ok (.ireturn, 1) := by decide +kernel
set_option maxRecDepth 20000 in
theorem ggX8_smallest_X8_searches : GoodIn wsX8_smallest wsX8_searches := goodIn_r _ [8, 9, 10, 2, 11, 12, 13, 14, 7, 15, 1, 16, 17, 18, 19, 20, 21, 22, 23, 24, 25, 26, 27, 28, 29, 30, 31, 32, 33, 34, 35, 36, 37, 38, 39, 40, 41, 42, 43, 44, 45, 46, 47, 48, 49, 50, 51, 52, 53, 54, 55, 56, 57, 58, 59, 60, 61, 62, 63, 64, 65, 66, 67, 68, 69, 70, 71, 72, 73, 74, 75, 76, 77, 78, 79, 80, 81, 82, 83, 84, 85, 86, 87, 88, 89, 90, 91, 92, 93, 94, 95, 96, 97, 98, 99, 100, 101, 102, 103, 104, 105, 106, 107, 108, 109, 110, 111, 112, 113, 114, 115, 116, 117, 118, 119, 120, 121, 122, 123, 124, 125, 126, 127, 128, 129, 130, 131, 132, 133, 134, 135, 136, 137, 138, 139, 140, 141] rfl (by decide +kernel)
set_option maxRecDepth 20000 in
theorem gX8_smallest_X8_searches : GoodIn wsX8_smallest (wsV RX8 247 RX8 yX8_searches wsX8_searches) := goodIn_app (goodIn_of _ (by decide +kernel)) ggX8_smallest_X8_searches
theorem dX8_smallest_0 : decode cX8_smallest 0 = .ok (.aload_n 0, 1) := by decide +kernel
theorem dX8_smallest_1 : decode cX8_smallest 1 = .ok (.invokevirtual 247, 3) := by decide +kernel
theorem dX8_smallest_4 : decode cX8_smallest 4 = .ok (.ifCond .eq 15, 3) := by decide +kernel
theorem dX8_smallest_7 : decode cX8_smallest 7 = .ok (.aload_n 0, 1) := by decide +kernel
theorem dX8_smallest_8 : decode cX8_smallest 8 = .ok (.getfield 68, 3) := by decide +kernel
theorem dX8_smallest_11 : decode cX8_smallest 11 = .ok (.aload_n 0, 1) := by decide +kernel
theorem dX8_smallest_12 : decode cX8_smallest 12 = .ok (.getfield 241, 3) := by decide +kernel
theorem dX8_smallest_15 : decode cX8_smallest 15 = .ok (.laload, 1) := by decide +kernel
theorem dX8_smallest_16 : decode cX8_smallest 16 = .ok (.goto 6, 3) := by decide +kernel
theorem dX8_smallest_19 : decode cX8_smallest 19 = .ok (.ldc2_w 251, 3) := by decide +kernel
theorem dX8_smallest_22 : decode cX8_smallest 22 = .ok (.lreturn, 1) := by decide +kernel
set_option maxRecDepth 20000 in
theorem ggX8_smallestDistance_X8_searches : GoodIn wsX8_smallestDistance wsX8_searches := goodIn_r _ [7, 8, 9, 2, 10, 11, 12, 13, 6, 14, 15, 1, 16, 17, 18, 19, 20, 21, 22, 23, 24, 25, 26, 27, 28, 29, 30, 31, 32, 33, 34, 35, 36, 37, 38, 39, 40, 41, 42, 43, 44, 45, 46, 47, 48, 49, 50, 51, 52, 53, 54, 55, 56, 57, 58, 59, 60, 61, 62, 63, 64, 65, 66, 67, 68, 69, 70, 71, 72, 73, 74, 75, 76, 77, 78, 79, 80, 81, 82, 83, 84, 85, 86, 87, 88, 89, 90, 91, 92, 93, 94, 95, 96, 97, 98, 99, 100, 101, 102, 103, 104, 105, 106, 107, 108, 109, 110, 111, 112, 113, 114, 115, 116, 117, 118, 119, 120, 121, 122, 123, 124, 125, 126, 127, 128, 129, 130, 131, 132, 133, 134, 135, 136, 137, 138, 139, 140] rfl (by decide +kernel)
set_option maxRecDepth 20000 in
theorem gX8_smallestDistance_X8_searches : GoodIn wsX8_smallestDistance (wsV RX8 247 RX8 yX8_searches wsX8_searches) := goodIn_app (goodIn_of _ (by decide +kernel)) ggX8_smallestDistance_X8_searches
theorem dX8_smallestDistance_0 : decode cX8_smallestDistance 0 = .ok (.aload_n 0, 1) := by decide +kernel
theorem dX8_smallestDistance_1 : decode cX8_smallestDistance 1 = .ok (.invokevirtual 247, 3) := by decide +kernel
theorem dX8_smallestDistance_4 : decode cX8_smallestDistance 4 = .ok (.ifCond .eq 15, 3) := by decide +kernel
theorem dX8_smallestDistance_7 : decode cX8_smallestDistance 7 = .ok (.aload_n 0, 1) := by decide +kernel
theorem dX8_smallestDistance_8 : decode cX8_smallestDistance 8 = .ok (.getfield 71, 3) := by decide +kernel
theorem dX8_smallestDistance_11 : decode cX8_smallestDistance 11 = .ok (.aload_n 0, 1) := by decide +kernel
theorem dX8_smallestDistance_12 : decode cX8_smallestDistance 12 = .ok (.getfield 241, 3) := by decide +kernel
theorem dX8_smallestDistance_15 : decode cX8_smallestDistance 15 = .ok (.iaload, 1) := by decide +kernel
theorem dX8_smallestDistance_16 : decode cX8_smallestDistance 16 = .ok (.goto 5, 3) := by decide +kernel
theorem dX8_smallestDistance_19 : decode cX8_smallestDistance 19 = .ok (.bipush (-6), 2) := by decide +kernel
theorem dX8_smallestDistance_21 : decode cX8_smallestDistance 21 = .ok (.ireturn, 1) := by decide +kernel
set_option maxRecDepth 20000 in
theorem ggX8_reachableCount_X8_searches : GoodIn wsX8_reachableCount wsX8_searches := goodIn_r _ [6, 1, 7, 8, 9, 10, 11, 12, 5, 13, 14, 15, 16, 17, 18, 19, 20, 21, 22, 23, 24, 25, 26, 27, 28, 29, 30, 31, 32, 33, 34, 35, 36, 37, 38, 39, 40, 41, 42, 43, 44, 45, 46, 47, 48, 49, 50, 51, 52, 53, 54, 55, 56, 57, 58, 59, 60, 61, 62, 63, 64, 65, 66, 67, 68, 69, 70, 71, 72, 73, 74, 75, 76, 77, 78, 79, 80, 81, 82, 83, 84, 85, 86, 87, 88, 89, 90, 91, 92, 93, 94, 95, 96, 97, 98, 99, 100, 101, 102, 103, 104, 105, 106, 107, 108, 109, 110, 111, 112, 113, 114, 115, 116, 117, 118, 119, 120, 121, 122, 123, 124, 125, 126, 127, 128, 129, 130, 131, 132, 133, 134, 135, 136, 137, 138, 139, 140] rfl (by decide +kernel)
set_option maxRecDepth 20000 in
theorem gX8_reachableCount_X8_searches : GoodIn wsX8_reachableCount (wsV RX8 247 RX8 yX8_searches wsX8_searches) := goodIn_app (goodIn_of _ (by decide +kernel)) ggX8_reachableCount_X8_searches
theorem dX8_reachableCount_0 : decode cX8_reachableCount 0 = .ok (.aload_n 0, 1) := by decide +kernel
theorem dX8_reachableCount_1 : decode cX8_reachableCount 1 = .ok (.invokevirtual 247, 3) := by decide +kernel
theorem dX8_reachableCount_4 : decode cX8_reachableCount 4 = .ok (.ifCond .eq 10, 3) := by decide +kernel
theorem dX8_reachableCount_7 : decode cX8_reachableCount 7 = .ok (.aload_n 0, 1) := by decide +kernel
theorem dX8_reachableCount_8 : decode cX8_reachableCount 8 = .ok (.getfield 234, 3) := by decide +kernel
theorem dX8_reachableCount_11 : decode cX8_reachableCount 11 = .ok (.goto 5, 3) := by decide +kernel
theorem dX8_reachableCount_14 : decode cX8_reachableCount 14 = .ok (.bipush (-6), 2) := by decide +kernel
theorem dX8_reachableCount_16 : decode cX8_reachableCount 16 = .ok (.ireturn, 1) := by decide +kernel
theorem dJ9_max_7cf53_0 : decode cJ9_max_7cf53 0 = .ok (.iload_n 0, 1) := by decide +kernel
theorem dJ9_max_7cf53_1 : decode cJ9_max_7cf53 1 = .ok (.iload_n 1, 1) := by decide +kernel
theorem dJ9_max_7cf53_2 : decode cJ9_max_7cf53 2 = .ok (.if_icmp .lt 7, 3) := by decide +kernel
theorem dJ9_max_7cf53_5 : decode cJ9_max_7cf53 5 = .ok (.iload_n 0, 1) := by decide +kernel
theorem dJ9_max_7cf53_6 : decode cJ9_max_7cf53 6 = .ok (.goto 4, 3) := by decide +kernel
theorem dJ9_max_7cf53_9 : decode cJ9_max_7cf53 9 = .ok (.iload_n 1, 1) := by decide +kernel
theorem dJ9_max_7cf53_10 : decode cJ9_max_7cf53 10 = .ok (.ireturn, 1) := by decide +kernel
theorem dJ7_fill_53178_0 : decode cJ7_fill_53178 0 = .ok (.iconst 0, 1) := by decide +kernel
theorem dJ7_fill_53178_1 : decode cJ7_fill_53178 1 = .ok (.istore_n 2, 1) := by decide +kernel
theorem dJ7_fill_53178_2 : decode cJ7_fill_53178 2 = .ok (.aload_n 0, 1) := by decide +kernel
theorem dJ7_fill_53178_3 : decode cJ7_fill_53178 3 = .ok (.arraylength, 1) := by decide +kernel
theorem dJ7_fill_53178_4 : decode cJ7_fill_53178 4 = .ok (.istore_n 3, 1) := by decide +kernel
theorem dJ7_fill_53178_5 : decode cJ7_fill_53178 5 = .ok (.iload_n 2, 1) := by decide +kernel
theorem dJ7_fill_53178_6 : decode cJ7_fill_53178 6 = .ok (.iload_n 3, 1) := by decide +kernel
theorem dJ7_fill_53178_7 : decode cJ7_fill_53178 7 = .ok (.if_icmp .ge 13, 3) := by decide +kernel
theorem dJ7_fill_53178_10 : decode cJ7_fill_53178 10 = .ok (.aload_n 0, 1) := by decide +kernel
theorem dJ7_fill_53178_11 : decode cJ7_fill_53178 11 = .ok (.iload_n 2, 1) := by decide +kernel
theorem dJ7_fill_53178_12 : decode cJ7_fill_53178 12 = .ok (.iload_n 1, 1) := by decide +kernel
theorem dJ7_fill_53178_13 : decode cJ7_fill_53178 13 = .ok (.iastore, 1) := by decide +kernel
theorem dJ7_fill_53178_14 : decode cJ7_fill_53178 14 = .ok (.iinc 2 1, 3) := by decide +kernel
theorem dJ7_fill_53178_17 : decode cJ7_fill_53178 17 = .ok (.goto (-12), 3) := by decide +kernel
theorem dJ7_fill_53178_20 : decode cJ7_fill_53178 20 = .ok (.return_, 1) := by decide +kernel
