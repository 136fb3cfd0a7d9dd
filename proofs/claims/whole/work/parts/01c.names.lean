theorem dX4_sharedFront_50 : decode cX4_sharedFront 50 = .ok (.invokevirtual 86, 3) := by decide +kernel
theorem dX4_sharedFront_53 : decode cX4_sharedFront 53 = .ok (.invokestatic 105, 3) := by decide +kernel
theorem dX4_sharedFront_56 : decode cX4_sharedFront 56 = .ok (.lstore 5, 2) := by decide +kernel
theorem dX4_sharedFront_58 : decode cX4_sharedFront 58 = .ok (.lload_n 3, 1) := by decide +kernel
theorem dX4_sharedFront_59 : decode cX4_sharedFront 59 = .ok (.lload 5, 2) := by decide +kernel
theorem dX4_sharedFront_61 : decode cX4_sharedFront 61 = .ok (.invokestatic 109, 3) := by decide +kernel
theorem dX4_sharedFront_64 : decode cX4_sharedFront 64 = .ok (.lreturn, 1) := by decide +kernel
set_option maxRecDepth 20000 in
theorem ggX4_sharedBack_X3_rightOf : GoodIn wsX4_sharedBack wsX3_rightOf := goodIn_r _ [5, 6, 7, 39, 40, 41, 42] rfl (by decide +kernel)
set_option maxRecDepth 20000 in
theorem gX4_sharedBack_X3_rightOf : GoodIn wsX4_sharedBack (wsV RX4 36 RX3 yX3_rightOf wsX3_rightOf) := goodIn_app (goodIn_of _ (by decide +kernel)) ggX4_sharedBack_X3_rightOf
set_option maxRecDepth 20000 in
theorem ggX4_sharedBack_X3_codeAt : GoodIn wsX4_sharedBack wsX3_codeAt := goodIn_r _ [11, 6, 12, 39, 40, 41, 42] rfl (by decide +kernel)
set_option maxRecDepth 20000 in
theorem gX4_sharedBack_X3_codeAt : GoodIn wsX4_sharedBack (wsV RX4 86 RX3 yX3_codeAt wsX3_codeAt) := goodIn_app (goodIn_of _ (by decide +kernel)) ggX4_sharedBack_X3_codeAt
set_option maxRecDepth 20000 in
theorem ggX4_sharedBack_X4_bothConcatenations : GoodIn wsX4_sharedBack wsX4_bothConcatenations := goodIn_r _ [16, 17, 18, 19, 4, 20, 6, 21, 39, 40, 41, 42] rfl (by decide +kernel)
set_option maxRecDepth 20000 in
theorem gX4_sharedBack_X4_bothConcatenations : GoodIn wsX4_sharedBack (va_wsS RX4 101 yX4_bothConcatenations wsX4_bothConcatenations) := goodIn_app (goodIn_of _ (by decide +kernel)) ggX4_sharedBack_X4_bothConcatenations
set_option maxRecDepth 20000 in
theorem ggX4_sharedBack_X3_leftOf : GoodIn wsX4_sharedBack wsX3_leftOf := goodIn_r _ [25] rfl (by decide +kernel)
set_option maxRecDepth 20000 in
theorem gX4_sharedBack_X3_leftOf : GoodIn wsX4_sharedBack (wsV RX4 33 RX3 yX3_leftOf wsX3_leftOf) := goodIn_app (goodIn_of _ (by decide +kernel)) ggX4_sharedBack_X3_leftOf
set_option maxRecDepth 20000 in
theorem ggX4_sharedBack_X1_union : GoodIn wsX4_sharedBack wsX1_union := goodIn_r _ [29, 30, 31, 32, 28, 33, 34] rfl (by decide +kernel)
set_option maxRecDepth 20000 in
theorem gX4_sharedBack_X1_union : GoodIn wsX4_sharedBack (va_wsS RX4 105 yX1_union wsX1_union) := goodIn_app (goodIn_of _ (by decide +kernel)) ggX4_sharedBack_X1_union
set_option maxRecDepth 20000 in
theorem ggX4_sharedBack_X1_concatenation : GoodIn wsX4_sharedBack wsX1_concatenation := goodIn_r _ [37, 38, 31, 32, 28, 33, 34] rfl (by decide +kernel)
set_option maxRecDepth 20000 in
theorem gX4_sharedBack_X1_concatenation : GoodIn wsX4_sharedBack (va_wsS RX4 109 yX1_concatenation wsX1_concatenation) := goodIn_app (goodIn_of _ (by decide +kernel)) ggX4_sharedBack_X1_concatenation
theorem dX4_sharedBack_0 : decode cX4_sharedBack 0 = .ok (.aload_n 0, 1) := by decide +kernel
theorem dX4_sharedBack_1 : decode cX4_sharedBack 1 = .ok (.aload_n 0, 1) := by decide +kernel
theorem dX4_sharedBack_2 : decode cX4_sharedBack 2 = .ok (.iload_n 1, 1) := by decide +kernel
theorem dX4_sharedBack_3 : decode cX4_sharedBack 3 = .ok (.invokevirtual 36, 3) := by decide +kernel
theorem dX4_sharedBack_6 : decode cX4_sharedBack 6 = .ok (.invokevirtual 86, 3) := by decide +kernel
theorem dX4_sharedBack_9 : decode cX4_sharedBack 9 = .ok (.lstore_n 3, 1) := by decide +kernel
theorem dX4_sharedBack_10 : decode cX4_sharedBack 10 = .ok (.aload_n 0, 1) := by decide +kernel
theorem dX4_sharedBack_11 : decode cX4_sharedBack 11 = .ok (.iload_n 1, 1) := by decide +kernel
theorem dX4_sharedBack_12 : decode cX4_sharedBack 12 = .ok (.iload_n 2, 1) := by decide +kernel
theorem dX4_sharedBack_13 : decode cX4_sharedBack 13 = .ok (.invokestatic 101, 3) := by decide +kernel
theorem dX4_sharedBack_16 : decode cX4_sharedBack 16 = .ok (.ifCond .eq 17, 3) := by decide +kernel
theorem dX4_sharedBack_19 : decode cX4_sharedBack 19 = .ok (.lload_n 3, 1) := by decide +kernel
theorem dX4_sharedBack_20 : decode cX4_sharedBack 20 = .ok (.aload_n 0, 1) := by decide +kernel
theorem dX4_sharedBack_21 : decode cX4_sharedBack 21 = .ok (.aload_n 0, 1) := by decide +kernel
theorem dX4_sharedBack_22 : decode cX4_sharedBack 22 = .ok (.iload_n 2, 1) := by decide +kernel
theorem dX4_sharedBack_23 : decode cX4_sharedBack 23 = .ok (.invokevirtual 36, 3) := by decide +kernel
theorem dX4_sharedBack_26 : decode cX4_sharedBack 26 = .ok (.invokevirtual 86, 3) := by decide +kernel
theorem dX4_sharedBack_29 : decode cX4_sharedBack 29 = .ok (.lcmp, 1) := by decide +kernel
theorem dX4_sharedBack_30 : decode cX4_sharedBack 30 = .ok (.ifCond .eq 5, 3) := by decide +kernel
theorem dX4_sharedBack_33 : decode cX4_sharedBack 33 = .ok (.lconst 0, 1) := by decide +kernel
theorem dX4_sharedBack_34 : decode cX4_sharedBack 34 = .ok (.lreturn, 1) := by decide +kernel
theorem dX4_sharedBack_35 : decode cX4_sharedBack 35 = .ok (.aload_n 0, 1) := by decide +kernel
theorem dX4_sharedBack_36 : decode cX4_sharedBack 36 = .ok (.aload_n 0, 1) := by decide +kernel
theorem dX4_sharedBack_37 : decode cX4_sharedBack 37 = .ok (.iload_n 1, 1) := by decide +kernel
theorem dX4_sharedBack_38 : decode cX4_sharedBack 38 = .ok (.invokevirtual 33, 3) := by decide +kernel
theorem dX4_sharedBack_41 : decode cX4_sharedBack 41 = .ok (.invokevirtual 86, 3) := by decide +kernel
theorem dX4_sharedBack_44 : decode cX4_sharedBack 44 = .ok (.aload_n 0, 1) := by decide +kernel
theorem dX4_sharedBack_45 : decode cX4_sharedBack 45 = .ok (.aload_n 0, 1) := by decide +kernel
theorem dX4_sharedBack_46 : decode cX4_sharedBack 46 = .ok (.iload_n 2, 1) := by decide +kernel
theorem dX4_sharedBack_47 : decode cX4_sharedBack 47 = .ok (.invokevirtual 33, 3) := by decide +kernel
theorem dX4_sharedBack_50 : decode cX4_sharedBack 50 = .ok (.invokevirtual 86, 3) := by decide +kernel
theorem dX4_sharedBack_53 : decode cX4_sharedBack 53 = .ok (.invokestatic 105, 3) := by decide +kernel
theorem dX4_sharedBack_56 : decode cX4_sharedBack 56 = .ok (.lstore 5, 2) := by decide +kernel
theorem dX4_sharedBack_58 : decode cX4_sharedBack 58 = .ok (.lload 5, 2) := by decide +kernel
theorem dX4_sharedBack_60 : decode cX4_sharedBack 60 = .ok (.lload_n 3, 1) := by decide +kernel
theorem dX4_sharedBack_61 : decode cX4_sharedBack 61 = .ok (.invokestatic 109, 3) := by decide +kernel
theorem dX4_sharedBack_64 : decode cX4_sharedBack 64 = .ok (.lreturn, 1) := by decide +kernel
set_option maxRecDepth 20000 in
theorem ggX4_optionalRepetition_X3_codeAt : GoodIn wsX4_optionalRepetition wsX3_codeAt := goodIn_r _ [6, 7, 8, 31, 32, 33, 34] rfl (by decide +kernel)
set_option maxRecDepth 20000 in
theorem gX4_optionalRepetition_X3_codeAt : GoodIn wsX4_optionalRepetition (wsV RX4 86 RX3 yX3_codeAt wsX3_codeAt) := goodIn_app (goodIn_of _ (by decide +kernel)) ggX4_optionalRepetition_X3_codeAt
set_option maxRecDepth 20000 in
theorem ggX4_optionalRepetition_X3_kindAt : GoodIn wsX4_optionalRepetition wsX3_kindAt := goodIn_r _ [12, 7, 13, 31, 32, 33, 34] rfl (by decide +kernel)
set_option maxRecDepth 20000 in
theorem gX4_optionalRepetition_X3_kindAt : GoodIn wsX4_optionalRepetition (wsV RX4 29 RX3 yX3_kindAt wsX3_kindAt) := goodIn_app (goodIn_of _ (by decide +kernel)) ggX4_optionalRepetition_X3_kindAt
set_option maxRecDepth 20000 in
theorem ggX4_optionalRepetition_X3_leftOf : GoodIn wsX4_optionalRepetition wsX3_leftOf := goodIn_r _ [17] rfl (by decide +kernel)
set_option maxRecDepth 20000 in
theorem gX4_optionalRepetition_X3_leftOf : GoodIn wsX4_optionalRepetition (wsV RX4 33 RX3 yX3_leftOf wsX3_leftOf) := goodIn_app (goodIn_of _ (by decide +kernel)) ggX4_optionalRepetition_X3_leftOf
set_option maxRecDepth 20000 in
theorem ggX4_optionalRepetition_X3_rightOf : GoodIn wsX4_optionalRepetition wsX3_rightOf := goodIn_r _ [21, 7, 22, 31, 32, 33, 34] rfl (by decide +kernel)
set_option maxRecDepth 20000 in
theorem gX4_optionalRepetition_X3_rightOf : GoodIn wsX4_optionalRepetition (wsV RX4 36 RX3 yX3_rightOf wsX3_rightOf) := goodIn_app (goodIn_of _ (by decide +kernel)) ggX4_optionalRepetition_X3_rightOf
set_option maxRecDepth 20000 in
theorem ggX4_optionalRepetition_X4_besideItsStar : GoodIn wsX4_optionalRepetition wsX4_besideItsStar := goodIn_r _ [26, 27, 28, 29, 5, 30, 7, 13, 8, 2, 3, 4, 6, 31, 32, 33, 34] rfl (by decide +kernel)
set_option maxRecDepth 20000 in
theorem gX4_optionalRepetition_X4_besideItsStar : GoodIn wsX4_optionalRepetition (va_wsS RX4 65 yX4_besideItsStar wsX4_besideItsStar) := goodIn_app (goodIn_of _ (by decide +kernel)) ggX4_optionalRepetition_X4_besideItsStar
theorem dX4_optionalRepetition_0 : decode cX4_optionalRepetition 0 = .ok (.aload_n 0, 1) := by decide +kernel
theorem dX4_optionalRepetition_1 : decode cX4_optionalRepetition 1 = .ok (.iload_n 1, 1) := by decide +kernel
theorem dX4_optionalRepetition_2 : decode cX4_optionalRepetition 2 = .ok (.invokevirtual 86, 3) := by decide +kernel
theorem dX4_optionalRepetition_5 : decode cX4_optionalRepetition 5 = .ok (.ldc2_w 90, 3) := by decide +kernel
theorem dX4_optionalRepetition_8 : decode cX4_optionalRepetition 8 = .ok (.lcmp, 1) := by decide +kernel
theorem dX4_optionalRepetition_9 : decode cX4_optionalRepetition 9 = .ok (.ifCond .ne 7, 3) := by decide +kernel
theorem dX4_optionalRepetition_12 : decode cX4_optionalRepetition 12 = .ok (.iconst 1, 1) := by decide +kernel
theorem dX4_optionalRepetition_13 : decode cX4_optionalRepetition 13 = .ok (.goto 4, 3) := by decide +kernel
theorem dX4_optionalRepetition_16 : decode cX4_optionalRepetition 16 = .ok (.iconst 0, 1) := by decide +kernel
theorem dX4_optionalRepetition_17 : decode cX4_optionalRepetition 17 = .ok (.istore_n 3, 1) := by decide +kernel
theorem dX4_optionalRepetition_18 : decode cX4_optionalRepetition 18 = .ok (.aload_n 0, 1) := by decide +kernel
theorem dX4_optionalRepetition_19 : decode cX4_optionalRepetition 19 = .ok (.iload_n 2, 1) := by decide +kernel
theorem dX4_optionalRepetition_20 : decode cX4_optionalRepetition 20 = .ok (.invokevirtual 86, 3) := by decide +kernel
theorem dX4_optionalRepetition_23 : decode cX4_optionalRepetition 23 = .ok (.ldc2_w 90, 3) := by decide +kernel
theorem dX4_optionalRepetition_26 : decode cX4_optionalRepetition 26 = .ok (.lcmp, 1) := by decide +kernel
theorem dX4_optionalRepetition_27 : decode cX4_optionalRepetition 27 = .ok (.ifCond .ne 7, 3) := by decide +kernel
theorem dX4_optionalRepetition_30 : decode cX4_optionalRepetition 30 = .ok (.iconst 1, 1) := by decide +kernel
theorem dX4_optionalRepetition_31 : decode cX4_optionalRepetition 31 = .ok (.goto 4, 3) := by decide +kernel
theorem dX4_optionalRepetition_34 : decode cX4_optionalRepetition 34 = .ok (.iconst 0, 1) := by decide +kernel
theorem dX4_optionalRepetition_35 : decode cX4_optionalRepetition 35 = .ok (.istore 4, 2) := by decide +kernel
theorem dX4_optionalRepetition_37 : decode cX4_optionalRepetition 37 = .ok (.iload_n 3, 1) := by decide +kernel
theorem dX4_optionalRepetition_38 : decode cX4_optionalRepetition 38 = .ok (.ifCond .eq 7, 3) := by decide +kernel
theorem dX4_optionalRepetition_41 : decode cX4_optionalRepetition 41 = .ok (.iload_n 2, 1) := by decide +kernel
theorem dX4_optionalRepetition_42 : decode cX4_optionalRepetition 42 = .ok (.goto 4, 3) := by decide +kernel
theorem dX4_optionalRepetition_45 : decode cX4_optionalRepetition 45 = .ok (.iload_n 1, 1) := by decide +kernel
theorem dX4_optionalRepetition_46 : decode cX4_optionalRepetition 46 = .ok (.istore 5, 2) := by decide +kernel
theorem dX4_optionalRepetition_48 : decode cX4_optionalRepetition 48 = .ok (.iload_n 3, 1) := by decide +kernel
theorem dX4_optionalRepetition_49 : decode cX4_optionalRepetition 49 = .ok (.ifCond .ne 8, 3) := by decide +kernel
theorem dX4_optionalRepetition_52 : decode cX4_optionalRepetition 52 = .ok (.iload 4, 2) := by decide +kernel
theorem dX4_optionalRepetition_54 : decode cX4_optionalRepetition 54 = .ok (.ifCond .eq 14, 3) := by decide +kernel
theorem dX4_optionalRepetition_57 : decode cX4_optionalRepetition 57 = .ok (.aload_n 0, 1) := by decide +kernel
theorem dX4_optionalRepetition_58 : decode cX4_optionalRepetition 58 = .ok (.iload 5, 2) := by decide +kernel
theorem dX4_optionalRepetition_60 : decode cX4_optionalRepetition 60 = .ok (.invokevirtual 29, 3) := by decide +kernel
theorem dX4_optionalRepetition_63 : decode cX4_optionalRepetition 63 = .ok (.bipush 7, 2) := by decide +kernel
theorem dX4_optionalRepetition_65 : decode cX4_optionalRepetition 65 = .ok (.if_icmp .eq 5, 3) := by decide +kernel
theorem dX4_optionalRepetition_68 : decode cX4_optionalRepetition 68 = .ok (.lconst 0, 1) := by decide +kernel
theorem dX4_optionalRepetition_69 : decode cX4_optionalRepetition 69 = .ok (.lreturn, 1) := by decide +kernel
theorem dX4_optionalRepetition_70 : decode cX4_optionalRepetition 70 = .ok (.aload_n 0, 1) := by decide +kernel
theorem dX4_optionalRepetition_71 : decode cX4_optionalRepetition 71 = .ok (.aload_n 0, 1) := by decide +kernel
theorem dX4_optionalRepetition_72 : decode cX4_optionalRepetition 72 = .ok (.iload 5, 2) := by decide +kernel
theorem dX4_optionalRepetition_74 : decode cX4_optionalRepetition 74 = .ok (.invokevirtual 33, 3) := by decide +kernel
theorem dX4_optionalRepetition_77 : decode cX4_optionalRepetition 77 = .ok (.aload_n 0, 1) := by decide +kernel
theorem dX4_optionalRepetition_78 : decode cX4_optionalRepetition 78 = .ok (.iload 5, 2) := by decide +kernel
theorem dX4_optionalRepetition_80 : decode cX4_optionalRepetition 80 = .ok (.invokevirtual 36, 3) := by decide +kernel
theorem dX4_optionalRepetition_83 : decode cX4_optionalRepetition 83 = .ok (.invokestatic 65, 3) := by decide +kernel
theorem dX4_optionalRepetition_86 : decode cX4_optionalRepetition 86 = .ok (.lreturn, 1) := by decide +kernel
set_option maxRecDepth 20000 in
theorem ggX4_starOfUnionWithStar_X3_kindAt : GoodIn wsX4_starOfUnionWithStar wsX3_kindAt := goodIn_r _ [5, 6, 7, 39, 40, 41, 42] rfl (by decide +kernel)
set_option maxRecDepth 20000 in
theorem gX4_starOfUnionWithStar_X3_kindAt : GoodIn wsX4_starOfUnionWithStar (wsV RX4 29 RX3 yX3_kindAt wsX3_kindAt) := goodIn_app (goodIn_of _ (by decide +kernel)) ggX4_starOfUnionWithStar_X3_kindAt
set_option maxRecDepth 20000 in
theorem ggX4_starOfUnionWithStar_X3_leftOf : GoodIn wsX4_starOfUnionWithStar wsX3_leftOf := goodIn_r _ [11] rfl (by decide +kernel)
set_option maxRecDepth 20000 in
theorem gX4_starOfUnionWithStar_X3_leftOf : GoodIn wsX4_starOfUnionWithStar (wsV RX4 33 RX3 yX3_leftOf wsX3_leftOf) := goodIn_app (goodIn_of _ (by decide +kernel)) ggX4_starOfUnionWithStar_X3_leftOf
set_option maxRecDepth 20000 in
theorem ggX4_starOfUnionWithStar_X3_rightOf : GoodIn wsX4_starOfUnionWithStar wsX3_rightOf := goodIn_r _ [15, 6, 16, 39, 40, 41, 42] rfl (by decide +kernel)
set_option maxRecDepth 20000 in
theorem gX4_starOfUnionWithStar_X3_rightOf : GoodIn wsX4_starOfUnionWithStar (wsV RX4 36 RX3 yX3_rightOf wsX3_rightOf) := goodIn_app (goodIn_of _ (by decide +kernel)) ggX4_starOfUnionWithStar_X3_rightOf
set_option maxRecDepth 20000 in
theorem ggX4_starOfUnionWithStar_X3_starredAt : GoodIn wsX4_starOfUnionWithStar wsX3_starredAt := goodIn_r _ [20, 6, 7, 21, 39, 40, 41, 42] rfl (by decide +kernel)
set_option maxRecDepth 20000 in
theorem gX4_starOfUnionWithStar_X3_starredAt : GoodIn wsX4_starOfUnionWithStar (wsV RX4 98 RX3 yX3_starredAt wsX3_starredAt) := goodIn_app (goodIn_of _ (by decide +kernel)) ggX4_starOfUnionWithStar_X3_starredAt
set_option maxRecDepth 20000 in
theorem ggX4_starOfUnionWithStar_X3_codeAt : GoodIn wsX4_starOfUnionWithStar wsX3_codeAt := goodIn_r _ [25, 6, 21, 39, 40, 41, 42] rfl (by decide +kernel)
set_option maxRecDepth 20000 in
theorem gX4_starOfUnionWithStar_X3_codeAt : GoodIn wsX4_starOfUnionWithStar (wsV RX4 86 RX3 yX3_codeAt wsX3_codeAt) := goodIn_app (goodIn_of _ (by decide +kernel)) ggX4_starOfUnionWithStar_X3_codeAt
set_option maxRecDepth 20000 in
theorem ggX4_starOfUnionWithStar_X1_union : GoodIn wsX4_starOfUnionWithStar wsX1_union := goodIn_r _ [29, 30, 31, 32, 28, 33, 34] rfl (by decide +kernel)
set_option maxRecDepth 20000 in
theorem gX4_starOfUnionWithStar_X1_union : GoodIn wsX4_starOfUnionWithStar (va_wsS RX4 105 yX1_union wsX1_union) := goodIn_app (goodIn_of _ (by decide +kernel)) ggX4_starOfUnionWithStar_X1_union
set_option maxRecDepth 20000 in
theorem ggX4_starOfUnionWithStar_X1_star : GoodIn wsX4_starOfUnionWithStar wsX1_star := goodIn_r _ [37, 38, 31, 32, 28, 33, 34] rfl (by decide +kernel)
set_option maxRecDepth 20000 in
theorem gX4_starOfUnionWithStar_X1_star : GoodIn wsX4_starOfUnionWithStar (va_wsS RX4 92 yX1_star wsX1_star) := goodIn_app (goodIn_of _ (by decide +kernel)) ggX4_starOfUnionWithStar_X1_star
theorem dX4_starOfUnionWithStar_0 : decode cX4_starOfUnionWithStar 0 = .ok (.aload_n 0, 1) := by decide +kernel
theorem dX4_starOfUnionWithStar_1 : decode cX4_starOfUnionWithStar 1 = .ok (.iload_n 1, 1) := by decide +kernel
theorem dX4_starOfUnionWithStar_2 : decode cX4_starOfUnionWithStar 2 = .ok (.invokevirtual 29, 3) := by decide +kernel
theorem dX4_starOfUnionWithStar_5 : decode cX4_starOfUnionWithStar 5 = .ok (.bipush 6, 2) := by decide +kernel
theorem dX4_starOfUnionWithStar_7 : decode cX4_starOfUnionWithStar 7 = .ok (.if_icmp .eq 5, 3) := by decide +kernel
theorem dX4_starOfUnionWithStar_10 : decode cX4_starOfUnionWithStar 10 = .ok (.lconst 0, 1) := by decide +kernel
theorem dX4_starOfUnionWithStar_11 : decode cX4_starOfUnionWithStar 11 = .ok (.lreturn, 1) := by decide +kernel
theorem dX4_starOfUnionWithStar_12 : decode cX4_starOfUnionWithStar 12 = .ok (.aload_n 0, 1) := by decide +kernel
theorem dX4_starOfUnionWithStar_13 : decode cX4_starOfUnionWithStar 13 = .ok (.iload_n 1, 1) := by decide +kernel
theorem dX4_starOfUnionWithStar_14 : decode cX4_starOfUnionWithStar 14 = .ok (.invokevirtual 33, 3) := by decide +kernel
theorem dX4_starOfUnionWithStar_17 : decode cX4_starOfUnionWithStar 17 = .ok (.istore_n 2, 1) := by decide +kernel
theorem dX4_starOfUnionWithStar_18 : decode cX4_starOfUnionWithStar 18 = .ok (.aload_n 0, 1) := by decide +kernel
theorem dX4_starOfUnionWithStar_19 : decode cX4_starOfUnionWithStar 19 = .ok (.iload_n 1, 1) := by decide +kernel
theorem dX4_starOfUnionWithStar_20 : decode cX4_starOfUnionWithStar 20 = .ok (.invokevirtual 36, 3) := by decide +kernel
theorem dX4_starOfUnionWithStar_23 : decode cX4_starOfUnionWithStar 23 = .ok (.istore_n 3, 1) := by decide +kernel
theorem dX4_starOfUnionWithStar_24 : decode cX4_starOfUnionWithStar 24 = .ok (.aload_n 0, 1) := by decide +kernel
theorem dX4_starOfUnionWithStar_25 : decode cX4_starOfUnionWithStar 25 = .ok (.iload_n 2, 1) := by decide +kernel
theorem dX4_starOfUnionWithStar_26 : decode cX4_starOfUnionWithStar 26 = .ok (.invokevirtual 29, 3) := by decide +kernel
theorem dX4_starOfUnionWithStar_29 : decode cX4_starOfUnionWithStar 29 = .ok (.bipush 8, 2) := by decide +kernel
theorem dX4_starOfUnionWithStar_31 : decode cX4_starOfUnionWithStar 31 = .ok (.if_icmp .ne 20, 3) := by decide +kernel
theorem dX4_starOfUnionWithStar_34 : decode cX4_starOfUnionWithStar 34 = .ok (.aload_n 0, 1) := by decide +kernel
theorem dX4_starOfUnionWithStar_35 : decode cX4_starOfUnionWithStar 35 = .ok (.iload_n 2, 1) := by decide +kernel
theorem dX4_starOfUnionWithStar_36 : decode cX4_starOfUnionWithStar 36 = .ok (.invokevirtual 98, 3) := by decide +kernel
theorem dX4_starOfUnionWithStar_39 : decode cX4_starOfUnionWithStar 39 = .ok (.aload_n 0, 1) := by decide +kernel
theorem dX4_starOfUnionWithStar_40 : decode cX4_starOfUnionWithStar 40 = .ok (.iload_n 3, 1) := by decide +kernel
theorem dX4_starOfUnionWithStar_41 : decode cX4_starOfUnionWithStar 41 = .ok (.invokevirtual 86, 3) := by decide +kernel
theorem dX4_starOfUnionWithStar_44 : decode cX4_starOfUnionWithStar 44 = .ok (.invokestatic 105, 3) := by decide +kernel
theorem dX4_starOfUnionWithStar_47 : decode cX4_starOfUnionWithStar 47 = .ok (.invokestatic 92, 3) := by decide +kernel
theorem dX4_starOfUnionWithStar_50 : decode cX4_starOfUnionWithStar 50 = .ok (.lreturn, 1) := by decide +kernel
theorem dX4_starOfUnionWithStar_51 : decode cX4_starOfUnionWithStar 51 = .ok (.aload_n 0, 1) := by decide +kernel
theorem dX4_starOfUnionWithStar_52 : decode cX4_starOfUnionWithStar 52 = .ok (.iload_n 3, 1) := by decide +kernel
theorem dX4_starOfUnionWithStar_53 : decode cX4_starOfUnionWithStar 53 = .ok (.invokevirtual 29, 3) := by decide +kernel
theorem dX4_starOfUnionWithStar_56 : decode cX4_starOfUnionWithStar 56 = .ok (.bipush 8, 2) := by decide +kernel
theorem dX4_starOfUnionWithStar_58 : decode cX4_starOfUnionWithStar 58 = .ok (.if_icmp .ne 20, 3) := by decide +kernel
theorem dX4_starOfUnionWithStar_61 : decode cX4_starOfUnionWithStar 61 = .ok (.aload_n 0, 1) := by decide +kernel
theorem dX4_starOfUnionWithStar_62 : decode cX4_starOfUnionWithStar 62 = .ok (.iload_n 2, 1) := by decide +kernel
theorem dX4_starOfUnionWithStar_63 : decode cX4_starOfUnionWithStar 63 = .ok (.invokevirtual 86, 3) := by decide +kernel
theorem dX4_starOfUnionWithStar_66 : decode cX4_starOfUnionWithStar 66 = .ok (.aload_n 0, 1) := by decide +kernel
theorem dX4_starOfUnionWithStar_67 : decode cX4_starOfUnionWithStar 67 = .ok (.iload_n 3, 1) := by decide +kernel
theorem dX4_starOfUnionWithStar_68 : decode cX4_starOfUnionWithStar 68 = .ok (.invokevirtual 98, 3) := by decide +kernel
theorem dX4_starOfUnionWithStar_71 : decode cX4_starOfUnionWithStar 71 = .ok (.invokestatic 105, 3) := by decide +kernel
theorem dX4_starOfUnionWithStar_74 : decode cX4_starOfUnionWithStar 74 = .ok (.invokestatic 92, 3) := by decide +kernel
theorem dX4_starOfUnionWithStar_77 : decode cX4_starOfUnionWithStar 77 = .ok (.lreturn, 1) := by decide +kernel
theorem dX4_starOfUnionWithStar_78 : decode cX4_starOfUnionWithStar 78 = .ok (.lconst 0, 1) := by decide +kernel
theorem dX4_starOfUnionWithStar_79 : decode cX4_starOfUnionWithStar 79 = .ok (.lreturn, 1) := by decide +kernel
set_option maxRecDepth 20000 in
theorem ggX4_starOfTwoStars_X3_kindAt : GoodIn wsX4_starOfTwoStars wsX3_kindAt := goodIn_r _ [5, 6, 7, 35, 36, 37, 38] rfl (by decide +kernel)
set_option maxRecDepth 20000 in
theorem gX4_starOfTwoStars_X3_kindAt : GoodIn wsX4_starOfTwoStars (wsV RX4 29 RX3 yX3_kindAt wsX3_kindAt) := goodIn_app (goodIn_of _ (by decide +kernel)) ggX4_starOfTwoStars_X3_kindAt
set_option maxRecDepth 20000 in
theorem ggX4_starOfTwoStars_X3_leftOf : GoodIn wsX4_starOfTwoStars wsX3_leftOf := goodIn_r _ [11] rfl (by decide +kernel)
set_option maxRecDepth 20000 in
theorem gX4_starOfTwoStars_X3_leftOf : GoodIn wsX4_starOfTwoStars (wsV RX4 33 RX3 yX3_leftOf wsX3_leftOf) := goodIn_app (goodIn_of _ (by decide +kernel)) ggX4_starOfTwoStars_X3_leftOf
set_option maxRecDepth 20000 in
theorem ggX4_starOfTwoStars_X3_starredAt : GoodIn wsX4_starOfTwoStars wsX3_starredAt := goodIn_r _ [15, 6, 7, 16, 35, 36, 37, 38] rfl (by decide +kernel)
set_option maxRecDepth 20000 in
theorem gX4_starOfTwoStars_X3_starredAt : GoodIn wsX4_starOfTwoStars (wsV RX4 98 RX3 yX3_starredAt wsX3_starredAt) := goodIn_app (goodIn_of _ (by decide +kernel)) ggX4_starOfTwoStars_X3_starredAt
set_option maxRecDepth 20000 in
theorem ggX4_starOfTwoStars_X3_rightOf : GoodIn wsX4_starOfTwoStars wsX3_rightOf := goodIn_r _ [20, 6, 21, 35, 36, 37, 38] rfl (by decide +kernel)
set_option maxRecDepth 20000 in
theorem gX4_starOfTwoStars_X3_rightOf : GoodIn wsX4_starOfTwoStars (wsV RX4 36 RX3 yX3_rightOf wsX3_rightOf) := goodIn_app (goodIn_of _ (by decide +kernel)) ggX4_starOfTwoStars_X3_rightOf
set_option maxRecDepth 20000 in
theorem ggX4_starOfTwoStars_X1_union : GoodIn wsX4_starOfTwoStars wsX1_union := goodIn_r _ [25, 26, 27, 28, 24, 29, 30] rfl (by decide +kernel)
set_option maxRecDepth 20000 in
theorem gX4_starOfTwoStars_X1_union : GoodIn wsX4_starOfTwoStars (va_wsS RX4 105 yX1_union wsX1_union) := goodIn_app (goodIn_of _ (by decide +kernel)) ggX4_starOfTwoStars_X1_union
set_option maxRecDepth 20000 in
theorem ggX4_starOfTwoStars_X1_star : GoodIn wsX4_starOfTwoStars wsX1_star := goodIn_r _ [33, 34, 27, 28, 24, 29, 30] rfl (by decide +kernel)
set_option maxRecDepth 20000 in
theorem gX4_starOfTwoStars_X1_star : GoodIn wsX4_starOfTwoStars (va_wsS RX4 92 yX1_star wsX1_star) := goodIn_app (goodIn_of _ (by decide +kernel)) ggX4_starOfTwoStars_X1_star
theorem dX4_starOfTwoStars_0 : decode cX4_starOfTwoStars 0 = .ok (.aload_n 0, 1) := by decide +kernel
theorem dX4_starOfTwoStars_1 : decode cX4_starOfTwoStars 1 = .ok (.iload_n 1, 1) := by decide +kernel
theorem dX4_starOfTwoStars_2 : decode cX4_starOfTwoStars 2 = .ok (.invokevirtual 29, 3) := by decide +kernel
theorem dX4_starOfTwoStars_5 : decode cX4_starOfTwoStars 5 = .ok (.bipush 7, 2) := by decide +kernel
theorem dX4_starOfTwoStars_7 : decode cX4_starOfTwoStars 7 = .ok (.if_icmp .eq 5, 3) := by decide +kernel
theorem dX4_starOfTwoStars_10 : decode cX4_starOfTwoStars 10 = .ok (.lconst 0, 1) := by decide +kernel
theorem dX4_starOfTwoStars_11 : decode cX4_starOfTwoStars 11 = .ok (.lreturn, 1) := by decide +kernel
theorem dX4_starOfTwoStars_12 : decode cX4_starOfTwoStars 12 = .ok (.aload_n 0, 1) := by decide +kernel
theorem dX4_starOfTwoStars_13 : decode cX4_starOfTwoStars 13 = .ok (.aload_n 0, 1) := by decide +kernel
theorem dX4_starOfTwoStars_14 : decode cX4_starOfTwoStars 14 = .ok (.iload_n 1, 1) := by decide +kernel
theorem dX4_starOfTwoStars_15 : decode cX4_starOfTwoStars 15 = .ok (.invokevirtual 33, 3) := by decide +kernel
theorem dX4_starOfTwoStars_18 : decode cX4_starOfTwoStars 18 = .ok (.invokevirtual 98, 3) := by decide +kernel
theorem dX4_starOfTwoStars_21 : decode cX4_starOfTwoStars 21 = .ok (.lstore_n 2, 1) := by decide +kernel
theorem dX4_starOfTwoStars_22 : decode cX4_starOfTwoStars 22 = .ok (.aload_n 0, 1) := by decide +kernel
theorem dX4_starOfTwoStars_23 : decode cX4_starOfTwoStars 23 = .ok (.aload_n 0, 1) := by decide +kernel
theorem dX4_starOfTwoStars_24 : decode cX4_starOfTwoStars 24 = .ok (.iload_n 1, 1) := by decide +kernel
theorem dX4_starOfTwoStars_25 : decode cX4_starOfTwoStars 25 = .ok (.invokevirtual 36, 3) := by decide +kernel
theorem dX4_starOfTwoStars_28 : decode cX4_starOfTwoStars 28 = .ok (.invokevirtual 98, 3) := by decide +kernel
theorem dX4_starOfTwoStars_31 : decode cX4_starOfTwoStars 31 = .ok (.lstore 4, 2) := by decide +kernel
theorem dX4_starOfTwoStars_33 : decode cX4_starOfTwoStars 33 = .ok (.lload_n 2, 1) := by decide +kernel
theorem dX4_starOfTwoStars_34 : decode cX4_starOfTwoStars 34 = .ok (.lconst 0, 1) := by decide +kernel
theorem dX4_starOfTwoStars_35 : decode cX4_starOfTwoStars 35 = .ok (.lcmp, 1) := by decide +kernel
theorem dX4_starOfTwoStars_36 : decode cX4_starOfTwoStars 36 = .ok (.ifCond .eq 14, 3) := by decide +kernel
theorem dX4_starOfTwoStars_39 : decode cX4_starOfTwoStars 39 = .ok (.lload 4, 2) := by decide +kernel
theorem dX4_starOfTwoStars_41 : decode cX4_starOfTwoStars 41 = .ok (.lconst 0, 1) := by decide +kernel
theorem dX4_starOfTwoStars_42 : decode cX4_starOfTwoStars 42 = .ok (.lcmp, 1) := by decide +kernel
theorem dX4_starOfTwoStars_43 : decode cX4_starOfTwoStars 43 = .ok (.ifCond .eq 7, 3) := by decide +kernel
theorem dX4_starOfTwoStars_46 : decode cX4_starOfTwoStars 46 = .ok (.iconst 1, 1) := by decide +kernel
theorem dX4_starOfTwoStars_47 : decode cX4_starOfTwoStars 47 = .ok (.goto 4, 3) := by decide +kernel
theorem dX4_starOfTwoStars_50 : decode cX4_starOfTwoStars 50 = .ok (.iconst 0, 1) := by decide +kernel
theorem dX4_starOfTwoStars_51 : decode cX4_starOfTwoStars 51 = .ok (.istore 6, 2) := by decide +kernel
theorem dX4_starOfTwoStars_53 : decode cX4_starOfTwoStars 53 = .ok (.iload 6, 2) := by decide +kernel
theorem dX4_starOfTwoStars_55 : decode cX4_starOfTwoStars 55 = .ok (.ifCond .eq 15, 3) := by decide +kernel
theorem dX4_starOfTwoStars_58 : decode cX4_starOfTwoStars 58 = .ok (.lload_n 2, 1) := by decide +kernel
theorem dX4_starOfTwoStars_59 : decode cX4_starOfTwoStars 59 = .ok (.lload 4, 2) := by decide +kernel
theorem dX4_starOfTwoStars_61 : decode cX4_starOfTwoStars 61 = .ok (.invokestatic 105, 3) := by decide +kernel
theorem dX4_starOfTwoStars_64 : decode cX4_starOfTwoStars 64 = .ok (.invokestatic 92, 3) := by decide +kernel
theorem dX4_starOfTwoStars_67 : decode cX4_starOfTwoStars 67 = .ok (.goto 4, 3) := by decide +kernel
theorem dX4_starOfTwoStars_70 : decode cX4_starOfTwoStars 70 = .ok (.lconst 0, 1) := by decide +kernel
theorem dX4_starOfTwoStars_71 : decode cX4_starOfTwoStars 71 = .ok (.lreturn, 1) := by decide +kernel
set_option maxRecDepth 20000 in
theorem ggX4_repeatedInInnerUnion_X3_kindAt : GoodIn wsX4_repeatedInInnerUnion wsX3_kindAt := goodIn_r _ [5, 6, 7, 31, 32, 33, 34] rfl (by decide +kernel)
set_option maxRecDepth 20000 in
theorem gX4_repeatedInInnerUnion_X3_kindAt : GoodIn wsX4_repeatedInInnerUnion (wsV RX4 29 RX3 yX3_kindAt wsX3_kindAt) := goodIn_app (goodIn_of _ (by decide +kernel)) ggX4_repeatedInInnerUnion_X3_kindAt
set_option maxRecDepth 20000 in
theorem ggX4_repeatedInInnerUnion_X3_codeAt : GoodIn wsX4_repeatedInInnerUnion wsX3_codeAt := goodIn_r _ [11, 6, 12, 31, 32, 33, 34] rfl (by decide +kernel)
set_option maxRecDepth 20000 in
theorem gX4_repeatedInInnerUnion_X3_codeAt : GoodIn wsX4_repeatedInInnerUnion (wsV RX4 86 RX3 yX3_codeAt wsX3_codeAt) := goodIn_app (goodIn_of _ (by decide +kernel)) ggX4_repeatedInInnerUnion_X3_codeAt
set_option maxRecDepth 20000 in
theorem ggX4_repeatedInInnerUnion_X3_leftOf : GoodIn wsX4_repeatedInInnerUnion wsX3_leftOf := goodIn_r _ [16] rfl (by decide +kernel)
set_option maxRecDepth 20000 in
theorem gX4_repeatedInInnerUnion_X3_leftOf : GoodIn wsX4_repeatedInInnerUnion (wsV RX4 33 RX3 yX3_leftOf wsX3_leftOf) := goodIn_app (goodIn_of _ (by decide +kernel)) ggX4_repeatedInInnerUnion_X3_leftOf
set_option maxRecDepth 20000 in
theorem ggX4_repeatedInInnerUnion_X3_rightOf : GoodIn wsX4_repeatedInInnerUnion wsX3_rightOf := goodIn_r _ [20, 6, 21, 31, 32, 33, 34] rfl (by decide +kernel)
set_option maxRecDepth 20000 in
theorem gX4_repeatedInInnerUnion_X3_rightOf : GoodIn wsX4_repeatedInInnerUnion (wsV RX4 36 RX3 yX3_rightOf wsX3_rightOf) := goodIn_app (goodIn_of _ (by decide +kernel)) ggX4_repeatedInInnerUnion_X3_rightOf
set_option maxRecDepth 20000 in
theorem ggX4_repeatedInInnerUnion_X1_union : GoodIn wsX4_repeatedInInnerUnion wsX1_union := goodIn_r _ [25, 26, 27, 28, 24, 29, 30] rfl (by decide +kernel)
set_option maxRecDepth 20000 in
theorem gX4_repeatedInInnerUnion_X1_union : GoodIn wsX4_repeatedInInnerUnion (va_wsS RX4 105 yX1_union wsX1_union) := goodIn_app (goodIn_of _ (by decide +kernel)) ggX4_repeatedInInnerUnion_X1_union
theorem dX4_repeatedInInnerUnion_0 : decode cX4_repeatedInInnerUnion 0 = .ok (.aload_n 0, 1) := by decide +kernel
theorem dX4_repeatedInInnerUnion_1 : decode cX4_repeatedInInnerUnion 1 = .ok (.iload_n 2, 1) := by decide +kernel
theorem dX4_repeatedInInnerUnion_2 : decode cX4_repeatedInInnerUnion 2 = .ok (.invokevirtual 29, 3) := by decide +kernel
theorem dX4_repeatedInInnerUnion_5 : decode cX4_repeatedInInnerUnion 5 = .ok (.bipush 6, 2) := by decide +kernel
theorem dX4_repeatedInInnerUnion_7 : decode cX4_repeatedInInnerUnion 7 = .ok (.if_icmp .eq 5, 3) := by decide +kernel
theorem dX4_repeatedInInnerUnion_10 : decode cX4_repeatedInInnerUnion 10 = .ok (.lconst 0, 1) := by decide +kernel
theorem dX4_repeatedInInnerUnion_11 : decode cX4_repeatedInInnerUnion 11 = .ok (.lreturn, 1) := by decide +kernel
theorem dX4_repeatedInInnerUnion_12 : decode cX4_repeatedInInnerUnion 12 = .ok (.aload_n 0, 1) := by decide +kernel
theorem dX4_repeatedInInnerUnion_13 : decode cX4_repeatedInInnerUnion 13 = .ok (.iload_n 1, 1) := by decide +kernel
theorem dX4_repeatedInInnerUnion_14 : decode cX4_repeatedInInnerUnion 14 = .ok (.invokevirtual 86, 3) := by decide +kernel
theorem dX4_repeatedInInnerUnion_17 : decode cX4_repeatedInInnerUnion 17 = .ok (.lstore_n 3, 1) := by decide +kernel
theorem dX4_repeatedInInnerUnion_18 : decode cX4_repeatedInInnerUnion 18 = .ok (.aload_n 0, 1) := by decide +kernel
theorem dX4_repeatedInInnerUnion_19 : decode cX4_repeatedInInnerUnion 19 = .ok (.aload_n 0, 1) := by decide +kernel
theorem dX4_repeatedInInnerUnion_20 : decode cX4_repeatedInInnerUnion 20 = .ok (.iload_n 2, 1) := by decide +kernel
theorem dX4_repeatedInInnerUnion_21 : decode cX4_repeatedInInnerUnion 21 = .ok (.invokevirtual 33, 3) := by decide +kernel
theorem dX4_repeatedInInnerUnion_24 : decode cX4_repeatedInInnerUnion 24 = .ok (.invokevirtual 86, 3) := by decide +kernel
theorem dX4_repeatedInInnerUnion_27 : decode cX4_repeatedInInnerUnion 27 = .ok (.lstore 5, 2) := by decide +kernel
theorem dX4_repeatedInInnerUnion_29 : decode cX4_repeatedInInnerUnion 29 = .ok (.aload_n 0, 1) := by decide +kernel
theorem dX4_repeatedInInnerUnion_30 : decode cX4_repeatedInInnerUnion 30 = .ok (.aload_n 0, 1) := by decide +kernel
theorem dX4_repeatedInInnerUnion_31 : decode cX4_repeatedInInnerUnion 31 = .ok (.iload_n 2, 1) := by decide +kernel
theorem dX4_repeatedInInnerUnion_32 : decode cX4_repeatedInInnerUnion 32 = .ok (.invokevirtual 36, 3) := by decide +kernel
theorem dX4_repeatedInInnerUnion_35 : decode cX4_repeatedInInnerUnion 35 = .ok (.invokevirtual 86, 3) := by decide +kernel
theorem dX4_repeatedInInnerUnion_38 : decode cX4_repeatedInInnerUnion 38 = .ok (.lstore 7, 2) := by decide +kernel
theorem dX4_repeatedInInnerUnion_40 : decode cX4_repeatedInInnerUnion 40 = .ok (.lload_n 3, 1) := by decide +kernel
theorem dX4_repeatedInInnerUnion_41 : decode cX4_repeatedInInnerUnion 41 = .ok (.lload 5, 2) := by decide +kernel
theorem dX4_repeatedInInnerUnion_43 : decode cX4_repeatedInInnerUnion 43 = .ok (.lcmp, 1) := by decide +kernel
theorem dX4_repeatedInInnerUnion_44 : decode cX4_repeatedInInnerUnion 44 = .ok (.ifCond .ne 10, 3) := by decide +kernel
theorem dX4_repeatedInInnerUnion_47 : decode cX4_repeatedInInnerUnion 47 = .ok (.lload_n 3, 1) := by decide +kernel
theorem dX4_repeatedInInnerUnion_48 : decode cX4_repeatedInInnerUnion 48 = .ok (.lload 7, 2) := by decide +kernel
theorem dX4_repeatedInInnerUnion_50 : decode cX4_repeatedInInnerUnion 50 = .ok (.invokestatic 105, 3) := by decide +kernel
theorem dX4_repeatedInInnerUnion_53 : decode cX4_repeatedInInnerUnion 53 = .ok (.lreturn, 1) := by decide +kernel
theorem dX4_repeatedInInnerUnion_54 : decode cX4_repeatedInInnerUnion 54 = .ok (.lload_n 3, 1) := by decide +kernel
theorem dX4_repeatedInInnerUnion_55 : decode cX4_repeatedInInnerUnion 55 = .ok (.lload 7, 2) := by decide +kernel
theorem dX4_repeatedInInnerUnion_57 : decode cX4_repeatedInInnerUnion 57 = .ok (.lcmp, 1) := by decide +kernel
theorem dX4_repeatedInInnerUnion_58 : decode cX4_repeatedInInnerUnion 58 = .ok (.ifCond .ne 12, 3) := by decide +kernel
theorem dX4_repeatedInInnerUnion_61 : decode cX4_repeatedInInnerUnion 61 = .ok (.lload_n 3, 1) := by decide +kernel
theorem dX4_repeatedInInnerUnion_62 : decode cX4_repeatedInInnerUnion 62 = .ok (.lload 5, 2) := by decide +kernel
theorem dX4_repeatedInInnerUnion_64 : decode cX4_repeatedInInnerUnion 64 = .ok (.invokestatic 105, 3) := by decide +kernel
theorem dX4_repeatedInInnerUnion_67 : decode cX4_repeatedInInnerUnion 67 = .ok (.goto 4, 3) := by decide +kernel
theorem dX4_repeatedInInnerUnion_70 : decode cX4_repeatedInInnerUnion 70 = .ok (.lconst 0, 1) := by decide +kernel
theorem dX4_repeatedInInnerUnion_71 : decode cX4_repeatedInInnerUnion 71 = .ok (.lreturn, 1) := by decide +kernel
set_option maxRecDepth 20000 in
theorem ggX5_init_X3_init : GoodIn wsX5_init wsX3_init := goodIn_r _ [13, 14, 2, 3, 10, 15, 16, 8, 17, 18, 19, 20, 21] rfl (by decide +kernel)
set_option maxRecDepth 20000 in
theorem gX5_init_X3_init_n11 : GoodIn wsX5_init (wsX3_init) := ggX5_init_X3_init
theorem dX5_init_0 : decode cX5_init 0 = .ok (.aload_n 0, 1) := by decide +kernel
theorem dX5_init_1 : decode cX5_init 1 = .ok (.invokespecial 3, 3) := by decide +kernel
theorem dX5_init_4 : decode cX5_init 4 = .ok (.aload_n 0, 1) := by decide +kernel
theorem dX5_init_5 : decode cX5_init 5 = .ok (.new 9, 3) := by decide +kernel
theorem dX5_init_8 : decode cX5_init 8 = .ok (.dup, 1) := by decide +kernel
theorem dX5_init_9 : decode cX5_init 9 = .ok (.invokespecial 11, 3) := by decide +kernel
theorem dX5_init_12 : decode cX5_init 12 = .ok (.putfield 12, 3) := by decide +kernel
theorem dX5_init_15 : decode cX5_init 15 = .ok (.aload_n 0, 1) := by decide +kernel
theorem dX5_init_16 : decode cX5_init 16 = .ok (.bipush 60, 2) := by decide +kernel
theorem dX5_init_18 : decode cX5_init 18 = .ok (.newarray .long, 2) := by decide +kernel
theorem dX5_init_20 : decode cX5_init 20 = .ok (.putfield 18, 3) := by decide +kernel
theorem dX5_init_23 : decode cX5_init 23 = .ok (.aload_n 0, 1) := by decide +kernel
theorem dX5_init_24 : decode cX5_init 24 = .ok (.bipush 60, 2) := by decide +kernel
theorem dX5_init_26 : decode cX5_init 26 = .ok (.newarray .int, 2) := by decide +kernel
theorem dX5_init_28 : decode cX5_init 28 = .ok (.putfield 22, 3) := by decide +kernel
theorem dX5_init_31 : decode cX5_init 31 = .ok (.return_, 1) := by decide +kernel
set_option maxRecDepth 20000 in
theorem ggX5_run_X5_expand : GoodIn wsX5_run wsX5_expand := goodIn_r _ [8, 9, 1, 2, 10, 11, 12, 13, 14, 15, 16, 17, 18, 19, 20, 21, 22, 23, 24, 25, 26, 27, 28, 29, 30, 31, 32, 33, 34, 35, 36, 37, 38, 39, 40, 41, 42, 43, 44, 45, 46, 47, 48, 49, 50, 51, 52, 53, 54, 55, 56, 57, 58, 59, 60, 61, 62, 63, 64, 65, 66, 67, 68, 69, 70, 71, 72, 73, 74, 75, 76, 77, 78, 79, 80, 81, 82, 83, 84, 85, 86, 87, 88, 89, 90, 91, 92, 93, 94, 95, 96, 97, 98, 99, 100, 101, 102, 103, 104, 105, 106, 107, 108, 109, 110, 111, 112, 113, 114, 115, 116, 117, 118, 119, 120, 121, 122, 123, 124, 125, 126, 127, 128, 129, 130, 131, 132, 7, 133, 3, 134, 135, 136, 137, 138, 139, 140, 141] rfl (by decide +kernel)
set_option maxRecDepth 20000 in
theorem gX5_run_X5_expand : GoodIn wsX5_run (wsV RX5 30 RX5 yX5_expand wsX5_expand) := goodIn_app (goodIn_of _ (by decide +kernel)) ggX5_run_X5_expand
theorem dX5_run_0 : decode cX5_run 0 = .ok (.aload_n 0, 1) := by decide +kernel
theorem dX5_run_1 : decode cX5_run 1 = .ok (.getfield 18, 3) := by decide +kernel
theorem dX5_run_4 : decode cX5_run 4 = .ok (.iconst 0, 1) := by decide +kernel
theorem dX5_run_5 : decode cX5_run 5 = .ok (.lload_n 1, 1) := by decide +kernel
theorem dX5_run_6 : decode cX5_run 6 = .ok (.lastore, 1) := by decide +kernel
theorem dX5_run_7 : decode cX5_run 7 = .ok (.aload_n 0, 1) := by decide +kernel
theorem dX5_run_8 : decode cX5_run 8 = .ok (.getfield 22, 3) := by decide +kernel
theorem dX5_run_11 : decode cX5_run 11 = .ok (.iconst 0, 1) := by decide +kernel
theorem dX5_run_12 : decode cX5_run 12 = .ok (.iconst 0, 1) := by decide +kernel
theorem dX5_run_13 : decode cX5_run 13 = .ok (.iastore, 1) := by decide +kernel
theorem dX5_run_14 : decode cX5_run 14 = .ok (.aload_n 0, 1) := by decide +kernel
theorem dX5_run_15 : decode cX5_run 15 = .ok (.iconst 1, 1) := by decide +kernel
theorem dX5_run_16 : decode cX5_run 16 = .ok (.putfield 26, 3) := by decide +kernel
theorem dX5_run_19 : decode cX5_run 19 = .ok (.iconst 0, 1) := by decide +kernel
theorem dX5_run_20 : decode cX5_run 20 = .ok (.istore_n 3, 1) := by decide +kernel
theorem dX5_run_21 : decode cX5_run 21 = .ok (.iload_n 3, 1) := by decide +kernel
theorem dX5_run_22 : decode cX5_run 22 = .ok (.aload_n 0, 1) := by decide +kernel
theorem dX5_run_23 : decode cX5_run 23 = .ok (.getfield 26, 3) := by decide +kernel
theorem dX5_run_26 : decode cX5_run 26 = .ok (.if_icmp .ge 25, 3) := by decide +kernel
theorem dX5_run_29 : decode cX5_run 29 = .ok (.iload_n 3, 1) := by decide +kernel
theorem dX5_run_30 : decode cX5_run 30 = .ok (.bipush 60, 2) := by decide +kernel
theorem dX5_run_32 : decode cX5_run 32 = .ok (.if_icmp .ge 19, 3) := by decide +kernel
theorem dX5_run_35 : decode cX5_run 35 = .ok (.aload_n 0, 1) := by decide +kernel
theorem dX5_run_36 : decode cX5_run 36 = .ok (.iload_n 3, 1) := by decide +kernel
theorem dX5_run_37 : decode cX5_run 37 = .ok (.invokevirtual 30, 3) := by decide +kernel
theorem dX5_run_40 : decode cX5_run 40 = .ok (.ifCond .ne 5, 3) := by decide +kernel
theorem dX5_run_43 : decode cX5_run 43 = .ok (.iconst 0, 1) := by decide +kernel
theorem dX5_run_44 : decode cX5_run 44 = .ok (.ireturn, 1) := by decide +kernel
theorem dX5_run_45 : decode cX5_run 45 = .ok (.iinc 3 1, 3) := by decide +kernel
theorem dX5_run_48 : decode cX5_run 48 = .ok (.goto (-27), 3) := by decide +kernel
theorem dX5_run_51 : decode cX5_run 51 = .ok (.iconst 1, 1) := by decide +kernel
theorem dX5_run_52 : decode cX5_run 52 = .ok (.ireturn, 1) := by decide +kernel
theorem dX5_metCount_0 : decode cX5_metCount 0 = .ok (.aload_n 0, 1) := by decide +kernel
theorem dX5_metCount_1 : decode cX5_metCount 1 = .ok (.getfield 26, 3) := by decide +kernel
theorem dX5_metCount_4 : decode cX5_metCount 4 = .ok (.ireturn, 1) := by decide +kernel
set_option maxRecDepth 20000 in
theorem ggX5_answer_X5_answerIndex : GoodIn wsX5_answer wsX5_answerIndex := goodIn_r _ [6, 7, 1, 8, 9, 10, 11, 12, 13, 14, 15, 16] rfl (by decide +kernel)
set_option maxRecDepth 20000 in
theorem gX5_answer_X5_answerIndex : GoodIn wsX5_answer (wsV RX5 34 RX5 yX5_answerIndex wsX5_answerIndex) := goodIn_app (goodIn_of _ (by decide +kernel)) ggX5_answer_X5_answerIndex
theorem dX5_answer_0 : decode cX5_answer 0 = .ok (.aload_n 0, 1) := by decide +kernel
theorem dX5_answer_1 : decode cX5_answer 1 = .ok (.getfield 18, 3) := by decide +kernel
theorem dX5_answer_4 : decode cX5_answer 4 = .ok (.aload_n 0, 1) := by decide +kernel
theorem dX5_answer_5 : decode cX5_answer 5 = .ok (.invokevirtual 34, 3) := by decide +kernel
theorem dX5_answer_8 : decode cX5_answer 8 = .ok (.laload, 1) := by decide +kernel
theorem dX5_answer_9 : decode cX5_answer 9 = .ok (.lreturn, 1) := by decide +kernel
set_option maxRecDepth 20000 in
theorem ggX5_answerDistance_X5_answerIndex : GoodIn wsX5_answerDistance wsX5_answerIndex := goodIn_r _ [6, 7, 8, 9, 10, 11, 12, 13, 14, 15, 16, 17] rfl (by decide +kernel)
set_option maxRecDepth 20000 in
theorem gX5_answerDistance_X5_answerIndex : GoodIn wsX5_answerDistance (wsV RX5 34 RX5 yX5_answerIndex wsX5_answerIndex) := goodIn_app (goodIn_of _ (by decide +kernel)) ggX5_answerDistance_X5_answerIndex
theorem dX5_answerDistance_0 : decode cX5_answerDistance 0 = .ok (.aload_n 0, 1) := by decide +kernel
theorem dX5_answerDistance_1 : decode cX5_answerDistance 1 = .ok (.getfield 22, 3) := by decide +kernel
theorem dX5_answerDistance_4 : decode cX5_answerDistance 4 = .ok (.aload_n 0, 1) := by decide +kernel
theorem dX5_answerDistance_5 : decode cX5_answerDistance 5 = .ok (.invokevirtual 34, 3) := by decide +kernel
theorem dX5_answerDistance_8 : decode cX5_answerDistance 8 = .ok (.iaload, 1) := by decide +kernel
theorem dX5_answerDistance_9 : decode cX5_answerDistance 9 = .ok (.ireturn, 1) := by decide +kernel
set_option maxRecDepth 20000 in
theorem ggX5_answerIndex_X1_digitCount : GoodIn wsX5_answerIndex wsX1_digitCount := goodIn_r _ [6, 7] rfl (by decide +kernel)
set_option maxRecDepth 20000 in
theorem gX5_answerIndex_X1_digitCount : GoodIn wsX5_answerIndex (va_wsS RX5 38 yX1_digitCount wsX1_digitCount) := goodIn_app (goodIn_of _ (by decide +kernel)) ggX5_answerIndex_X1_digitCount
theorem dX5_answerIndex_0 : decode cX5_answerIndex 0 = .ok (.iconst 0, 1) := by decide +kernel
theorem dX5_answerIndex_1 : decode cX5_answerIndex 1 = .ok (.istore_n 1, 1) := by decide +kernel
theorem dX5_answerIndex_2 : decode cX5_answerIndex 2 = .ok (.iconst 1, 1) := by decide +kernel
theorem dX5_answerIndex_3 : decode cX5_answerIndex 3 = .ok (.istore_n 2, 1) := by decide +kernel
theorem dX5_answerIndex_4 : decode cX5_answerIndex 4 = .ok (.iload_n 2, 1) := by decide +kernel
theorem dX5_answerIndex_5 : decode cX5_answerIndex 5 = .ok (.aload_n 0, 1) := by decide +kernel
theorem dX5_answerIndex_6 : decode cX5_answerIndex 6 = .ok (.getfield 26, 3) := by decide +kernel
theorem dX5_answerIndex_9 : decode cX5_answerIndex 9 = .ok (.if_icmp .ge 38, 3) := by decide +kernel
theorem dX5_answerIndex_12 : decode cX5_answerIndex 12 = .ok (.iload_n 2, 1) := by decide +kernel
theorem dX5_answerIndex_13 : decode cX5_answerIndex 13 = .ok (.bipush 60, 2) := by decide +kernel
theorem dX5_answerIndex_15 : decode cX5_answerIndex 15 = .ok (.if_icmp .ge 32, 3) := by decide +kernel
theorem dX5_answerIndex_18 : decode cX5_answerIndex 18 = .ok (.aload_n 0, 1) := by decide +kernel
theorem dX5_answerIndex_19 : decode cX5_answerIndex 19 = .ok (.getfield 18, 3) := by decide +kernel
theorem dX5_answerIndex_22 : decode cX5_answerIndex 22 = .ok (.iload_n 2, 1) := by decide +kernel
theorem dX5_answerIndex_23 : decode cX5_answerIndex 23 = .ok (.laload, 1) := by decide +kernel
theorem dX5_answerIndex_24 : decode cX5_answerIndex 24 = .ok (.invokestatic 38, 3) := by decide +kernel
theorem dX5_answerIndex_27 : decode cX5_answerIndex 27 = .ok (.aload_n 0, 1) := by decide +kernel
theorem dX5_answerIndex_28 : decode cX5_answerIndex 28 = .ok (.getfield 18, 3) := by decide +kernel
theorem dX5_answerIndex_31 : decode cX5_answerIndex 31 = .ok (.iload_n 1, 1) := by decide +kernel
theorem dX5_answerIndex_32 : decode cX5_answerIndex 32 = .ok (.laload, 1) := by decide +kernel
theorem dX5_answerIndex_33 : decode cX5_answerIndex 33 = .ok (.invokestatic 38, 3) := by decide +kernel
theorem dX5_answerIndex_36 : decode cX5_answerIndex 36 = .ok (.if_icmp .ge 5, 3) := by decide +kernel
theorem dX5_answerIndex_39 : decode cX5_answerIndex 39 = .ok (.iload_n 2, 1) := by decide +kernel
theorem dX5_answerIndex_40 : decode cX5_answerIndex 40 = .ok (.istore_n 1, 1) := by decide +kernel
theorem dX5_answerIndex_41 : decode cX5_answerIndex 41 = .ok (.iinc 2 1, 3) := by decide +kernel
theorem dX5_answerIndex_44 : decode cX5_answerIndex 44 = .ok (.goto (-40), 3) := by decide +kernel
theorem dX5_answerIndex_47 : decode cX5_answerIndex 47 = .ok (.iload_n 1, 1) := by decide +kernel
theorem dX5_answerIndex_48 : decode cX5_answerIndex 48 = .ok (.ireturn, 1) := by decide +kernel
set_option maxRecDepth 20000 in
theorem ggX5_expand_X3_read : GoodIn wsX5_expand wsX3_read := goodIn_r _ [8, 9, 10, 11, 12, 13, 14, 15, 16, 17, 18, 19, 20, 21, 22, 23, 7, 24, 134, 135, 136, 137] rfl (by decide +kernel)
set_option maxRecDepth 20000 in
theorem gX5_expand_X3_read : GoodIn wsX5_expand (wsV RX5 44 RX3 yX3_read wsX3_read) := goodIn_app (goodIn_of _ (by decide +kernel)) ggX5_expand_X3_read
set_option maxRecDepth 20000 in
theorem ggX5_expand_X3_nodeCount : GoodIn wsX5_expand wsX3_nodeCount := goodIn_r _ [28, 9, 134, 135, 136, 137] rfl (by decide +kernel)
set_option maxRecDepth 20000 in
theorem gX5_expand_X3_nodeCount : GoodIn wsX5_expand (wsV RX5 48 RX3 yX3_nodeCount wsX3_nodeCount) := goodIn_app (goodIn_of _ (by decide +kernel)) ggX5_expand_X3_nodeCount
set_option maxRecDepth 20000 in
theorem ggX5_expand_X4_replacement : GoodIn wsX5_expand wsX4_replacement := goodIn_r _ [32, 33, 34, 35, 36, 7, 37, 9, 10, 38, 39, 40, 41, 42, 43, 44, 45, 11, 46, 47, 31, 48, 49, 50, 51, 52, 12, 53, 54, 55, 56, 57, 58, 59, 60, 61, 62, 63, 64, 65, 66, 67, 68, 69, 70, 15, 71, 72, 73, 74, 75, 76, 77, 78, 79, 80, 81, 82, 83, 84, 85, 86, 87, 88, 89, 90, 91, 92, 93, 94, 95, 96, 97, 98, 99, 100, 101, 102, 103, 104, 105, 106, 107, 108, 109, 110, 111, 112, 113, 114, 115, 116, 117, 118, 134, 135, 136, 137] rfl (by decide +kernel)
set_option maxRecDepth 20000 in
theorem gX5_expand_X4_replacement : GoodIn wsX5_expand (va_wsS RX5 51 yX4_replacement wsX4_replacement) := goodIn_app (goodIn_of _ (by decide +kernel)) ggX5_expand_X4_replacement
set_option maxRecDepth 20000 in
theorem ggX5_expand_X3_withReplaced : GoodIn wsX5_expand wsX3_withReplaced := goodIn_r _ [122, 9, 11, 12, 13, 14, 15, 16, 17, 123, 74, 75, 76, 134, 135, 136, 137] rfl (by decide +kernel)
set_option maxRecDepth 20000 in
theorem gX5_expand_X3_withReplaced : GoodIn wsX5_expand (wsV RX5 57 RX3 yX3_withReplaced wsX3_withReplaced) := goodIn_app (goodIn_of _ (by decide +kernel)) ggX5_expand_X3_withReplaced
set_option maxRecDepth 20000 in
theorem ggX5_expand_X5_meet : GoodIn wsX5_expand wsX5_meet := goodIn_r _ [128, 129, 2, 3, 130, 131, 132, 133] rfl (by decide +kernel)
set_option maxRecDepth 20000 in
theorem gX5_expand_X5_meet : GoodIn wsX5_expand (wsV RX5 61 RX5 yX5_meet wsX5_meet) := goodIn_app (goodIn_of _ (by decide +kernel)) ggX5_expand_X5_meet
theorem dX5_expand_0 : decode cX5_expand 0 = .ok (.iload_n 1, 1) := by decide +kernel
theorem dX5_expand_1 : decode cX5_expand 1 = .ok (.ifCond .lt 9, 3) := by decide +kernel
theorem dX5_expand_4 : decode cX5_expand 4 = .ok (.iload_n 1, 1) := by decide +kernel
theorem dX5_expand_5 : decode cX5_expand 5 = .ok (.bipush 60, 2) := by decide +kernel
theorem dX5_expand_7 : decode cX5_expand 7 = .ok (.if_icmp .lt 5, 3) := by decide +kernel
theorem dX5_expand_10 : decode cX5_expand 10 = .ok (.iconst 0, 1) := by decide +kernel
theorem dX5_expand_11 : decode cX5_expand 11 = .ok (.ireturn, 1) := by decide +kernel
theorem dX5_expand_12 : decode cX5_expand 12 = .ok (.aload_n 0, 1) := by decide +kernel
theorem dX5_expand_13 : decode cX5_expand 13 = .ok (.getfield 12, 3) := by decide +kernel
theorem dX5_expand_16 : decode cX5_expand 16 = .ok (.aload_n 0, 1) := by decide +kernel
theorem dX5_expand_17 : decode cX5_expand 17 = .ok (.getfield 18, 3) := by decide +kernel
theorem dX5_expand_20 : decode cX5_expand 20 = .ok (.iload_n 1, 1) := by decide +kernel
theorem dX5_expand_21 : decode cX5_expand 21 = .ok (.laload, 1) := by decide +kernel
theorem dX5_expand_22 : decode cX5_expand 22 = .ok (.invokevirtual 44, 3) := by decide +kernel
theorem dX5_expand_25 : decode cX5_expand 25 = .ok (.pop, 1) := by decide +kernel
theorem dX5_expand_26 : decode cX5_expand 26 = .ok (.aload_n 0, 1) := by decide +kernel
theorem dX5_expand_27 : decode cX5_expand 27 = .ok (.getfield 22, 3) := by decide +kernel
theorem dX5_expand_30 : decode cX5_expand 30 = .ok (.iload_n 1, 1) := by decide +kernel
theorem dX5_expand_31 : decode cX5_expand 31 = .ok (.iaload, 1) := by decide +kernel
theorem dX5_expand_32 : decode cX5_expand 32 = .ok (.iconst 1, 1) := by decide +kernel
theorem dX5_expand_33 : decode cX5_expand 33 = .ok (.iadd, 1) := by decide +kernel
theorem dX5_expand_34 : decode cX5_expand 34 = .ok (.istore_n 2, 1) := by decide +kernel
theorem dX5_expand_35 : decode cX5_expand 35 = .ok (.iconst 0, 1) := by decide +kernel
theorem dX5_expand_36 : decode cX5_expand 36 = .ok (.istore_n 3, 1) := by decide +kernel
theorem dX5_expand_37 : decode cX5_expand 37 = .ok (.iload_n 3, 1) := by decide +kernel
theorem dX5_expand_38 : decode cX5_expand 38 = .ok (.aload_n 0, 1) := by decide +kernel
theorem dX5_expand_39 : decode cX5_expand 39 = .ok (.getfield 12, 3) := by decide +kernel
theorem dX5_expand_42 : decode cX5_expand 42 = .ok (.invokevirtual 48, 3) := by decide +kernel
theorem dX5_expand_45 : decode cX5_expand 45 = .ok (.if_icmp .ge 76, 3) := by decide +kernel
theorem dX5_expand_48 : decode cX5_expand 48 = .ok (.iconst 0, 1) := by decide +kernel
theorem dX5_expand_49 : decode cX5_expand 49 = .ok (.istore 4, 2) := by decide +kernel
theorem dX5_expand_51 : decode cX5_expand 51 = .ok (.iload 4, 2) := by decide +kernel
theorem dX5_expand_53 : decode cX5_expand 53 = .ok (.bipush 16, 2) := by decide +kernel
theorem dX5_expand_55 : decode cX5_expand 55 = .ok (.if_icmp .ge 60, 3) := by decide +kernel
theorem dX5_expand_58 : decode cX5_expand 58 = .ok (.aload_n 0, 1) := by decide +kernel
theorem dX5_expand_59 : decode cX5_expand 59 = .ok (.getfield 12, 3) := by decide +kernel
theorem dX5_expand_62 : decode cX5_expand 62 = .ok (.iload 4, 2) := by decide +kernel
theorem dX5_expand_64 : decode cX5_expand 64 = .ok (.iload_n 3, 1) := by decide +kernel
theorem dX5_expand_65 : decode cX5_expand 65 = .ok (.invokestatic 51, 3) := by decide +kernel
theorem dX5_expand_68 : decode cX5_expand 68 = .ok (.lstore 5, 2) := by decide +kernel
theorem dX5_expand_70 : decode cX5_expand 70 = .ok (.lload 5, 2) := by decide +kernel
theorem dX5_expand_72 : decode cX5_expand 72 = .ok (.lconst 0, 1) := by decide +kernel
theorem dX5_expand_73 : decode cX5_expand 73 = .ok (.lcmp, 1) := by decide +kernel
theorem dX5_expand_74 : decode cX5_expand 74 = .ok (.ifCond .eq 7, 3) := by decide +kernel
theorem dX5_expand_77 : decode cX5_expand 77 = .ok (.iconst 1, 1) := by decide +kernel
theorem dX5_expand_78 : decode cX5_expand 78 = .ok (.goto 4, 3) := by decide +kernel
theorem dX5_expand_81 : decode cX5_expand 81 = .ok (.iconst 0, 1) := by decide +kernel
theorem dX5_expand_82 : decode cX5_expand 82 = .ok (.istore 7, 2) := by decide +kernel
theorem dX5_expand_84 : decode cX5_expand 84 = .ok (.iload 7, 2) := by decide +kernel
theorem dX5_expand_86 : decode cX5_expand 86 = .ok (.ifCond .eq 23, 3) := by decide +kernel
theorem dX5_expand_89 : decode cX5_expand 89 = .ok (.aload_n 0, 1) := by decide +kernel
theorem dX5_expand_90 : decode cX5_expand 90 = .ok (.aload_n 0, 1) := by decide +kernel
theorem dX5_expand_91 : decode cX5_expand 91 = .ok (.getfield 12, 3) := by decide +kernel
theorem dX5_expand_94 : decode cX5_expand 94 = .ok (.iload_n 3, 1) := by decide +kernel
theorem dX5_expand_95 : decode cX5_expand 95 = .ok (.lload 5, 2) := by decide +kernel
theorem dX5_expand_97 : decode cX5_expand 97 = .ok (.invokevirtual 57, 3) := by decide +kernel
theorem dX5_expand_100 : decode cX5_expand 100 = .ok (.iload_n 2, 1) := by decide +kernel
theorem dX5_expand_101 : decode cX5_expand 101 = .ok (.invokevirtual 61, 3) := by decide +kernel
theorem dX5_expand_104 : decode cX5_expand 104 = .ok (.ifCond .ne 5, 3) := by decide +kernel
theorem dX5_expand_107 : decode cX5_expand 107 = .ok (.iconst 0, 1) := by decide +kernel
theorem dX5_expand_108 : decode cX5_expand 108 = .ok (.ireturn, 1) := by decide +kernel
theorem dX5_expand_109 : decode cX5_expand 109 = .ok (.iinc 4 1, 3) := by decide +kernel
theorem dX5_expand_112 : decode cX5_expand 112 = .ok (.goto (-61), 3) := by decide +kernel
theorem dX5_expand_115 : decode cX5_expand 115 = .ok (.iinc 3 1, 3) := by decide +kernel
theorem dX5_expand_118 : decode cX5_expand 118 = .ok (.goto (-81), 3) := by decide +kernel
theorem dX5_expand_121 : decode cX5_expand 121 = .ok (.iconst 1, 1) := by decide +kernel
theorem dX5_expand_122 : decode cX5_expand 122 = .ok (.ireturn, 1) := by decide +kernel
theorem dX5_meet_0 : decode cX5_meet 0 = .ok (.iconst 0, 1) := by decide +kernel
theorem dX5_meet_1 : decode cX5_meet 1 = .ok (.istore 4, 2) := by decide +kernel
theorem dX5_meet_3 : decode cX5_meet 3 = .ok (.iload 4, 2) := by decide +kernel
theorem dX5_meet_5 : decode cX5_meet 5 = .ok (.aload_n 0, 1) := by decide +kernel
theorem dX5_meet_6 : decode cX5_meet 6 = .ok (.getfield 26, 3) := by decide +kernel
theorem dX5_meet_9 : decode cX5_meet 9 = .ok (.if_icmp .ge 30, 3) := by decide +kernel
theorem dX5_meet_12 : decode cX5_meet 12 = .ok (.iload 4, 2) := by decide +kernel
theorem dX5_meet_14 : decode cX5_meet 14 = .ok (.bipush 60, 2) := by decide +kernel
theorem dX5_meet_16 : decode cX5_meet 16 = .ok (.if_icmp .ge 23, 3) := by decide +kernel
theorem dX5_meet_19 : decode cX5_meet 19 = .ok (.aload_n 0, 1) := by decide +kernel
theorem dX5_meet_20 : decode cX5_meet 20 = .ok (.getfield 18, 3) := by decide +kernel
theorem dX5_meet_23 : decode cX5_meet 23 = .ok (.iload 4, 2) := by decide +kernel
theorem dX5_meet_25 : decode cX5_meet 25 = .ok (.laload, 1) := by decide +kernel
theorem dX5_meet_26 : decode cX5_meet 26 = .ok (.lload_n 1, 1) := by decide +kernel
theorem dX5_meet_27 : decode cX5_meet 27 = .ok (.lcmp, 1) := by decide +kernel
theorem dX5_meet_28 : decode cX5_meet 28 = .ok (.ifCond .ne 5, 3) := by decide +kernel
theorem dX5_meet_31 : decode cX5_meet 31 = .ok (.iconst 1, 1) := by decide +kernel
theorem dX5_meet_32 : decode cX5_meet 32 = .ok (.ireturn, 1) := by decide +kernel
theorem dX5_meet_33 : decode cX5_meet 33 = .ok (.iinc 4 1, 3) := by decide +kernel
theorem dX5_meet_36 : decode cX5_meet 36 = .ok (.goto (-33), 3) := by decide +kernel
theorem dX5_meet_39 : decode cX5_meet 39 = .ok (.aload_n 0, 1) := by decide +kernel
theorem dX5_meet_40 : decode cX5_meet 40 = .ok (.getfield 26, 3) := by decide +kernel
theorem dX5_meet_43 : decode cX5_meet 43 = .ok (.bipush 60, 2) := by decide +kernel
theorem dX5_meet_45 : decode cX5_meet 45 = .ok (.if_icmp .lt 5, 3) := by decide +kernel
theorem dX5_meet_48 : decode cX5_meet 48 = .ok (.iconst 0, 1) := by decide +kernel
theorem dX5_meet_49 : decode cX5_meet 49 = .ok (.ireturn, 1) := by decide +kernel
theorem dX5_meet_50 : decode cX5_meet 50 = .ok (.aload_n 0, 1) := by decide +kernel
theorem dX5_meet_51 : decode cX5_meet 51 = .ok (.getfield 18, 3) := by decide +kernel
theorem dX5_meet_54 : decode cX5_meet 54 = .ok (.aload_n 0, 1) := by decide +kernel
theorem dX5_meet_55 : decode cX5_meet 55 = .ok (.getfield 26, 3) := by decide +kernel
theorem dX5_meet_58 : decode cX5_meet 58 = .ok (.lload_n 1, 1) := by decide +kernel
theorem dX5_meet_59 : decode cX5_meet 59 = .ok (.lastore, 1) := by decide +kernel
theorem dX5_meet_60 : decode cX5_meet 60 = .ok (.aload_n 0, 1) := by decide +kernel
theorem dX5_meet_61 : decode cX5_meet 61 = .ok (.getfield 22, 3) := by decide +kernel
theorem dX5_meet_64 : decode cX5_meet 64 = .ok (.aload_n 0, 1) := by decide +kernel
theorem dX5_meet_65 : decode cX5_meet 65 = .ok (.getfield 26, 3) := by decide +kernel
theorem dX5_meet_68 : decode cX5_meet 68 = .ok (.iload_n 3, 1) := by decide +kernel
theorem dX5_meet_69 : decode cX5_meet 69 = .ok (.iastore, 1) := by decide +kernel
theorem dX5_meet_70 : decode cX5_meet 70 = .ok (.aload_n 0, 1) := by decide +kernel
theorem dX5_meet_71 : decode cX5_meet 71 = .ok (.dup, 1) := by decide +kernel
theorem dX5_meet_72 : decode cX5_meet 72 = .ok (.getfield 26, 3) := by decide +kernel
theorem dX5_meet_75 : decode cX5_meet 75 = .ok (.iconst 1, 1) := by decide +kernel
theorem dX5_meet_76 : decode cX5_meet 76 = .ok (.iadd, 1) := by decide +kernel
theorem dX5_meet_77 : decode cX5_meet 77 = .ok (.putfield 26, 3) := by decide +kernel
theorem dX5_meet_80 : decode cX5_meet 80 = .ok (.iconst 1, 1) := by decide +kernel
theorem dX5_meet_81 : decode cX5_meet 81 = .ok (.ireturn, 1) := by decide +kernel
theorem dX6_init_0 : decode cX6_init 0 = .ok (.aload_n 0, 1) := by decide +kernel
theorem dX6_init_1 : decode cX6_init 1 = .ok (.invokespecial 3, 3) := by decide +kernel
theorem dX6_init_4 : decode cX6_init 4 = .ok (.aload_n 0, 1) := by decide +kernel
theorem dX6_init_5 : decode cX6_init 5 = .ok (.bipush 17, 2) := by decide +kernel
theorem dX6_init_7 : decode cX6_init 7 = .ok (.newarray .long, 2) := by decide +kernel
theorem dX6_init_9 : decode cX6_init 9 = .ok (.putfield 9, 3) := by decide +kernel
theorem dX6_init_12 : decode cX6_init 12 = .ok (.aload_n 0, 1) := by decide +kernel
theorem dX6_init_13 : decode cX6_init 13 = .ok (.bipush 17, 2) := by decide +kernel
theorem dX6_init_15 : decode cX6_init 15 = .ok (.newarray .int, 2) := by decide +kernel
theorem dX6_init_17 : decode cX6_init 17 = .ok (.putfield 15, 3) := by decide +kernel
theorem dX6_init_20 : decode cX6_init 20 = .ok (.aload_n 0, 1) := by decide +kernel
theorem dX6_init_21 : decode cX6_init 21 = .ok (.bipush 17, 2) := by decide +kernel
theorem dX6_init_23 : decode cX6_init 23 = .ok (.newarray .int, 2) := by decide +kernel
theorem dX6_init_25 : decode cX6_init 25 = .ok (.putfield 19, 3) := by decide +kernel
theorem dX6_init_28 : decode cX6_init 28 = .ok (.return_, 1) := by decide +kernel
theorem dX6_recorded_0 : decode cX6_recorded 0 = .ok (.aload_n 0, 1) := by decide +kernel
theorem dX6_recorded_1 : decode cX6_recorded 1 = .ok (.getfield 22, 3) := by decide +kernel
theorem dX6_recorded_4 : decode cX6_recorded 4 = .ok (.ireturn, 1) := by decide +kernel
theorem dX6_forgetAll_0 : decode cX6_forgetAll 0 = .ok (.aload_n 0, 1) := by decide +kernel
theorem dX6_forgetAll_1 : decode cX6_forgetAll 1 = .ok (.iconst 0, 1) := by decide +kernel
theorem dX6_forgetAll_2 : decode cX6_forgetAll 2 = .ok (.putfield 22, 3) := by decide +kernel
theorem dX6_forgetAll_5 : decode cX6_forgetAll 5 = .ok (.return_, 1) := by decide +kernel
theorem dX6_record_0 : decode cX6_record 0 = .ok (.aload_n 0, 1) := by decide +kernel
theorem dX6_record_1 : decode cX6_record 1 = .ok (.getfield 22, 3) := by decide +kernel
theorem dX6_record_4 : decode cX6_record 4 = .ok (.ifCond .lt 12, 3) := by decide +kernel
theorem dX6_record_7 : decode cX6_record 7 = .ok (.aload_n 0, 1) := by decide +kernel
theorem dX6_record_8 : decode cX6_record 8 = .ok (.getfield 22, 3) := by decide +kernel
theorem dX6_record_11 : decode cX6_record 11 = .ok (.bipush 17, 2) := by decide +kernel
theorem dX6_record_13 : decode cX6_record 13 = .ok (.if_icmp .lt 4, 3) := by decide +kernel
theorem dX6_record_16 : decode cX6_record 16 = .ok (.return_, 1) := by decide +kernel
theorem dX6_record_17 : decode cX6_record 17 = .ok (.aload_n 0, 1) := by decide +kernel
theorem dX6_record_18 : decode cX6_record 18 = .ok (.getfield 9, 3) := by decide +kernel
theorem dX6_record_21 : decode cX6_record 21 = .ok (.aload_n 0, 1) := by decide +kernel
theorem dX6_record_22 : decode cX6_record 22 = .ok (.getfield 22, 3) := by decide +kernel
theorem dX6_record_25 : decode cX6_record 25 = .ok (.lload_n 1, 1) := by decide +kernel
theorem dX6_record_26 : decode cX6_record 26 = .ok (.lastore, 1) := by decide +kernel
theorem dX6_record_27 : decode cX6_record 27 = .ok (.aload_n 0, 1) := by decide +kernel
theorem dX6_record_28 : decode cX6_record 28 = .ok (.getfield 15, 3) := by decide +kernel
theorem dX6_record_31 : decode cX6_record 31 = .ok (.aload_n 0, 1) := by decide +kernel
theorem dX6_record_32 : decode cX6_record 32 = .ok (.getfield 22, 3) := by decide +kernel
theorem dX6_record_35 : decode cX6_record 35 = .ok (.iload_n 3, 1) := by decide +kernel
theorem dX6_record_36 : decode cX6_record 36 = .ok (.iastore, 1) := by decide +kernel
theorem dX6_record_37 : decode cX6_record 37 = .ok (.aload_n 0, 1) := by decide +kernel
theorem dX6_record_38 : decode cX6_record 38 = .ok (.getfield 19, 3) := by decide +kernel
theorem dX6_record_41 : decode cX6_record 41 = .ok (.aload_n 0, 1) := by decide +kernel
theorem dX6_record_42 : decode cX6_record 42 = .ok (.getfield 22, 3) := by decide +kernel
theorem dX6_record_45 : decode cX6_record 45 = .ok (.iload 4, 2) := by decide +kernel
theorem dX6_record_47 : decode cX6_record 47 = .ok (.iastore, 1) := by decide +kernel
theorem dX6_record_48 : decode cX6_record 48 = .ok (.aload_n 0, 1) := by decide +kernel
theorem dX6_record_49 : decode cX6_record 49 = .ok (.dup, 1) := by decide +kernel
theorem dX6_record_50 : decode cX6_record 50 = .ok (.getfield 22, 3) := by decide +kernel
theorem dX6_record_53 : decode cX6_record 53 = .ok (.iconst 1, 1) := by decide +kernel
theorem dX6_record_54 : decode cX6_record 54 = .ok (.iadd, 1) := by decide +kernel
theorem dX6_record_55 : decode cX6_record 55 = .ok (.putfield 22, 3) := by decide +kernel
theorem dX6_record_58 : decode cX6_record 58 = .ok (.return_, 1) := by decide +kernel
theorem dX6_takeBack_0 : decode cX6_takeBack 0 = .ok (.aload_n 0, 1) := by decide +kernel
theorem dX6_takeBack_1 : decode cX6_takeBack 1 = .ok (.getfield 22, 3) := by decide +kernel
theorem dX6_takeBack_4 : decode cX6_takeBack 4 = .ok (.iload_n 1, 1) := by decide +kernel
theorem dX6_takeBack_5 : decode cX6_takeBack 5 = .ok (.isub, 1) := by decide +kernel
theorem dX6_takeBack_6 : decode cX6_takeBack 6 = .ok (.istore_n 2, 1) := by decide +kernel
theorem dX6_takeBack_7 : decode cX6_takeBack 7 = .ok (.iload_n 2, 1) := by decide +kernel
theorem dX6_takeBack_8 : decode cX6_takeBack 8 = .ok (.ifCond .lt 9, 3) := by decide +kernel
theorem dX6_takeBack_11 : decode cX6_takeBack 11 = .ok (.iload_n 2, 1) := by decide +kernel
theorem dX6_takeBack_12 : decode cX6_takeBack 12 = .ok (.bipush 17, 2) := by decide +kernel
theorem dX6_takeBack_14 : decode cX6_takeBack 14 = .ok (.if_icmp .lt 5, 3) := by decide +kernel
theorem dX6_takeBack_17 : decode cX6_takeBack 17 = .ok (.lconst 1, 1) := by decide +kernel
theorem dX6_takeBack_18 : decode cX6_takeBack 18 = .ok (.lreturn, 1) := by decide +kernel
theorem dX6_takeBack_19 : decode cX6_takeBack 19 = .ok (.aload_n 0, 1) := by decide +kernel
theorem dX6_takeBack_20 : decode cX6_takeBack 20 = .ok (.iload_n 2, 1) := by decide +kernel
theorem dX6_takeBack_21 : decode cX6_takeBack 21 = .ok (.putfield 22, 3) := by decide +kernel
theorem dX6_takeBack_24 : decode cX6_takeBack 24 = .ok (.aload_n 0, 1) := by decide +kernel
theorem dX6_takeBack_25 : decode cX6_takeBack 25 = .ok (.getfield 9, 3) := by decide +kernel
theorem dX6_takeBack_28 : decode cX6_takeBack 28 = .ok (.iload_n 2, 1) := by decide +kernel
theorem dX6_takeBack_29 : decode cX6_takeBack 29 = .ok (.laload, 1) := by decide +kernel
theorem dX6_takeBack_30 : decode cX6_takeBack 30 = .ok (.lreturn, 1) := by decide +kernel
theorem dX6_ruleAt_0 : decode cX6_ruleAt 0 = .ok (.iload_n 1, 1) := by decide +kernel
theorem dX6_ruleAt_1 : decode cX6_ruleAt 1 = .ok (.ifCond .lt 20, 3) := by decide +kernel
theorem dX6_ruleAt_4 : decode cX6_ruleAt 4 = .ok (.iload_n 1, 1) := by decide +kernel
theorem dX6_ruleAt_5 : decode cX6_ruleAt 5 = .ok (.aload_n 0, 1) := by decide +kernel
theorem dX6_ruleAt_6 : decode cX6_ruleAt 6 = .ok (.getfield 22, 3) := by decide +kernel
theorem dX6_ruleAt_9 : decode cX6_ruleAt 9 = .ok (.if_icmp .ge 12, 3) := by decide +kernel
theorem dX6_ruleAt_12 : decode cX6_ruleAt 12 = .ok (.aload_n 0, 1) := by decide +kernel
theorem dX6_ruleAt_13 : decode cX6_ruleAt 13 = .ok (.getfield 15, 3) := by decide +kernel
theorem dX6_ruleAt_16 : decode cX6_ruleAt 16 = .ok (.iload_n 1, 1) := by decide +kernel
theorem dX6_ruleAt_17 : decode cX6_ruleAt 17 = .ok (.iaload, 1) := by decide +kernel
theorem dX6_ruleAt_18 : decode cX6_ruleAt 18 = .ok (.goto 5, 3) := by decide +kernel
theorem dX6_ruleAt_21 : decode cX6_ruleAt 21 = .ok (.bipush (-5), 2) := by decide +kernel
theorem dX6_ruleAt_23 : decode cX6_ruleAt 23 = .ok (.ireturn, 1) := by decide +kernel
theorem dX6_positionAt_0 : decode cX6_positionAt 0 = .ok (.iload_n 1, 1) := by decide +kernel
theorem dX6_positionAt_1 : decode cX6_positionAt 1 = .ok (.ifCond .lt 20, 3) := by decide +kernel
theorem dX6_positionAt_4 : decode cX6_positionAt 4 = .ok (.iload_n 1, 1) := by decide +kernel
theorem dX6_positionAt_5 : decode cX6_positionAt 5 = .ok (.aload_n 0, 1) := by decide +kernel
theorem dX6_positionAt_6 : decode cX6_positionAt 6 = .ok (.getfield 22, 3) := by decide +kernel
theorem dX6_positionAt_9 : decode cX6_positionAt 9 = .ok (.if_icmp .ge 12, 3) := by decide +kernel
theorem dX6_positionAt_12 : decode cX6_positionAt 12 = .ok (.aload_n 0, 1) := by decide +kernel
theorem dX6_positionAt_13 : decode cX6_positionAt 13 = .ok (.getfield 19, 3) := by decide +kernel
theorem dX6_positionAt_16 : decode cX6_positionAt 16 = .ok (.iload_n 1, 1) := by decide +kernel
theorem dX6_positionAt_17 : decode cX6_positionAt 17 = .ok (.iaload, 1) := by decide +kernel
theorem dX6_positionAt_18 : decode cX6_positionAt 18 = .ok (.goto 5, 3) := by decide +kernel
theorem dX6_positionAt_21 : decode cX6_positionAt 21 = .ok (.bipush (-5), 2) := by decide +kernel
theorem dX6_positionAt_23 : decode cX6_positionAt 23 = .ok (.ireturn, 1) := by decide +kernel
set_option maxRecDepth 20000 in
theorem ggX7_init_X3_init : GoodIn wsX7_init wsX3_init := goodIn_r _ [27, 28, 2, 3, 29, 30, 31, 32, 33, 64, 65, 66, 67] rfl (by decide +kernel)
set_option maxRecDepth 20000 in
theorem gX7_init_X3_init_n11 : GoodIn wsX7_init (wsX3_init) := ggX7_init_X3_init
set_option maxRecDepth 20000 in
theorem ggX7_init_X0_init : GoodIn wsX7_init wsX0_init := goodIn_r _ [35, 36, 2, 3, 37, 38, 29, 39, 40, 41, 42, 75, 76, 77, 78, 79, 80, 81] rfl (by decide +kernel)
set_option maxRecDepth 20000 in
theorem gX7_init_X0_init_n18 : GoodIn wsX7_init (wsX0_init) := ggX7_init_X0_init
set_option maxRecDepth 20000 in
theorem ggX7_init_X2_init : GoodIn wsX7_init wsX2_init := goodIn_r _ [44, 45, 2, 3, 29, 46, 47, 48, 49, 50, 82, 83, 84, 85, 86, 87, 88] rfl (by decide +kernel)
set_option maxRecDepth 20000 in
theorem gX7_init_X2_init_n28 : GoodIn wsX7_init (wsX2_init) := ggX7_init_X2_init
set_option maxRecDepth 20000 in
theorem ggX7_init_X5_init : GoodIn wsX7_init wsX5_init := goodIn_r _ [52, 53, 2, 3, 54, 5, 6, 55, 32, 56, 29, 57, 26, 27, 28, 30, 31, 33, 64, 65, 66, 67, 89, 90, 91, 92] rfl (by decide +kernel)
set_option maxRecDepth 20000 in
theorem gX7_init_X5_init_n35 : GoodIn wsX7_init (wsX5_init) := ggX7_init_X5_init
set_option maxRecDepth 20000 in
theorem ggX7_init_X6_init : GoodIn wsX7_init wsX6_init := goodIn_r _ [59, 60, 2, 3, 32, 61, 29, 62, 63, 93, 94, 95, 96] rfl (by decide +kernel)
set_option maxRecDepth 20000 in
theorem gX7_init_X6_init_n42 : GoodIn wsX7_init (wsX6_init) := ggX7_init_X6_init
theorem dX7_init_0 : decode cX7_init 0 = .ok (.aload_n 0, 1) := by decide +kernel
theorem dX7_init_1 : decode cX7_init 1 = .ok (.invokespecial 3, 3) := by decide +kernel
theorem dX7_init_4 : decode cX7_init 4 = .ok (.aload_n 0, 1) := by decide +kernel
theorem dX7_init_5 : decode cX7_init 5 = .ok (.new 9, 3) := by decide +kernel
theorem dX7_init_8 : decode cX7_init 8 = .ok (.dup, 1) := by decide +kernel
theorem dX7_init_9 : decode cX7_init 9 = .ok (.invokespecial 11, 3) := by decide +kernel
theorem dX7_init_12 : decode cX7_init 12 = .ok (.putfield 12, 3) := by decide +kernel
theorem dX7_init_15 : decode cX7_init 15 = .ok (.aload_n 0, 1) := by decide +kernel
theorem dX7_init_16 : decode cX7_init 16 = .ok (.new 16, 3) := by decide +kernel
theorem dX7_init_19 : decode cX7_init 19 = .ok (.dup, 1) := by decide +kernel
theorem dX7_init_20 : decode cX7_init 20 = .ok (.invokespecial 18, 3) := by decide +kernel
theorem dX7_init_23 : decode cX7_init 23 = .ok (.putfield 19, 3) := by decide +kernel
theorem dX7_init_26 : decode cX7_init 26 = .ok (.aload_n 0, 1) := by decide +kernel
theorem dX7_init_27 : decode cX7_init 27 = .ok (.new 16, 3) := by decide +kernel
theorem dX7_init_30 : decode cX7_init 30 = .ok (.dup, 1) := by decide +kernel
theorem dX7_init_31 : decode cX7_init 31 = .ok (.invokespecial 18, 3) := by decide +kernel
theorem dX7_init_34 : decode cX7_init 34 = .ok (.putfield 23, 3) := by decide +kernel
theorem dX7_init_37 : decode cX7_init 37 = .ok (.aload_n 0, 1) := by decide +kernel
theorem dX7_init_38 : decode cX7_init 38 = .ok (.new 26, 3) := by decide +kernel
theorem dX7_init_41 : decode cX7_init 41 = .ok (.dup, 1) := by decide +kernel
theorem dX7_init_42 : decode cX7_init 42 = .ok (.invokespecial 28, 3) := by decide +kernel
theorem dX7_init_45 : decode cX7_init 45 = .ok (.putfield 29, 3) := by decide +kernel
theorem dX7_init_48 : decode cX7_init 48 = .ok (.aload_n 0, 1) := by decide +kernel
theorem dX7_init_49 : decode cX7_init 49 = .ok (.new 33, 3) := by decide +kernel
theorem dX7_init_52 : decode cX7_init 52 = .ok (.dup, 1) := by decide +kernel
theorem dX7_init_53 : decode cX7_init 53 = .ok (.invokespecial 35, 3) := by decide +kernel
theorem dX7_init_56 : decode cX7_init 56 = .ok (.putfield 36, 3) := by decide +kernel
theorem dX7_init_59 : decode cX7_init 59 = .ok (.aload_n 0, 1) := by decide +kernel
theorem dX7_init_60 : decode cX7_init 60 = .ok (.new 40, 3) := by decide +kernel
theorem dX7_init_63 : decode cX7_init 63 = .ok (.dup, 1) := by decide +kernel
theorem dX7_init_64 : decode cX7_init 64 = .ok (.invokespecial 42, 3) := by decide +kernel
theorem dX7_init_67 : decode cX7_init 67 = .ok (.putfield 43, 3) := by decide +kernel
theorem dX7_init_70 : decode cX7_init 70 = .ok (.aload_n 0, 1) := by decide +kernel
theorem dX7_init_71 : decode cX7_init 71 = .ok (.lconst 1, 1) := by decide +kernel
theorem dX7_init_72 : decode cX7_init 72 = .ok (.putfield 47, 3) := by decide +kernel
theorem dX7_init_75 : decode cX7_init 75 = .ok (.return_, 1) := by decide +kernel
set_option maxRecDepth 20000 in
theorem ggX7_size_X3_read : GoodIn wsX7_size wsX3_read := goodIn_r _ [6, 7, 8, 9, 10, 11, 12, 13, 14, 15, 16, 17, 18, 19, 20, 21, 5, 22, 34, 35, 36, 37] rfl (by decide +kernel)
set_option maxRecDepth 20000 in
theorem gX7_size_X3_read : GoodIn wsX7_size (wsV RX7 51 RX3 yX3_read wsX3_read) := goodIn_app (goodIn_of _ (by decide +kernel)) ggX7_size_X3_read
set_option maxRecDepth 20000 in
theorem ggX7_size_X3_nodeCount : GoodIn wsX7_size wsX3_nodeCount := goodIn_r _ [26, 7, 34, 35, 36, 37] rfl (by decide +kernel)
set_option maxRecDepth 20000 in
theorem gX7_size_X3_nodeCount : GoodIn wsX7_size (wsV RX7 55 RX3 yX3_nodeCount wsX3_nodeCount) := goodIn_app (goodIn_of _ (by decide +kernel)) ggX7_size_X3_nodeCount
theorem dX7_size_0 : decode cX7_size 0 = .ok (.aload_n 0, 1) := by decide +kernel
theorem dX7_size_1 : decode cX7_size 1 = .ok (.getfield 12, 3) := by decide +kernel
theorem dX7_size_4 : decode cX7_size 4 = .ok (.lload_n 1, 1) := by decide +kernel
theorem dX7_size_5 : decode cX7_size 5 = .ok (.invokevirtual 51, 3) := by decide +kernel
theorem dX7_size_8 : decode cX7_size 8 = .ok (.ifCond .eq 13, 3) := by decide +kernel
theorem dX7_size_11 : decode cX7_size 11 = .ok (.aload_n 0, 1) := by decide +kernel
theorem dX7_size_12 : decode cX7_size 12 = .ok (.getfield 12, 3) := by decide +kernel
theorem dX7_size_15 : decode cX7_size 15 = .ok (.invokevirtual 55, 3) := by decide +kernel
theorem dX7_size_18 : decode cX7_size 18 = .ok (.goto 4, 3) := by decide +kernel
theorem dX7_size_21 : decode cX7_size 21 = .ok (.iconst (-1), 1) := by decide +kernel
theorem dX7_size_22 : decode cX7_size 22 = .ok (.ireturn, 1) := by decide +kernel
set_option maxRecDepth 20000 in
theorem ggX7_starHeight_X3_read : GoodIn wsX7_starHeight wsX3_read := goodIn_r _ [6, 7, 8, 9, 10, 11, 12, 13, 14, 15, 16, 17, 18, 19, 20, 21, 5, 22, 42, 43, 44, 45] rfl (by decide +kernel)
set_option maxRecDepth 20000 in
theorem gX7_starHeight_X3_read : GoodIn wsX7_starHeight (wsV RX7 51 RX3 yX3_read wsX3_read) := goodIn_app (goodIn_of _ (by decide +kernel)) ggX7_starHeight_X3_read
set_option maxRecDepth 20000 in
theorem ggX7_starHeight_X3_deepestStars : GoodIn wsX7_starHeight wsX3_deepestStars := goodIn_r _ [26, 7, 27, 28, 29, 30, 31, 32, 33, 5, 34, 8, 9, 42, 43, 44, 45] rfl (by decide +kernel)
set_option maxRecDepth 20000 in
theorem gX7_starHeight_X3_deepestStars : GoodIn wsX7_starHeight (wsV RX7 59 RX3 yX3_deepestStars wsX3_deepestStars) := goodIn_app (goodIn_of _ (by decide +kernel)) ggX7_starHeight_X3_deepestStars
theorem dX7_starHeight_0 : decode cX7_starHeight 0 = .ok (.aload_n 0, 1) := by decide +kernel
theorem dX7_starHeight_1 : decode cX7_starHeight 1 = .ok (.getfield 12, 3) := by decide +kernel
theorem dX7_starHeight_4 : decode cX7_starHeight 4 = .ok (.lload_n 1, 1) := by decide +kernel
theorem dX7_starHeight_5 : decode cX7_starHeight 5 = .ok (.invokevirtual 51, 3) := by decide +kernel
theorem dX7_starHeight_8 : decode cX7_starHeight 8 = .ok (.ifCond .eq 13, 3) := by decide +kernel
theorem dX7_starHeight_11 : decode cX7_starHeight 11 = .ok (.aload_n 0, 1) := by decide +kernel
theorem dX7_starHeight_12 : decode cX7_starHeight 12 = .ok (.getfield 12, 3) := by decide +kernel
theorem dX7_starHeight_15 : decode cX7_starHeight 15 = .ok (.invokevirtual 59, 3) := by decide +kernel
theorem dX7_starHeight_18 : decode cX7_starHeight 18 = .ok (.goto 4, 3) := by decide +kernel
theorem dX7_starHeight_21 : decode cX7_starHeight 21 = .ok (.iconst (-1), 1) := by decide +kernel
theorem dX7_starHeight_22 : decode cX7_starHeight 22 = .ok (.ireturn, 1) := by decide +kernel
set_option maxRecDepth 20000 in
theorem ggX7_matchesEmptyWord_X3_read : GoodIn wsX7_matchesEmptyWord wsX3_read := goodIn_r _ [7, 8, 9, 10, 11, 12, 13, 14, 15, 16, 17, 18, 19, 20, 21, 22, 6, 23, 91, 92, 93, 94] rfl (by decide +kernel)
set_option maxRecDepth 20000 in
theorem gX7_matchesEmptyWord_X3_read : GoodIn wsX7_matchesEmptyWord (wsV RX7 51 RX3 yX3_read wsX3_read) := goodIn_app (goodIn_of _ (by decide +kernel)) ggX7_matchesEmptyWord_X3_read
set_option maxRecDepth 20000 in
theorem ggX7_matchesEmptyWord_X0_build : GoodIn wsX7_matchesEmptyWord wsX0_build := goodIn_r _ [28, 29, 30, 31, 32, 33, 34, 35, 36, 37, 38, 39, 40, 41, 42, 6, 43, 8, 44, 45, 46, 27, 47, 48, 49, 50, 51, 52, 53, 54, 55, 10, 56, 57, 58, 59, 9, 60, 61, 62, 63, 64, 65, 66, 67, 68, 69, 70, 71, 72, 73, 74, 75, 76, 77, 78, 79, 95, 96, 97, 98, 99, 100, 101, 91, 92, 93, 94] rfl (by decide +kernel)
set_option maxRecDepth 20000 in
theorem gX7_matchesEmptyWord_X0_build : GoodIn wsX7_matchesEmptyWord (wsV RX7 62 RX0 yX0_build wsX0_build) := goodIn_app (goodIn_of _ (by decide +kernel)) ggX7_matchesEmptyWord_X0_build
set_option maxRecDepth 20000 in
theorem ggX7_matchesEmptyWord_X0_accepts : GoodIn wsX7_matchesEmptyWord wsX0_accepts := goodIn_r _ [83, 35, 95, 96, 97, 98, 99, 100, 101] rfl (by decide +kernel)
set_option maxRecDepth 20000 in
theorem gX7_matchesEmptyWord_X0_accepts : GoodIn wsX7_matchesEmptyWord (wsV RX7 66 RX0 yX0_accepts wsX0_accepts) := goodIn_app (goodIn_of _ (by decide +kernel)) ggX7_matchesEmptyWord_X0_accepts
theorem dX7_matchesEmptyWord_0 : decode cX7_matchesEmptyWord 0 = .ok (.aload_n 0, 1) := by decide +kernel
theorem dX7_matchesEmptyWord_1 : decode cX7_matchesEmptyWord 1 = .ok (.getfield 12, 3) := by decide +kernel
theorem dX7_matchesEmptyWord_4 : decode cX7_matchesEmptyWord 4 = .ok (.lload_n 1, 1) := by decide +kernel
theorem dX7_matchesEmptyWord_5 : decode cX7_matchesEmptyWord 5 = .ok (.invokevirtual 51, 3) := by decide +kernel
theorem dX7_matchesEmptyWord_8 : decode cX7_matchesEmptyWord 8 = .ok (.ifCond .ne 5, 3) := by decide +kernel
theorem dX7_matchesEmptyWord_11 : decode cX7_matchesEmptyWord 11 = .ok (.iconst (-1), 1) := by decide +kernel
theorem dX7_matchesEmptyWord_12 : decode cX7_matchesEmptyWord 12 = .ok (.ireturn, 1) := by decide +kernel
theorem dX7_matchesEmptyWord_13 : decode cX7_matchesEmptyWord 13 = .ok (.aload_n 0, 1) := by decide +kernel
theorem dX7_matchesEmptyWord_14 : decode cX7_matchesEmptyWord 14 = .ok (.getfield 19, 3) := by decide +kernel
theorem dX7_matchesEmptyWord_17 : decode cX7_matchesEmptyWord 17 = .ok (.aload_n 0, 1) := by decide +kernel
theorem dX7_matchesEmptyWord_18 : decode cX7_matchesEmptyWord 18 = .ok (.getfield 12, 3) := by decide +kernel
theorem dX7_matchesEmptyWord_21 : decode cX7_matchesEmptyWord 21 = .ok (.invokevirtual 62, 3) := by decide +kernel
theorem dX7_matchesEmptyWord_24 : decode cX7_matchesEmptyWord 24 = .ok (.aload_n 0, 1) := by decide +kernel
theorem dX7_matchesEmptyWord_25 : decode cX7_matchesEmptyWord 25 = .ok (.getfield 19, 3) := by decide +kernel
theorem dX7_matchesEmptyWord_28 : decode cX7_matchesEmptyWord 28 = .ok (.iconst 1, 1) := by decide +kernel
theorem dX7_matchesEmptyWord_29 : decode cX7_matchesEmptyWord 29 = .ok (.invokevirtual 66, 3) := by decide +kernel
theorem dX7_matchesEmptyWord_32 : decode cX7_matchesEmptyWord 32 = .ok (.ifCond .eq 7, 3) := by decide +kernel
theorem dX7_matchesEmptyWord_35 : decode cX7_matchesEmptyWord 35 = .ok (.iconst 1, 1) := by decide +kernel
theorem dX7_matchesEmptyWord_36 : decode cX7_matchesEmptyWord 36 = .ok (.goto 4, 3) := by decide +kernel
theorem dX7_matchesEmptyWord_39 : decode cX7_matchesEmptyWord 39 = .ok (.iconst 0, 1) := by decide +kernel
theorem dX7_matchesEmptyWord_40 : decode cX7_matchesEmptyWord 40 = .ok (.ireturn, 1) := by decide +kernel
set_option maxRecDepth 20000 in
theorem ggX7_countWords_X3_read : GoodIn wsX7_countWords wsX3_read := goodIn_r _ [7, 8, 9, 10, 11, 12, 13, 14, 15, 16, 17, 18, 19, 20, 21, 22, 6, 23, 106, 107, 108, 109] rfl (by decide +kernel)
set_option maxRecDepth 20000 in
theorem gX7_countWords_X3_read : GoodIn wsX7_countWords (wsV RX7 51 RX3 yX3_read wsX3_read) := goodIn_app (goodIn_of _ (by decide +kernel)) ggX7_countWords_X3_read
set_option maxRecDepth 20000 in
theorem ggX7_countWords_X0_build : GoodIn wsX7_countWords wsX0_build := goodIn_r _ [28, 29, 30, 31, 32, 33, 34, 35, 36, 37, 38, 39, 40, 41, 42, 6, 43, 8, 44, 45, 46, 27, 47, 48, 49, 50, 51, 52, 53, 54, 55, 10, 56, 57, 58, 59, 9, 60, 61, 62, 63, 64, 65, 66, 67, 68, 69, 70, 71, 72, 73, 74, 75, 76, 77, 78, 79, 110, 111, 112, 113, 114, 115, 116, 106, 107, 108, 109] rfl (by decide +kernel)
set_option maxRecDepth 20000 in
theorem gX7_countWords_X0_build : GoodIn wsX7_countWords (wsV RX7 62 RX0 yX0_build wsX0_build) := goodIn_app (goodIn_of _ (by decide +kernel)) ggX7_countWords_X0_build
set_option maxRecDepth 20000 in
theorem ggX7_countWords_X0_acceptedWords : GoodIn wsX7_countWords wsX0_acceptedWords := goodIn_r _ [83, 84, 85, 27, 86, 87, 88, 89, 90, 35, 91, 92, 93, 94, 31, 29, 95, 96, 97, 98, 30, 110, 111, 112, 113, 114, 115, 116] rfl (by decide +kernel)
set_option maxRecDepth 20000 in
theorem gX7_countWords_X0_acceptedWords : GoodIn wsX7_countWords (wsV RX7 70 RX0 yX0_acceptedWords wsX0_acceptedWords) := goodIn_app (goodIn_of _ (by decide +kernel)) ggX7_countWords_X0_acceptedWords
theorem dX7_countWords_0 : decode cX7_countWords 0 = .ok (.aload_n 0, 1) := by decide +kernel
theorem dX7_countWords_1 : decode cX7_countWords 1 = .ok (.getfield 12, 3) := by decide +kernel
theorem dX7_countWords_4 : decode cX7_countWords 4 = .ok (.lload_n 1, 1) := by decide +kernel
theorem dX7_countWords_5 : decode cX7_countWords 5 = .ok (.invokevirtual 51, 3) := by decide +kernel
theorem dX7_countWords_8 : decode cX7_countWords 8 = .ok (.ifCond .ne 5, 3) := by decide +kernel
theorem dX7_countWords_11 : decode cX7_countWords 11 = .ok (.iconst (-1), 1) := by decide +kernel
theorem dX7_countWords_12 : decode cX7_countWords 12 = .ok (.ireturn, 1) := by decide +kernel
theorem dX7_countWords_13 : decode cX7_countWords 13 = .ok (.iload_n 3, 1) := by decide +kernel
theorem dX7_countWords_14 : decode cX7_countWords 14 = .ok (.ifCond .lt 9, 3) := by decide +kernel
theorem dX7_countWords_17 : decode cX7_countWords 17 = .ok (.iload_n 3, 1) := by decide +kernel
theorem dX7_countWords_18 : decode cX7_countWords 18 = .ok (.bipush 6, 2) := by decide +kernel
theorem dX7_countWords_20 : decode cX7_countWords 20 = .ok (.if_icmp .le 6, 3) := by decide +kernel
theorem dX7_countWords_23 : decode cX7_countWords 23 = .ok (.bipush (-5), 2) := by decide +kernel
theorem dX7_countWords_25 : decode cX7_countWords 25 = .ok (.ireturn, 1) := by decide +kernel
theorem dX7_countWords_26 : decode cX7_countWords 26 = .ok (.aload_n 0, 1) := by decide +kernel
theorem dX7_countWords_27 : decode cX7_countWords 27 = .ok (.getfield 19, 3) := by decide +kernel
theorem dX7_countWords_30 : decode cX7_countWords 30 = .ok (.aload_n 0, 1) := by decide +kernel
theorem dX7_countWords_31 : decode cX7_countWords 31 = .ok (.getfield 12, 3) := by decide +kernel
theorem dX7_countWords_34 : decode cX7_countWords 34 = .ok (.invokevirtual 62, 3) := by decide +kernel
theorem dX7_countWords_37 : decode cX7_countWords 37 = .ok (.aload_n 0, 1) := by decide +kernel
theorem dX7_countWords_38 : decode cX7_countWords 38 = .ok (.getfield 19, 3) := by decide +kernel
theorem dX7_countWords_41 : decode cX7_countWords 41 = .ok (.iload_n 3, 1) := by decide +kernel
theorem dX7_countWords_42 : decode cX7_countWords 42 = .ok (.invokevirtual 70, 3) := by decide +kernel
theorem dX7_countWords_45 : decode cX7_countWords 45 = .ok (.ireturn, 1) := by decide +kernel
set_option maxRecDepth 20000 in
theorem ggX7_differenceLength_X7_compare : GoodIn wsX7_differenceLength wsX7_compare := goodIn_r _ [6, 7, 8, 9, 1, 10, 11, 12, 13, 14, 15, 16, 17, 18, 19, 20, 21, 22, 23, 24, 25, 26, 27, 28, 29, 30, 31, 32, 33, 34, 35, 36, 37, 38, 39, 40, 41, 42, 43, 44, 45, 46, 47, 48, 49, 50, 51, 52, 53, 54, 55, 56, 57, 58, 59, 60, 61, 62, 63, 64, 65, 66, 67, 68, 69, 70, 71, 72, 73, 74, 75, 76, 77, 78, 79, 80, 81, 82, 83, 84, 85, 86, 87, 88, 89, 90, 91, 92, 93, 94, 95, 96, 97, 98, 99, 100, 101, 102, 103, 104, 105, 106, 107, 108, 109, 110, 111, 112, 113, 114, 115, 116, 117, 118, 119, 120, 121, 122, 123, 124, 125, 126, 127, 136, 137, 138, 139, 140, 141, 142, 143, 144, 145, 146, 147, 148, 149, 150, 151, 152, 153, 154, 155, 156, 157, 158, 159, 160] rfl (by decide +kernel)
set_option maxRecDepth 20000 in
theorem gX7_differenceLength_X7_compare : GoodIn wsX7_differenceLength (wsV RX7 74 RX7 yX7_compare wsX7_compare) := goodIn_app (goodIn_of _ (by decide +kernel)) ggX7_differenceLength_X7_compare
set_option maxRecDepth 20000 in
theorem ggX7_differenceLength_X2_foundWord : GoodIn wsX7_differenceLength wsX2_foundWord := goodIn_r _ [131, 94, 154, 155, 156, 157, 158, 159, 160] rfl (by decide +kernel)
set_option maxRecDepth 20000 in
theorem gX7_differenceLength_X2_foundWord : GoodIn wsX7_differenceLength (wsV RX7 78 RX2 yX2_foundWord wsX2_foundWord) := goodIn_app (goodIn_of _ (by decide +kernel)) ggX7_differenceLength_X2_foundWord
set_option maxRecDepth 20000 in
theorem ggX7_differenceLength_X2_wordLength : GoodIn wsX7_differenceLength wsX2_wordLength := goodIn_r _ [135, 94, 102, 154, 155, 156, 157, 158, 159, 160] rfl (by decide +kernel)
set_option maxRecDepth 20000 in
theorem gX7_differenceLength_X2_wordLength : GoodIn wsX7_differenceLength (wsV RX7 82 RX2 yX2_wordLength wsX2_wordLength) := goodIn_app (goodIn_of _ (by decide +kernel)) ggX7_differenceLength_X2_wordLength
theorem dX7_differenceLength_0 : decode cX7_differenceLength 0 = .ok (.aload_n 0, 1) := by decide +kernel
theorem dX7_differenceLength_1 : decode cX7_differenceLength 1 = .ok (.lload_n 1, 1) := by decide +kernel
theorem dX7_differenceLength_2 : decode cX7_differenceLength 2 = .ok (.lload_n 3, 1) := by decide +kernel
theorem dX7_differenceLength_3 : decode cX7_differenceLength 3 = .ok (.invokevirtual 74, 3) := by decide +kernel
theorem dX7_differenceLength_6 : decode cX7_differenceLength 6 = .ok (.ifCond .ne 5, 3) := by decide +kernel
theorem dX7_differenceLength_9 : decode cX7_differenceLength 9 = .ok (.iconst (-1), 1) := by decide +kernel
theorem dX7_differenceLength_10 : decode cX7_differenceLength 10 = .ok (.ireturn, 1) := by decide +kernel
theorem dX7_differenceLength_11 : decode cX7_differenceLength 11 = .ok (.aload_n 0, 1) := by decide +kernel
theorem dX7_differenceLength_12 : decode cX7_differenceLength 12 = .ok (.getfield 29, 3) := by decide +kernel
theorem dX7_differenceLength_15 : decode cX7_differenceLength 15 = .ok (.invokevirtual 78, 3) := by decide +kernel
theorem dX7_differenceLength_18 : decode cX7_differenceLength 18 = .ok (.ifCond .eq 13, 3) := by decide +kernel
theorem dX7_differenceLength_21 : decode cX7_differenceLength 21 = .ok (.aload_n 0, 1) := by decide +kernel
theorem dX7_differenceLength_22 : decode cX7_differenceLength 22 = .ok (.getfield 29, 3) := by decide +kernel
theorem dX7_differenceLength_25 : decode cX7_differenceLength 25 = .ok (.invokevirtual 82, 3) := by decide +kernel
theorem dX7_differenceLength_28 : decode cX7_differenceLength 28 = .ok (.goto 5, 3) := by decide +kernel
theorem dX7_differenceLength_31 : decode cX7_differenceLength 31 = .ok (.bipush (-9), 2) := by decide +kernel
theorem dX7_differenceLength_33 : decode cX7_differenceLength 33 = .ok (.ireturn, 1) := by decide +kernel
set_option maxRecDepth 20000 in
theorem ggX7_differenceSymbol_X7_compare : GoodIn wsX7_differenceSymbol wsX7_compare := goodIn_r _ [6, 7, 8, 9, 1, 10, 11, 12, 13, 14, 15, 16, 17, 18, 19, 20, 21, 22, 23, 24, 25, 26, 27, 28, 29, 30, 31, 32, 33, 34, 35, 36, 37, 38, 39, 40, 41, 42, 43, 44, 45, 46, 47, 48, 49, 50, 51, 52, 53, 54, 55, 56, 57, 58, 59, 60, 61, 62, 63, 64, 65, 66, 67, 68, 69, 70, 71, 72, 73, 74, 75, 76, 77, 78, 79, 80, 81, 82, 83, 84, 85, 86, 87, 88, 89, 90, 91, 92, 93, 94, 95, 96, 97, 98, 99, 100, 101, 102, 103, 104, 105, 106, 107, 108, 109, 110, 111, 112, 113, 114, 115, 116, 117, 118, 119, 120, 121, 122, 123, 124, 125, 126, 127, 141, 142, 143, 144, 145, 146, 147, 148, 149, 150, 151, 152, 153, 154, 155, 156, 157, 158, 159, 160, 161, 162, 163, 164, 165] rfl (by decide +kernel)
set_option maxRecDepth 20000 in
theorem gX7_differenceSymbol_X7_compare : GoodIn wsX7_differenceSymbol (wsV RX7 74 RX7 yX7_compare wsX7_compare) := goodIn_app (goodIn_of _ (by decide +kernel)) ggX7_differenceSymbol_X7_compare
set_option maxRecDepth 20000 in
theorem ggX7_differenceSymbol_X2_foundWord : GoodIn wsX7_differenceSymbol wsX2_foundWord := goodIn_r _ [131, 94, 159, 160, 161, 162, 163, 164, 165] rfl (by decide +kernel)
set_option maxRecDepth 20000 in
theorem gX7_differenceSymbol_X2_foundWord : GoodIn wsX7_differenceSymbol (wsV RX7 78 RX2 yX2_foundWord wsX2_foundWord) := goodIn_app (goodIn_of _ (by decide +kernel)) ggX7_differenceSymbol_X2_foundWord
set_option maxRecDepth 20000 in
theorem ggX7_differenceSymbol_X2_wordLength : GoodIn wsX7_differenceSymbol wsX2_wordLength := goodIn_r _ [135, 94, 102, 159, 160, 161, 162, 163, 164, 165] rfl (by decide +kernel)
set_option maxRecDepth 20000 in
theorem gX7_differenceSymbol_X2_wordLength : GoodIn wsX7_differenceSymbol (wsV RX7 82 RX2 yX2_wordLength wsX2_wordLength) := goodIn_app (goodIn_of _ (by decide +kernel)) ggX7_differenceSymbol_X2_wordLength
set_option maxRecDepth 20000 in
theorem ggX7_differenceSymbol_X2_wordSymbol : GoodIn wsX7_differenceSymbol wsX2_wordSymbol := goodIn_r _ [139, 94, 102, 103, 140, 133, 134, 90, 135, 159, 160, 161, 162, 163, 164, 165] rfl (by decide +kernel)
set_option maxRecDepth 20000 in
theorem gX7_differenceSymbol_X2_wordSymbol : GoodIn wsX7_differenceSymbol (wsV RX7 85 RX2 yX2_wordSymbol wsX2_wordSymbol) := goodIn_app (goodIn_of _ (by decide +kernel)) ggX7_differenceSymbol_X2_wordSymbol
theorem dX7_differenceSymbol_0 : decode cX7_differenceSymbol 0 = .ok (.aload_n 0, 1) := by decide +kernel
theorem dX7_differenceSymbol_1 : decode cX7_differenceSymbol 1 = .ok (.lload_n 1, 1) := by decide +kernel
theorem dX7_differenceSymbol_2 : decode cX7_differenceSymbol 2 = .ok (.lload_n 3, 1) := by decide +kernel
theorem dX7_differenceSymbol_3 : decode cX7_differenceSymbol 3 = .ok (.invokevirtual 74, 3) := by decide +kernel
theorem dX7_differenceSymbol_6 : decode cX7_differenceSymbol 6 = .ok (.ifCond .ne 5, 3) := by decide +kernel
theorem dX7_differenceSymbol_9 : decode cX7_differenceSymbol 9 = .ok (.iconst (-1), 1) := by decide +kernel
theorem dX7_differenceSymbol_10 : decode cX7_differenceSymbol 10 = .ok (.ireturn, 1) := by decide +kernel
theorem dX7_differenceSymbol_11 : decode cX7_differenceSymbol 11 = .ok (.aload_n 0, 1) := by decide +kernel
theorem dX7_differenceSymbol_12 : decode cX7_differenceSymbol 12 = .ok (.getfield 29, 3) := by decide +kernel
theorem dX7_differenceSymbol_15 : decode cX7_differenceSymbol 15 = .ok (.invokevirtual 78, 3) := by decide +kernel
theorem dX7_differenceSymbol_18 : decode cX7_differenceSymbol 18 = .ok (.ifCond .ne 6, 3) := by decide +kernel
theorem dX7_differenceSymbol_21 : decode cX7_differenceSymbol 21 = .ok (.bipush (-9), 2) := by decide +kernel
theorem dX7_differenceSymbol_23 : decode cX7_differenceSymbol 23 = .ok (.ireturn, 1) := by decide +kernel
theorem dX7_differenceSymbol_24 : decode cX7_differenceSymbol 24 = .ok (.iload 5, 2) := by decide +kernel
theorem dX7_differenceSymbol_26 : decode cX7_differenceSymbol 26 = .ok (.ifCond .lt 15, 3) := by decide +kernel
theorem dX7_differenceSymbol_29 : decode cX7_differenceSymbol 29 = .ok (.iload 5, 2) := by decide +kernel
theorem dX7_differenceSymbol_31 : decode cX7_differenceSymbol 31 = .ok (.aload_n 0, 1) := by decide +kernel
theorem dX7_differenceSymbol_32 : decode cX7_differenceSymbol 32 = .ok (.getfield 29, 3) := by decide +kernel
theorem dX7_differenceSymbol_35 : decode cX7_differenceSymbol 35 = .ok (.invokevirtual 82, 3) := by decide +kernel
theorem dX7_differenceSymbol_38 : decode cX7_differenceSymbol 38 = .ok (.if_icmp .lt 6, 3) := by decide +kernel
theorem dX7_differenceSymbol_41 : decode cX7_differenceSymbol 41 = .ok (.bipush (-5), 2) := by decide +kernel
theorem dX7_differenceSymbol_43 : decode cX7_differenceSymbol 43 = .ok (.ireturn, 1) := by decide +kernel
theorem dX7_differenceSymbol_44 : decode cX7_differenceSymbol 44 = .ok (.aload_n 0, 1) := by decide +kernel
theorem dX7_differenceSymbol_45 : decode cX7_differenceSymbol 45 = .ok (.getfield 29, 3) := by decide +kernel
theorem dX7_differenceSymbol_48 : decode cX7_differenceSymbol 48 = .ok (.iload 5, 2) := by decide +kernel
theorem dX7_differenceSymbol_50 : decode cX7_differenceSymbol 50 = .ok (.invokevirtual 85, 3) := by decide +kernel
theorem dX7_differenceSymbol_53 : decode cX7_differenceSymbol 53 = .ok (.ireturn, 1) := by decide +kernel
set_option maxRecDepth 20000 in
theorem ggX7_isApplicable_X3_read : GoodIn wsX7_isApplicable wsX3_read := goodIn_r _ [6, 7, 8, 9, 10, 11, 12, 13, 14, 15, 16, 17, 18, 19, 20, 21, 5, 22, 131, 132, 133, 134] rfl (by decide +kernel)
set_option maxRecDepth 20000 in
theorem gX7_isApplicable_X3_read : GoodIn wsX7_isApplicable (wsV RX7 51 RX3 yX3_read wsX3_read) := goodIn_app (goodIn_of _ (by decide +kernel)) ggX7_isApplicable_X3_read
set_option maxRecDepth 20000 in
theorem ggX7_isApplicable_X7_addressError : GoodIn wsX7_isApplicable wsX7_addressError := goodIn_r _ [26, 27, 28, 29, 5, 30, 7, 131, 132, 133, 134] rfl (by decide +kernel)
set_option maxRecDepth 20000 in
theorem gX7_isApplicable_X7_addressError : GoodIn wsX7_isApplicable (va_wsS RX7 88 yX7_addressError wsX7_addressError) := goodIn_app (goodIn_of _ (by decide +kernel)) ggX7_isApplicable_X7_addressError
set_option maxRecDepth 20000 in
theorem ggX7_isApplicable_X4_fits : GoodIn wsX7_isApplicable wsX4_fits := goodIn_r _ [34, 35, 36, 33, 37, 38, 39, 40, 41, 5, 42, 7, 8, 43, 44, 45, 46, 47, 48, 49, 50, 9, 51, 52, 53, 54, 55, 56, 57, 10, 58, 59, 60, 61, 62, 63, 64, 65, 66, 67, 68, 69, 70, 71, 72, 73, 74, 75, 13, 76, 77, 78, 79, 80, 81, 82, 83, 84, 85, 86, 87, 88, 89, 90, 91, 92, 93, 94, 95, 96, 97, 98, 99, 100, 101, 102, 103, 104, 105, 106, 107, 108, 109, 110, 111, 112, 113, 114, 115, 116, 117, 118, 119, 120, 121, 122, 123, 131, 132, 133, 134] rfl (by decide +kernel)
set_option maxRecDepth 20000 in
theorem gX7_isApplicable_X4_fits : GoodIn wsX7_isApplicable (va_wsS RX7 92 yX4_fits wsX4_fits) := goodIn_app (goodIn_of _ (by decide +kernel)) ggX7_isApplicable_X4_fits
theorem dX7_isApplicable_0 : decode cX7_isApplicable 0 = .ok (.aload_n 0, 1) := by decide +kernel
theorem dX7_isApplicable_1 : decode cX7_isApplicable 1 = .ok (.getfield 12, 3) := by decide +kernel
theorem dX7_isApplicable_4 : decode cX7_isApplicable 4 = .ok (.lload_n 1, 1) := by decide +kernel
theorem dX7_isApplicable_5 : decode cX7_isApplicable 5 = .ok (.invokevirtual 51, 3) := by decide +kernel
theorem dX7_isApplicable_8 : decode cX7_isApplicable 8 = .ok (.ifCond .ne 5, 3) := by decide +kernel
theorem dX7_isApplicable_11 : decode cX7_isApplicable 11 = .ok (.iconst (-1), 1) := by decide +kernel
theorem dX7_isApplicable_12 : decode cX7_isApplicable 12 = .ok (.ireturn, 1) := by decide +kernel
theorem dX7_isApplicable_13 : decode cX7_isApplicable 13 = .ok (.aload_n 0, 1) := by decide +kernel
theorem dX7_isApplicable_14 : decode cX7_isApplicable 14 = .ok (.getfield 12, 3) := by decide +kernel
theorem dX7_isApplicable_17 : decode cX7_isApplicable 17 = .ok (.iload_n 3, 1) := by decide +kernel
theorem dX7_isApplicable_18 : decode cX7_isApplicable 18 = .ok (.iload 4, 2) := by decide +kernel
theorem dX7_isApplicable_20 : decode cX7_isApplicable 20 = .ok (.invokestatic 88, 3) := by decide +kernel
theorem dX7_isApplicable_23 : decode cX7_isApplicable 23 = .ok (.istore 5, 2) := by decide +kernel
theorem dX7_isApplicable_25 : decode cX7_isApplicable 25 = .ok (.iload 5, 2) := by decide +kernel
theorem dX7_isApplicable_27 : decode cX7_isApplicable 27 = .ok (.ifCond .eq 6, 3) := by decide +kernel
theorem dX7_isApplicable_30 : decode cX7_isApplicable 30 = .ok (.iload 5, 2) := by decide +kernel
theorem dX7_isApplicable_32 : decode cX7_isApplicable 32 = .ok (.ireturn, 1) := by decide +kernel
theorem dX7_isApplicable_33 : decode cX7_isApplicable 33 = .ok (.aload_n 0, 1) := by decide +kernel
theorem dX7_isApplicable_34 : decode cX7_isApplicable 34 = .ok (.getfield 12, 3) := by decide +kernel
theorem dX7_isApplicable_37 : decode cX7_isApplicable 37 = .ok (.iload_n 3, 1) := by decide +kernel
theorem dX7_isApplicable_38 : decode cX7_isApplicable 38 = .ok (.iload 4, 2) := by decide +kernel
theorem dX7_isApplicable_40 : decode cX7_isApplicable 40 = .ok (.invokestatic 92, 3) := by decide +kernel
theorem dX7_isApplicable_43 : decode cX7_isApplicable 43 = .ok (.ifCond .eq 7, 3) := by decide +kernel
theorem dX7_isApplicable_46 : decode cX7_isApplicable 46 = .ok (.iconst 1, 1) := by decide +kernel
theorem dX7_isApplicable_47 : decode cX7_isApplicable 47 = .ok (.goto 4, 3) := by decide +kernel
theorem dX7_isApplicable_50 : decode cX7_isApplicable 50 = .ok (.iconst 0, 1) := by decide +kernel
theorem dX7_isApplicable_51 : decode cX7_isApplicable 51 = .ok (.ireturn, 1) := by decide +kernel
set_option maxRecDepth 20000 in
theorem ggX7_rewrite_X3_read : GoodIn wsX7_rewrite wsX3_read := goodIn_r _ [7, 8, 9, 10, 11, 12, 13, 14, 15, 16, 17, 18, 19, 20, 21, 22, 6, 23, 138, 139, 140, 141] rfl (by decide +kernel)
set_option maxRecDepth 20000 in
theorem gX7_rewrite_X3_read : GoodIn wsX7_rewrite (wsV RX7 51 RX3 yX3_read wsX3_read) := goodIn_app (goodIn_of _ (by decide +kernel)) ggX7_rewrite_X3_read
set_option maxRecDepth 20000 in
theorem ggX7_rewrite_X7_stepResult : GoodIn wsX7_rewrite wsX7_stepResult := goodIn_r _ [27, 28, 29, 30, 26, 31, 32, 33, 34, 6, 35, 8, 36, 37, 38, 39, 40, 41, 42, 43, 44, 9, 45, 46, 47, 48, 49, 50, 51, 52, 10, 53, 54, 55, 56, 57, 58, 59, 11, 60, 61, 62, 63, 64, 65, 66, 67, 68, 69, 70, 71, 72, 73, 74, 75, 76, 77, 14, 78, 79, 80, 81, 82, 83, 84, 85, 86, 87, 88, 89, 90, 91, 92, 93, 94, 95, 96, 97, 98, 99, 100, 101, 102, 103, 104, 105, 106, 107, 108, 109, 110, 111, 112, 113, 114, 115, 116, 117, 118, 119, 120, 121, 122, 123, 124, 125, 126, 127, 128, 129, 12, 13, 15, 16, 130, 138, 139, 140, 141] rfl (by decide +kernel)
set_option maxRecDepth 20000 in
theorem gX7_rewrite_X7_stepResult : GoodIn wsX7_rewrite (va_wsS RX7 98 yX7_stepResult wsX7_stepResult) := goodIn_app (goodIn_of _ (by decide +kernel)) ggX7_rewrite_X7_stepResult
theorem dX7_rewrite_0 : decode cX7_rewrite 0 = .ok (.aload_n 0, 1) := by decide +kernel
theorem dX7_rewrite_1 : decode cX7_rewrite 1 = .ok (.getfield 12, 3) := by decide +kernel
theorem dX7_rewrite_4 : decode cX7_rewrite 4 = .ok (.lload_n 1, 1) := by decide +kernel
theorem dX7_rewrite_5 : decode cX7_rewrite 5 = .ok (.invokevirtual 51, 3) := by decide +kernel
theorem dX7_rewrite_8 : decode cX7_rewrite 8 = .ok (.ifCond .eq 16, 3) := by decide +kernel
theorem dX7_rewrite_11 : decode cX7_rewrite 11 = .ok (.aload_n 0, 1) := by decide +kernel
theorem dX7_rewrite_12 : decode cX7_rewrite 12 = .ok (.getfield 12, 3) := by decide +kernel
theorem dX7_rewrite_15 : decode cX7_rewrite 15 = .ok (.iload_n 3, 1) := by decide +kernel
theorem dX7_rewrite_16 : decode cX7_rewrite 16 = .ok (.iload 4, 2) := by decide +kernel
theorem dX7_rewrite_18 : decode cX7_rewrite 18 = .ok (.invokestatic 98, 3) := by decide +kernel
theorem dX7_rewrite_21 : decode cX7_rewrite 21 = .ok (.goto 6, 3) := by decide +kernel
theorem dX7_rewrite_24 : decode cX7_rewrite 24 = .ok (.ldc2_w 102, 3) := by decide +kernel
theorem dX7_rewrite_27 : decode cX7_rewrite 27 = .ok (.lreturn, 1) := by decide +kernel
set_option maxRecDepth 20000 in
theorem ggX7_firstPosition_X3_read : GoodIn wsX7_firstPosition wsX3_read := goodIn_r _ [6, 7, 8, 9, 10, 11, 12, 13, 14, 15, 16, 17, 18, 19, 20, 21, 5, 22, 130, 131, 132, 133] rfl (by decide +kernel)
set_option maxRecDepth 20000 in
theorem gX7_firstPosition_X3_read : GoodIn wsX7_firstPosition (wsV RX7 51 RX3 yX3_read wsX3_read) := goodIn_app (goodIn_of _ (by decide +kernel)) ggX7_firstPosition_X3_read
set_option maxRecDepth 20000 in
theorem ggX7_firstPosition_X4_firstFittingPosition : GoodIn wsX7_firstPosition wsX4_firstFittingPosition := goodIn_r _ [26, 27, 28, 29, 5, 30, 7, 31, 32, 25, 33, 34, 35, 36, 37, 38, 39, 40, 41, 8, 42, 43, 44, 45, 46, 47, 48, 49, 9, 50, 51, 52, 53, 54, 55, 56, 10, 57, 58, 59, 60, 61, 62, 63, 64, 65, 66, 67, 68, 69, 70, 71, 72, 73, 74, 13, 75, 76, 77, 78, 79, 80, 81, 82, 83, 84, 85, 86, 87, 88, 89, 90, 91, 92, 93, 94, 95, 96, 97, 98, 99, 100, 101, 102, 103, 104, 105, 106, 107, 108, 109, 110, 111, 112, 113, 114, 115, 116, 117, 118, 119, 120, 121, 122, 130, 131, 132, 133] rfl (by decide +kernel)
set_option maxRecDepth 20000 in
theorem gX7_firstPosition_X4_firstFittingPosition : GoodIn wsX7_firstPosition (va_wsS RX7 104 yX4_firstFittingPosition wsX4_firstFittingPosition) := goodIn_app (goodIn_of _ (by decide +kernel)) ggX7_firstPosition_X4_firstFittingPosition
theorem dX7_firstPosition_0 : decode cX7_firstPosition 0 = .ok (.aload_n 0, 1) := by decide +kernel
theorem dX7_firstPosition_1 : decode cX7_firstPosition 1 = .ok (.getfield 12, 3) := by decide +kernel
theorem dX7_firstPosition_4 : decode cX7_firstPosition 4 = .ok (.lload_n 1, 1) := by decide +kernel
theorem dX7_firstPosition_5 : decode cX7_firstPosition 5 = .ok (.invokevirtual 51, 3) := by decide +kernel
theorem dX7_firstPosition_8 : decode cX7_firstPosition 8 = .ok (.ifCond .eq 13, 3) := by decide +kernel
theorem dX7_firstPosition_11 : decode cX7_firstPosition 11 = .ok (.aload_n 0, 1) := by decide +kernel
theorem dX7_firstPosition_12 : decode cX7_firstPosition 12 = .ok (.getfield 12, 3) := by decide +kernel
theorem dX7_firstPosition_15 : decode cX7_firstPosition 15 = .ok (.invokestatic 104, 3) := by decide +kernel
theorem dX7_firstPosition_18 : decode cX7_firstPosition 18 = .ok (.goto 4, 3) := by decide +kernel
theorem dX7_firstPosition_21 : decode cX7_firstPosition 21 = .ok (.iconst (-1), 1) := by decide +kernel
theorem dX7_firstPosition_22 : decode cX7_firstPosition 22 = .ok (.ireturn, 1) := by decide +kernel
set_option maxRecDepth 20000 in
theorem ggX7_firstRule_X3_read : GoodIn wsX7_firstRule wsX3_read := goodIn_r _ [6, 7, 8, 9, 10, 11, 12, 13, 14, 15, 16, 17, 18, 19, 20, 21, 5, 22, 131, 132, 133, 134] rfl (by decide +kernel)
set_option maxRecDepth 20000 in
theorem gX7_firstRule_X3_read : GoodIn wsX7_firstRule (wsV RX7 51 RX3 yX3_read wsX3_read) := goodIn_app (goodIn_of _ (by decide +kernel)) ggX7_firstRule_X3_read
set_option maxRecDepth 20000 in
theorem ggX7_firstRule_X4_firstFittingPosition : GoodIn wsX7_firstRule wsX4_firstFittingPosition := goodIn_r _ [26, 27, 28, 29, 5, 30, 7, 31, 32, 25, 33, 34, 35, 36, 37, 38, 39, 40, 41, 8, 42, 43, 44, 45, 46, 47, 48, 49, 9, 50, 51, 52, 53, 54, 55, 56, 10, 57, 58, 59, 60, 61, 62, 63, 64, 65, 66, 67, 68, 69, 70, 71, 72, 73, 74, 13, 75, 76, 77, 78, 79, 80, 81, 82, 83, 84, 85, 86, 87, 88, 89, 90, 91, 92, 93, 94, 95, 96, 97, 98, 99, 100, 101, 102, 103, 104, 105, 106, 107, 108, 109, 110, 111, 112, 113, 114, 115, 116, 117, 118, 119, 120, 121, 122, 131, 132, 133, 134] rfl (by decide +kernel)
set_option maxRecDepth 20000 in
theorem gX7_firstRule_X4_firstFittingPosition : GoodIn wsX7_firstRule (va_wsS RX7 104 yX4_firstFittingPosition wsX4_firstFittingPosition) := goodIn_app (goodIn_of _ (by decide +kernel)) ggX7_firstRule_X4_firstFittingPosition
set_option maxRecDepth 20000 in
theorem ggX7_firstRule_X4_firstFittingRule : GoodIn wsX7_firstRule wsX4_firstFittingRule := goodIn_r _ [33, 34, 35, 25, 36, 37, 38, 39, 40, 5, 41, 7, 8, 42, 43, 44, 45, 46, 47, 48, 49, 9, 50, 51, 52, 53, 54, 55, 56, 10, 57, 58, 59, 60, 61, 62, 63, 64, 65, 66, 67, 68, 69, 70, 71, 72, 73, 74, 13, 75, 76, 77, 78, 79, 80, 81, 82, 83, 84, 85, 86, 87, 88, 89, 90, 91, 92, 93, 94, 95, 96, 97, 98, 99, 100, 101, 102, 103, 104, 105, 106, 107, 108, 109, 110, 111, 112, 113, 114, 115, 116, 117, 118, 119, 120, 121, 122, 131, 132, 133, 134] rfl (by decide +kernel)
set_option maxRecDepth 20000 in
theorem gX7_firstRule_X4_firstFittingRule : GoodIn wsX7_firstRule (va_wsS RX7 108 yX4_firstFittingRule wsX4_firstFittingRule) := goodIn_app (goodIn_of _ (by decide +kernel)) ggX7_firstRule_X4_firstFittingRule
theorem dX7_firstRule_0 : decode cX7_firstRule 0 = .ok (.aload_n 0, 1) := by decide +kernel
theorem dX7_firstRule_1 : decode cX7_firstRule 1 = .ok (.getfield 12, 3) := by decide +kernel
theorem dX7_firstRule_4 : decode cX7_firstRule 4 = .ok (.lload_n 1, 1) := by decide +kernel
theorem dX7_firstRule_5 : decode cX7_firstRule 5 = .ok (.invokevirtual 51, 3) := by decide +kernel
theorem dX7_firstRule_8 : decode cX7_firstRule 8 = .ok (.ifCond .ne 5, 3) := by decide +kernel
theorem dX7_firstRule_11 : decode cX7_firstRule 11 = .ok (.iconst (-1), 1) := by decide +kernel
theorem dX7_firstRule_12 : decode cX7_firstRule 12 = .ok (.ireturn, 1) := by decide +kernel
theorem dX7_firstRule_13 : decode cX7_firstRule 13 = .ok (.aload_n 0, 1) := by decide +kernel
theorem dX7_firstRule_14 : decode cX7_firstRule 14 = .ok (.getfield 12, 3) := by decide +kernel
theorem dX7_firstRule_17 : decode cX7_firstRule 17 = .ok (.aload_n 0, 1) := by decide +kernel
theorem dX7_firstRule_18 : decode cX7_firstRule 18 = .ok (.getfield 12, 3) := by decide +kernel
theorem dX7_firstRule_21 : decode cX7_firstRule 21 = .ok (.invokestatic 104, 3) := by decide +kernel
theorem dX7_firstRule_24 : decode cX7_firstRule 24 = .ok (.invokestatic 108, 3) := by decide +kernel
theorem dX7_firstRule_27 : decode cX7_firstRule 27 = .ok (.ireturn, 1) := by decide +kernel
set_option maxRecDepth 20000 in
theorem ggX7_load_X3_read : GoodIn wsX7_load wsX3_read := goodIn_r _ [8, 9, 10, 11, 12, 13, 14, 15, 16, 17, 18, 19, 20, 21, 22, 23, 7, 24, 42, 43, 44, 45] rfl (by decide +kernel)
set_option maxRecDepth 20000 in
theorem gX7_load_X3_read : GoodIn wsX7_load (wsV RX7 51 RX3 yX3_read wsX3_read) := goodIn_app (goodIn_of _ (by decide +kernel)) ggX7_load_X3_read
set_option maxRecDepth 20000 in
theorem ggX7_load_X6_forgetAll : GoodIn wsX7_load wsX6_forgetAll := goodIn_r _ [29, 30, 46, 47, 48, 49] rfl (by decide +kernel)
set_option maxRecDepth 20000 in
theorem gX7_load_X6_forgetAll : GoodIn wsX7_load (wsV RX7 112 RX6 yX6_forgetAll wsX6_forgetAll) := goodIn_app (goodIn_of _ (by decide +kernel)) ggX7_load_X6_forgetAll
set_option maxRecDepth 20000 in
theorem ggX7_load_X3_nodeCount : GoodIn wsX7_load wsX3_nodeCount := goodIn_r _ [34, 9, 42, 43, 44, 45] rfl (by decide +kernel)
set_option maxRecDepth 20000 in
theorem gX7_load_X3_nodeCount : GoodIn wsX7_load (wsV RX7 55 RX3 yX3_nodeCount wsX3_nodeCount) := goodIn_app (goodIn_of _ (by decide +kernel)) ggX7_load_X3_nodeCount
theorem dX7_load_0 : decode cX7_load 0 = .ok (.aload_n 0, 1) := by decide +kernel
theorem dX7_load_1 : decode cX7_load 1 = .ok (.getfield 12, 3) := by decide +kernel
theorem dX7_load_4 : decode cX7_load 4 = .ok (.lload_n 1, 1) := by decide +kernel
theorem dX7_load_5 : decode cX7_load 5 = .ok (.invokevirtual 51, 3) := by decide +kernel
theorem dX7_load_8 : decode cX7_load 8 = .ok (.ifCond .ne 5, 3) := by decide +kernel
theorem dX7_load_11 : decode cX7_load 11 = .ok (.iconst (-1), 1) := by decide +kernel
theorem dX7_load_12 : decode cX7_load 12 = .ok (.ireturn, 1) := by decide +kernel
theorem dX7_load_13 : decode cX7_load 13 = .ok (.aload_n 0, 1) := by decide +kernel
theorem dX7_load_14 : decode cX7_load 14 = .ok (.lload_n 1, 1) := by decide +kernel
theorem dX7_load_15 : decode cX7_load 15 = .ok (.putfield 47, 3) := by decide +kernel
theorem dX7_load_18 : decode cX7_load 18 = .ok (.aload_n 0, 1) := by decide +kernel
theorem dX7_load_19 : decode cX7_load 19 = .ok (.getfield 43, 3) := by decide +kernel
theorem dX7_load_22 : decode cX7_load 22 = .ok (.invokevirtual 112, 3) := by decide +kernel
theorem dX7_load_25 : decode cX7_load 25 = .ok (.aload_n 0, 1) := by decide +kernel
theorem dX7_load_26 : decode cX7_load 26 = .ok (.getfield 12, 3) := by decide +kernel
theorem dX7_load_29 : decode cX7_load 29 = .ok (.invokevirtual 55, 3) := by decide +kernel
theorem dX7_load_32 : decode cX7_load 32 = .ok (.ireturn, 1) := by decide +kernel
theorem dX7_current_0 : decode cX7_current 0 = .ok (.aload_n 0, 1) := by decide +kernel
theorem dX7_current_1 : decode cX7_current 1 = .ok (.getfield 47, 3) := by decide +kernel
theorem dX7_current_4 : decode cX7_current 4 = .ok (.lreturn, 1) := by decide +kernel
set_option maxRecDepth 20000 in
theorem ggX7_apply_X3_read : GoodIn wsX7_apply wsX3_read := goodIn_r _ [7, 8, 9, 10, 11, 12, 13, 14, 15, 16, 17, 18, 19, 20, 21, 22, 6, 23, 153, 154, 155, 156] rfl (by decide +kernel)
set_option maxRecDepth 20000 in
theorem gX7_apply_X3_read : GoodIn wsX7_apply (wsV RX7 51 RX3 yX3_read wsX3_read) := goodIn_app (goodIn_of _ (by decide +kernel)) ggX7_apply_X3_read
set_option maxRecDepth 20000 in
theorem ggX7_apply_X7_stepResult : GoodIn wsX7_apply wsX7_stepResult := goodIn_r _ [27, 28, 29, 30, 26, 31, 32, 33, 34, 6, 35, 8, 36, 37, 38, 39, 40, 41, 42, 43, 44, 9, 45, 46, 47, 48, 49, 50, 51, 52, 10, 53, 54, 55, 56, 57, 58, 59, 11, 60, 61, 62, 63, 64, 65, 66, 67, 68, 69, 70, 71, 72, 73, 74, 75, 76, 77, 14, 78, 79, 80, 81, 82, 83, 84, 85, 86, 87, 88, 89, 90, 91, 92, 93, 94, 95, 96, 97, 98, 99, 100, 101, 102, 103, 104, 105, 106, 107, 108, 109, 110, 111, 112, 113, 114, 115, 116, 117, 118, 119, 120, 121, 122, 123, 124, 125, 126, 127, 128, 129, 12, 13, 15, 16, 130, 153, 154, 155, 156] rfl (by decide +kernel)
set_option maxRecDepth 20000 in
theorem gX7_apply_X7_stepResult : GoodIn wsX7_apply (va_wsS RX7 98 yX7_stepResult wsX7_stepResult) := goodIn_app (goodIn_of _ (by decide +kernel)) ggX7_apply_X7_stepResult
set_option maxRecDepth 20000 in
theorem ggX7_apply_X7_take : GoodIn wsX7_apply wsX7_take := goodIn_r _ [134, 135, 2, 136, 137, 138, 139, 140, 141, 142, 143, 144, 146, 147, 148, 149, 150, 151, 152, 157, 158, 159, 160] rfl (by decide +kernel)
set_option maxRecDepth 20000 in
theorem gX7_apply_X7_take : GoodIn wsX7_apply (wsV RX7 115 RX7 yX7_take wsX7_take) := goodIn_app (goodIn_of _ (by decide +kernel)) ggX7_apply_X7_take
set_option maxRecDepth 20000 in
theorem ggX7_apply_X1_digitCount : GoodIn wsX7_apply wsX1_digitCount := goodIn_r _ [19, 16] rfl (by decide +kernel)
set_option maxRecDepth 20000 in
theorem gX7_apply_X1_digitCount : GoodIn wsX7_apply (va_wsS RX7 119 yX1_digitCount wsX1_digitCount) := goodIn_app (goodIn_of _ (by decide +kernel)) ggX7_apply_X1_digitCount
theorem dX7_apply_0 : decode cX7_apply 0 = .ok (.aload_n 0, 1) := by decide +kernel
theorem dX7_apply_1 : decode cX7_apply 1 = .ok (.getfield 12, 3) := by decide +kernel
theorem dX7_apply_4 : decode cX7_apply 4 = .ok (.aload_n 0, 1) := by decide +kernel
theorem dX7_apply_5 : decode cX7_apply 5 = .ok (.getfield 47, 3) := by decide +kernel
theorem dX7_apply_8 : decode cX7_apply 8 = .ok (.invokevirtual 51, 3) := by decide +kernel
theorem dX7_apply_11 : decode cX7_apply 11 = .ok (.pop, 1) := by decide +kernel
theorem dX7_apply_12 : decode cX7_apply 12 = .ok (.aload_n 0, 1) := by decide +kernel
theorem dX7_apply_13 : decode cX7_apply 13 = .ok (.getfield 12, 3) := by decide +kernel
theorem dX7_apply_16 : decode cX7_apply 16 = .ok (.iload_n 1, 1) := by decide +kernel
theorem dX7_apply_17 : decode cX7_apply 17 = .ok (.iload_n 2, 1) := by decide +kernel
theorem dX7_apply_18 : decode cX7_apply 18 = .ok (.invokestatic 98, 3) := by decide +kernel
theorem dX7_apply_21 : decode cX7_apply 21 = .ok (.lstore_n 3, 1) := by decide +kernel
theorem dX7_apply_22 : decode cX7_apply 22 = .ok (.lload_n 3, 1) := by decide +kernel
theorem dX7_apply_23 : decode cX7_apply 23 = .ok (.lconst 0, 1) := by decide +kernel
theorem dX7_apply_24 : decode cX7_apply 24 = .ok (.lcmp, 1) := by decide +kernel
theorem dX7_apply_25 : decode cX7_apply 25 = .ok (.ifCond .ge 6, 3) := by decide +kernel
theorem dX7_apply_28 : decode cX7_apply 28 = .ok (.lload_n 3, 1) := by decide +kernel
theorem dX7_apply_29 : decode cX7_apply 29 = .ok (.l2i, 1) := by decide +kernel
theorem dX7_apply_30 : decode cX7_apply 30 = .ok (.ireturn, 1) := by decide +kernel
theorem dX7_apply_31 : decode cX7_apply 31 = .ok (.aload_n 0, 1) := by decide +kernel
theorem dX7_apply_32 : decode cX7_apply 32 = .ok (.lload_n 3, 1) := by decide +kernel
theorem dX7_apply_33 : decode cX7_apply 33 = .ok (.iload_n 1, 1) := by decide +kernel
theorem dX7_apply_34 : decode cX7_apply 34 = .ok (.iload_n 2, 1) := by decide +kernel
theorem dX7_apply_35 : decode cX7_apply 35 = .ok (.invokevirtual 115, 3) := by decide +kernel
theorem dX7_apply_38 : decode cX7_apply 38 = .ok (.lload_n 3, 1) := by decide +kernel
theorem dX7_apply_39 : decode cX7_apply 39 = .ok (.invokestatic 119, 3) := by decide +kernel
theorem dX7_apply_42 : decode cX7_apply 42 = .ok (.ireturn, 1) := by decide +kernel
set_option maxRecDepth 20000 in
theorem ggX7_simplify_X3_read : GoodIn wsX7_simplify wsX3_read := goodIn_r _ [7, 8, 9, 10, 11, 12, 13, 14, 15, 16, 17, 18, 19, 20, 21, 22, 6, 23, 164, 165, 166, 167] rfl (by decide +kernel)
set_option maxRecDepth 20000 in
theorem gX7_simplify_X3_read : GoodIn wsX7_simplify (wsV RX7 51 RX3 yX3_read wsX3_read) := goodIn_app (goodIn_of _ (by decide +kernel)) ggX7_simplify_X3_read
set_option maxRecDepth 20000 in
theorem ggX7_simplify_X4_firstFittingPosition : GoodIn wsX7_simplify wsX4_firstFittingPosition := goodIn_r _ [27, 28, 29, 30, 6, 31, 8, 32, 33, 26, 34, 35, 36, 37, 38, 39, 40, 41, 42, 9, 43, 44, 45, 46, 47, 48, 49, 50, 10, 51, 52, 53, 54, 55, 56, 57, 11, 58, 59, 60, 61, 62, 63, 64, 65, 66, 67, 68, 69, 70, 71, 72, 73, 74, 75, 14, 76, 77, 78, 79, 80, 81, 82, 83, 84, 85, 86, 87, 88, 89, 90, 91, 92, 93, 94, 95, 96, 97, 98, 99, 100, 101, 102, 103, 104, 105, 106, 107, 108, 109, 110, 111, 112, 113, 114, 115, 116, 117, 118, 119, 120, 121, 122, 123, 164, 165, 166, 167] rfl (by decide +kernel)
set_option maxRecDepth 20000 in
theorem gX7_simplify_X4_firstFittingPosition : GoodIn wsX7_simplify (va_wsS RX7 104 yX4_firstFittingPosition wsX4_firstFittingPosition) := goodIn_app (goodIn_of _ (by decide +kernel)) ggX7_simplify_X4_firstFittingPosition
set_option maxRecDepth 20000 in
theorem ggX7_simplify_X4_firstFittingRule : GoodIn wsX7_simplify wsX4_firstFittingRule := goodIn_r _ [34, 35, 36, 26, 37, 38, 39, 40, 41, 6, 42, 8, 9, 43, 44, 45, 46, 47, 48, 49, 50, 10, 51, 52, 53, 54, 55, 56, 57, 11, 58, 59, 60, 61, 62, 63, 64, 65, 66, 67, 68, 69, 70, 71, 72, 73, 74, 75, 14, 76, 77, 78, 79, 80, 81, 82, 83, 84, 85, 86, 87, 88, 89, 90, 91, 92, 93, 94, 95, 96, 97, 98, 99, 100, 101, 102, 103, 104, 105, 106, 107, 108, 109, 110, 111, 112, 113, 114, 115, 116, 117, 118, 119, 120, 121, 122, 123, 164, 165, 166, 167] rfl (by decide +kernel)
set_option maxRecDepth 20000 in
theorem gX7_simplify_X4_firstFittingRule : GoodIn wsX7_simplify (va_wsS RX7 108 yX4_firstFittingRule wsX4_firstFittingRule) := goodIn_app (goodIn_of _ (by decide +kernel)) ggX7_simplify_X4_firstFittingRule
set_option maxRecDepth 20000 in
theorem ggX7_simplify_X7_stepResult : GoodIn wsX7_simplify wsX7_stepResult := goodIn_r _ [128, 129, 130, 131, 127, 132, 133, 134, 135, 6, 136, 8, 137, 36, 26, 37, 38, 39, 40, 41, 42, 9, 43, 44, 45, 46, 47, 48, 49, 50, 10, 51, 52, 53, 54, 55, 56, 57, 11, 58, 59, 60, 61, 62, 63, 64, 65, 66, 67, 68, 69, 70, 71, 72, 73, 74, 75, 14, 76, 77, 78, 79, 80, 81, 82, 83, 84, 85, 86, 87, 88, 89, 90, 91, 92, 93, 94, 95, 96, 97, 98, 99, 100, 101, 102, 103, 104, 105, 106, 107, 108, 109, 110, 111, 112, 113, 114, 115, 116, 117, 118, 119, 120, 121, 122, 123, 138, 139, 140, 141, 12, 13, 15, 16, 142, 164, 165, 166, 167] rfl (by decide +kernel)
set_option maxRecDepth 20000 in
theorem gX7_simplify_X7_stepResult : GoodIn wsX7_simplify (va_wsS RX7 98 yX7_stepResult wsX7_stepResult) := goodIn_app (goodIn_of _ (by decide +kernel)) ggX7_simplify_X7_stepResult
set_option maxRecDepth 20000 in
theorem ggX7_simplify_X7_take : GoodIn wsX7_simplify wsX7_take := goodIn_r _ [146, 147, 2, 148, 149, 150, 151, 152, 153, 154, 155, 156, 157, 158, 159, 160, 161, 162, 163, 168, 169, 170, 171] rfl (by decide +kernel)
set_option maxRecDepth 20000 in
theorem gX7_simplify_X7_take : GoodIn wsX7_simplify (wsV RX7 115 RX7 yX7_take wsX7_take) := goodIn_app (goodIn_of _ (by decide +kernel)) ggX7_simplify_X7_take
theorem dX7_simplify_0 : decode cX7_simplify 0 = .ok (.iconst 0, 1) := by decide +kernel
theorem dX7_simplify_1 : decode cX7_simplify 1 = .ok (.istore_n 1, 1) := by decide +kernel
theorem dX7_simplify_2 : decode cX7_simplify 2 = .ok (.iload_n 1, 1) := by decide +kernel
theorem dX7_simplify_3 : decode cX7_simplify 3 = .ok (.bipush 17, 2) := by decide +kernel
theorem dX7_simplify_5 : decode cX7_simplify 5 = .ok (.if_icmp .ge 61, 3) := by decide +kernel
theorem dX7_simplify_8 : decode cX7_simplify 8 = .ok (.aload_n 0, 1) := by decide +kernel
theorem dX7_simplify_9 : decode cX7_simplify 9 = .ok (.getfield 12, 3) := by decide +kernel
theorem dX7_simplify_12 : decode cX7_simplify 12 = .ok (.aload_n 0, 1) := by decide +kernel
theorem dX7_simplify_13 : decode cX7_simplify 13 = .ok (.getfield 47, 3) := by decide +kernel
theorem dX7_simplify_16 : decode cX7_simplify 16 = .ok (.invokevirtual 51, 3) := by decide +kernel
theorem dX7_simplify_19 : decode cX7_simplify 19 = .ok (.pop, 1) := by decide +kernel
theorem dX7_simplify_20 : decode cX7_simplify 20 = .ok (.aload_n 0, 1) := by decide +kernel
theorem dX7_simplify_21 : decode cX7_simplify 21 = .ok (.getfield 12, 3) := by decide +kernel
theorem dX7_simplify_24 : decode cX7_simplify 24 = .ok (.invokestatic 104, 3) := by decide +kernel
theorem dX7_simplify_27 : decode cX7_simplify 27 = .ok (.istore_n 2, 1) := by decide +kernel
theorem dX7_simplify_28 : decode cX7_simplify 28 = .ok (.iload_n 2, 1) := by decide +kernel
theorem dX7_simplify_29 : decode cX7_simplify 29 = .ok (.bipush (-9), 2) := by decide +kernel
theorem dX7_simplify_31 : decode cX7_simplify 31 = .ok (.if_icmp .ne 5, 3) := by decide +kernel
theorem dX7_simplify_34 : decode cX7_simplify 34 = .ok (.iload_n 1, 1) := by decide +kernel
theorem dX7_simplify_35 : decode cX7_simplify 35 = .ok (.ireturn, 1) := by decide +kernel
theorem dX7_simplify_36 : decode cX7_simplify 36 = .ok (.aload_n 0, 1) := by decide +kernel
theorem dX7_simplify_37 : decode cX7_simplify 37 = .ok (.getfield 12, 3) := by decide +kernel
theorem dX7_simplify_40 : decode cX7_simplify 40 = .ok (.iload_n 2, 1) := by decide +kernel
theorem dX7_simplify_41 : decode cX7_simplify 41 = .ok (.invokestatic 108, 3) := by decide +kernel
theorem dX7_simplify_44 : decode cX7_simplify 44 = .ok (.istore_n 3, 1) := by decide +kernel
theorem dX7_simplify_45 : decode cX7_simplify 45 = .ok (.aload_n 0, 1) := by decide +kernel
theorem dX7_simplify_46 : decode cX7_simplify 46 = .ok (.aload_n 0, 1) := by decide +kernel
theorem dX7_simplify_47 : decode cX7_simplify 47 = .ok (.getfield 12, 3) := by decide +kernel
theorem dX7_simplify_50 : decode cX7_simplify 50 = .ok (.iload_n 3, 1) := by decide +kernel
theorem dX7_simplify_51 : decode cX7_simplify 51 = .ok (.iload_n 2, 1) := by decide +kernel
theorem dX7_simplify_52 : decode cX7_simplify 52 = .ok (.invokestatic 98, 3) := by decide +kernel
theorem dX7_simplify_55 : decode cX7_simplify 55 = .ok (.iload_n 3, 1) := by decide +kernel
theorem dX7_simplify_56 : decode cX7_simplify 56 = .ok (.iload_n 2, 1) := by decide +kernel
theorem dX7_simplify_57 : decode cX7_simplify 57 = .ok (.invokevirtual 115, 3) := by decide +kernel
theorem dX7_simplify_60 : decode cX7_simplify 60 = .ok (.iinc 1 1, 3) := by decide +kernel
theorem dX7_simplify_63 : decode cX7_simplify 63 = .ok (.goto (-61), 3) := by decide +kernel
theorem dX7_simplify_66 : decode cX7_simplify 66 = .ok (.bipush 17, 2) := by decide +kernel
theorem dX7_simplify_68 : decode cX7_simplify 68 = .ok (.ireturn, 1) := by decide +kernel
set_option maxRecDepth 20000 in
theorem ggX7_undo_X6_recorded : GoodIn wsX7_undo wsX6_recorded := goodIn_r _ [7, 8, 21, 22, 23, 24] rfl (by decide +kernel)
set_option maxRecDepth 20000 in
theorem gX7_undo_X6_recorded : GoodIn wsX7_undo (wsV RX7 125 RX6 yX6_recorded wsX6_recorded) := goodIn_app (goodIn_of _ (by decide +kernel)) ggX7_undo_X6_recorded
set_option maxRecDepth 20000 in
theorem ggX7_undo_X6_takeBack : GoodIn wsX7_undo wsX6_takeBack := goodIn_r _ [12, 8, 13, 21, 22, 23, 24] rfl (by decide +kernel)
set_option maxRecDepth 20000 in
theorem gX7_undo_X6_takeBack : GoodIn wsX7_undo (wsV RX7 128 RX6 yX6_takeBack wsX6_takeBack) := goodIn_app (goodIn_of _ (by decide +kernel)) ggX7_undo_X6_takeBack
theorem dX7_undo_0 : decode cX7_undo 0 = .ok (.iload_n 1, 1) := by decide +kernel
theorem dX7_undo_1 : decode cX7_undo 1 = .ok (.ifCond .lt 14, 3) := by decide +kernel
theorem dX7_undo_4 : decode cX7_undo 4 = .ok (.iload_n 1, 1) := by decide +kernel
theorem dX7_undo_5 : decode cX7_undo 5 = .ok (.aload_n 0, 1) := by decide +kernel
theorem dX7_undo_6 : decode cX7_undo 6 = .ok (.getfield 43, 3) := by decide +kernel
theorem dX7_undo_9 : decode cX7_undo 9 = .ok (.invokevirtual 125, 3) := by decide +kernel
theorem dX7_undo_12 : decode cX7_undo 12 = .ok (.if_icmp .le 6, 3) := by decide +kernel
theorem dX7_undo_15 : decode cX7_undo 15 = .ok (.bipush (-5), 2) := by decide +kernel
theorem dX7_undo_17 : decode cX7_undo 17 = .ok (.ireturn, 1) := by decide +kernel
theorem dX7_undo_18 : decode cX7_undo 18 = .ok (.iload_n 1, 1) := by decide +kernel
theorem dX7_undo_19 : decode cX7_undo 19 = .ok (.ifCond .le 15, 3) := by decide +kernel
theorem dX7_undo_22 : decode cX7_undo 22 = .ok (.aload_n 0, 1) := by decide +kernel
theorem dX7_undo_23 : decode cX7_undo 23 = .ok (.aload_n 0, 1) := by decide +kernel
theorem dX7_undo_24 : decode cX7_undo 24 = .ok (.getfield 43, 3) := by decide +kernel
theorem dX7_undo_27 : decode cX7_undo 27 = .ok (.iload_n 1, 1) := by decide +kernel
theorem dX7_undo_28 : decode cX7_undo 28 = .ok (.invokevirtual 128, 3) := by decide +kernel
theorem dX7_undo_31 : decode cX7_undo 31 = .ok (.putfield 47, 3) := by decide +kernel
theorem dX7_undo_34 : decode cX7_undo 34 = .ok (.aload_n 0, 1) := by decide +kernel
theorem dX7_undo_35 : decode cX7_undo 35 = .ok (.getfield 43, 3) := by decide +kernel
theorem dX7_undo_38 : decode cX7_undo 38 = .ok (.invokevirtual 125, 3) := by decide +kernel
theorem dX7_undo_41 : decode cX7_undo 41 = .ok (.ireturn, 1) := by decide +kernel
set_option maxRecDepth 20000 in
theorem ggX7_stepCount_X6_recorded : GoodIn wsX7_stepCount wsX6_recorded := goodIn_r _ [6, 7, 15, 16, 17, 18] rfl (by decide +kernel)
set_option maxRecDepth 20000 in
theorem gX7_stepCount_X6_recorded : GoodIn wsX7_stepCount (wsV RX7 125 RX6 yX6_recorded wsX6_recorded) := goodIn_app (goodIn_of _ (by decide +kernel)) ggX7_stepCount_X6_recorded
theorem dX7_stepCount_0 : decode cX7_stepCount 0 = .ok (.aload_n 0, 1) := by decide +kernel
theorem dX7_stepCount_1 : decode cX7_stepCount 1 = .ok (.getfield 43, 3) := by decide +kernel
theorem dX7_stepCount_4 : decode cX7_stepCount 4 = .ok (.invokevirtual 125, 3) := by decide +kernel
theorem dX7_stepCount_7 : decode cX7_stepCount 7 = .ok (.ireturn, 1) := by decide +kernel
set_option maxRecDepth 20000 in
theorem ggX7_stepRule_X6_ruleAt : GoodIn wsX7_stepRule wsX6_ruleAt := goodIn_r _ [6, 7, 8, 16, 17, 18, 19] rfl (by decide +kernel)
set_option maxRecDepth 20000 in
theorem gX7_stepRule_X6_ruleAt : GoodIn wsX7_stepRule (wsV RX7 132 RX6 yX6_ruleAt wsX6_ruleAt) := goodIn_app (goodIn_of _ (by decide +kernel)) ggX7_stepRule_X6_ruleAt
theorem dX7_stepRule_0 : decode cX7_stepRule 0 = .ok (.aload_n 0, 1) := by decide +kernel
theorem dX7_stepRule_1 : decode cX7_stepRule 1 = .ok (.getfield 43, 3) := by decide +kernel
theorem dX7_stepRule_4 : decode cX7_stepRule 4 = .ok (.iload_n 1, 1) := by decide +kernel
theorem dX7_stepRule_5 : decode cX7_stepRule 5 = .ok (.invokevirtual 132, 3) := by decide +kernel
theorem dX7_stepRule_8 : decode cX7_stepRule 8 = .ok (.ireturn, 1) := by decide +kernel
set_option maxRecDepth 20000 in
theorem ggX7_stepPosition_X6_positionAt : GoodIn wsX7_stepPosition wsX6_positionAt := goodIn_r _ [6, 7, 8, 16, 17, 18, 19] rfl (by decide +kernel)
set_option maxRecDepth 20000 in
theorem gX7_stepPosition_X6_positionAt : GoodIn wsX7_stepPosition (wsV RX7 135 RX6 yX6_positionAt wsX6_positionAt) := goodIn_app (goodIn_of _ (by decide +kernel)) ggX7_stepPosition_X6_positionAt
theorem dX7_stepPosition_0 : decode cX7_stepPosition 0 = .ok (.aload_n 0, 1) := by decide +kernel
theorem dX7_stepPosition_1 : decode cX7_stepPosition 1 = .ok (.getfield 43, 3) := by decide +kernel
theorem dX7_stepPosition_4 : decode cX7_stepPosition 4 = .ok (.iload_n 1, 1) := by decide +kernel
theorem dX7_stepPosition_5 : decode cX7_stepPosition 5 = .ok (.invokevirtual 135, 3) := by decide +kernel
theorem dX7_stepPosition_8 : decode cX7_stepPosition 8 = .ok (.ireturn, 1) := by decide +kernel
set_option maxRecDepth 20000 in
theorem ggX7_applicableCount_X3_read : GoodIn wsX7_applicableCount wsX3_read := goodIn_r _ [7, 8, 9, 10, 11, 12, 13, 14, 15, 16, 17, 18, 19, 20, 21, 22, 6, 23, 128, 129, 130, 131] rfl (by decide +kernel)
set_option maxRecDepth 20000 in
theorem gX7_applicableCount_X3_read : GoodIn wsX7_applicableCount (wsV RX7 51 RX3 yX3_read wsX3_read) := goodIn_app (goodIn_of _ (by decide +kernel)) ggX7_applicableCount_X3_read
set_option maxRecDepth 20000 in
theorem ggX7_applicableCount_X3_nodeCount : GoodIn wsX7_applicableCount wsX3_nodeCount := goodIn_r _ [27, 8, 128, 129, 130, 131] rfl (by decide +kernel)
set_option maxRecDepth 20000 in
theorem gX7_applicableCount_X3_nodeCount : GoodIn wsX7_applicableCount (wsV RX7 55 RX3 yX3_nodeCount wsX3_nodeCount) := goodIn_app (goodIn_of _ (by decide +kernel)) ggX7_applicableCount_X3_nodeCount
set_option maxRecDepth 20000 in
theorem ggX7_applicableCount_X4_fits : GoodIn wsX7_applicableCount wsX4_fits := goodIn_r _ [31, 32, 33, 30, 34, 35, 36, 37, 38, 6, 39, 8, 9, 40, 41, 42, 43, 44, 45, 46, 47, 10, 48, 49, 50, 51, 52, 53, 54, 11, 55, 56, 57, 58, 59, 60, 61, 62, 63, 64, 65, 66, 67, 68, 69, 70, 71, 72, 14, 73, 74, 75, 76, 77, 78, 79, 80, 81, 82, 83, 84, 85, 86, 87, 88, 89, 90, 91, 92, 93, 94, 95, 96, 97, 98, 99, 100, 101, 102, 103, 104, 105, 106, 107, 108, 109, 110, 111, 112, 113, 114, 115, 116, 117, 118, 119, 120, 128, 129, 130, 131] rfl (by decide +kernel)
set_option maxRecDepth 20000 in
theorem gX7_applicableCount_X4_fits : GoodIn wsX7_applicableCount (va_wsS RX7 92 yX4_fits wsX4_fits) := goodIn_app (goodIn_of _ (by decide +kernel)) ggX7_applicableCount_X4_fits
theorem dX7_applicableCount_0 : decode cX7_applicableCount 0 = .ok (.aload_n 0, 1) := by decide +kernel
theorem dX7_applicableCount_1 : decode cX7_applicableCount 1 = .ok (.getfield 12, 3) := by decide +kernel
theorem dX7_applicableCount_4 : decode cX7_applicableCount 4 = .ok (.aload_n 0, 1) := by decide +kernel
theorem dX7_applicableCount_5 : decode cX7_applicableCount 5 = .ok (.getfield 47, 3) := by decide +kernel
theorem dX7_applicableCount_8 : decode cX7_applicableCount 8 = .ok (.invokevirtual 51, 3) := by decide +kernel
theorem dX7_applicableCount_11 : decode cX7_applicableCount 11 = .ok (.pop, 1) := by decide +kernel
theorem dX7_applicableCount_12 : decode cX7_applicableCount 12 = .ok (.iconst 0, 1) := by decide +kernel
theorem dX7_applicableCount_13 : decode cX7_applicableCount 13 = .ok (.istore_n 1, 1) := by decide +kernel
theorem dX7_applicableCount_14 : decode cX7_applicableCount 14 = .ok (.iconst 0, 1) := by decide +kernel
theorem dX7_applicableCount_15 : decode cX7_applicableCount 15 = .ok (.istore_n 2, 1) := by decide +kernel
theorem dX7_applicableCount_16 : decode cX7_applicableCount 16 = .ok (.iload_n 2, 1) := by decide +kernel
theorem dX7_applicableCount_17 : decode cX7_applicableCount 17 = .ok (.aload_n 0, 1) := by decide +kernel
theorem dX7_applicableCount_18 : decode cX7_applicableCount 18 = .ok (.getfield 12, 3) := by decide +kernel
theorem dX7_applicableCount_21 : decode cX7_applicableCount 21 = .ok (.invokevirtual 55, 3) := by decide +kernel
theorem dX7_applicableCount_24 : decode cX7_applicableCount 24 = .ok (.if_icmp .ge 38, 3) := by decide +kernel
theorem dX7_applicableCount_27 : decode cX7_applicableCount 27 = .ok (.iconst 0, 1) := by decide +kernel
theorem dX7_applicableCount_28 : decode cX7_applicableCount 28 = .ok (.istore_n 3, 1) := by decide +kernel
theorem dX7_applicableCount_29 : decode cX7_applicableCount 29 = .ok (.iload_n 3, 1) := by decide +kernel
theorem dX7_applicableCount_30 : decode cX7_applicableCount 30 = .ok (.bipush 16, 2) := by decide +kernel
theorem dX7_applicableCount_32 : decode cX7_applicableCount 32 = .ok (.if_icmp .ge 24, 3) := by decide +kernel
theorem dX7_applicableCount_35 : decode cX7_applicableCount 35 = .ok (.aload_n 0, 1) := by decide +kernel
theorem dX7_applicableCount_36 : decode cX7_applicableCount 36 = .ok (.getfield 12, 3) := by decide +kernel
theorem dX7_applicableCount_39 : decode cX7_applicableCount 39 = .ok (.iload_n 3, 1) := by decide +kernel
theorem dX7_applicableCount_40 : decode cX7_applicableCount 40 = .ok (.iload_n 2, 1) := by decide +kernel
theorem dX7_applicableCount_41 : decode cX7_applicableCount 41 = .ok (.invokestatic 92, 3) := by decide +kernel
theorem dX7_applicableCount_44 : decode cX7_applicableCount 44 = .ok (.ifCond .eq 6, 3) := by decide +kernel
theorem dX7_applicableCount_47 : decode cX7_applicableCount 47 = .ok (.iinc 1 1, 3) := by decide +kernel
theorem dX7_applicableCount_50 : decode cX7_applicableCount 50 = .ok (.iinc 3 1, 3) := by decide +kernel
theorem dX7_applicableCount_53 : decode cX7_applicableCount 53 = .ok (.goto (-24), 3) := by decide +kernel
theorem dX7_applicableCount_56 : decode cX7_applicableCount 56 = .ok (.iinc 2 1, 3) := by decide +kernel
theorem dX7_applicableCount_59 : decode cX7_applicableCount 59 = .ok (.goto (-43), 3) := by decide +kernel
theorem dX7_applicableCount_62 : decode cX7_applicableCount 62 = .ok (.iload_n 1, 1) := by decide +kernel
theorem dX7_applicableCount_63 : decode cX7_applicableCount 63 = .ok (.ireturn, 1) := by decide +kernel
set_option maxRecDepth 20000 in
theorem ggX7_smallest_X5_run : GoodIn wsX7_smallest wsX5_run := goodIn_r _ [8, 9, 10, 11, 12, 13, 14, 7, 15, 16, 17, 18, 19, 20, 21, 22, 23, 24, 25, 26, 27, 28, 29, 30, 31, 32, 33, 34, 35, 36, 37, 38, 39, 40, 41, 42, 43, 44, 45, 46, 47, 48, 49, 50, 51, 52, 53, 54, 55, 56, 57, 58, 59, 60, 61, 62, 63, 64, 65, 66, 67, 68, 69, 70, 71, 72, 73, 74, 75, 76, 77, 78, 79, 80, 81, 82, 83, 84, 85, 86, 87, 88, 89, 90, 91, 92, 93, 94, 95, 96, 97, 98, 99, 100, 101, 102, 103, 104, 105, 106, 107, 108, 109, 110, 111, 112, 113, 114, 115, 116, 117, 118, 119, 120, 121, 122, 123, 124, 125, 126, 127, 128, 129, 130, 131, 132, 133, 134, 135, 136, 137, 138, 139, 140, 157, 158, 159, 160, 161, 162, 163, 164] rfl (by decide +kernel)
set_option maxRecDepth 20000 in
theorem gX7_smallest_X5_run : GoodIn wsX7_smallest (wsV RX7 138 RX5 yX5_run wsX5_run) := goodIn_app (goodIn_of _ (by decide +kernel)) ggX7_smallest_X5_run
set_option maxRecDepth 20000 in
theorem ggX7_smallest_X5_answer : GoodIn wsX7_smallest wsX5_answer := goodIn_r _ [144, 9, 145, 146, 147, 7, 148, 11, 149, 32, 28, 33, 30, 157, 158, 159, 160] rfl (by decide +kernel)
set_option maxRecDepth 20000 in
theorem gX7_smallest_X5_answer : GoodIn wsX7_smallest (wsV RX7 141 RX5 yX5_answer wsX5_answer) := goodIn_app (goodIn_of _ (by decide +kernel)) ggX7_smallest_X5_answer
theorem dX7_smallest_0 : decode cX7_smallest 0 = .ok (.aload_n 0, 1) := by decide +kernel
theorem dX7_smallest_1 : decode cX7_smallest 1 = .ok (.getfield 36, 3) := by decide +kernel
theorem dX7_smallest_4 : decode cX7_smallest 4 = .ok (.aload_n 0, 1) := by decide +kernel
theorem dX7_smallest_5 : decode cX7_smallest 5 = .ok (.getfield 47, 3) := by decide +kernel
theorem dX7_smallest_8 : decode cX7_smallest 8 = .ok (.invokevirtual 138, 3) := by decide +kernel
theorem dX7_smallest_11 : decode cX7_smallest 11 = .ok (.ifCond .eq 13, 3) := by decide +kernel
theorem dX7_smallest_14 : decode cX7_smallest 14 = .ok (.aload_n 0, 1) := by decide +kernel
theorem dX7_smallest_15 : decode cX7_smallest 15 = .ok (.getfield 36, 3) := by decide +kernel
theorem dX7_smallest_18 : decode cX7_smallest 18 = .ok (.invokevirtual 141, 3) := by decide +kernel
theorem dX7_smallest_21 : decode cX7_smallest 21 = .ok (.goto 6, 3) := by decide +kernel
theorem dX7_smallest_24 : decode cX7_smallest 24 = .ok (.ldc2_w 145, 3) := by decide +kernel
theorem dX7_smallest_27 : decode cX7_smallest 27 = .ok (.lreturn, 1) := by decide +kernel
set_option maxRecDepth 20000 in
theorem ggX7_smallestDistance_X5_run : GoodIn wsX7_smallestDistance wsX5_run := goodIn_r _ [7, 8, 9, 10, 11, 12, 13, 6, 14, 15, 16, 17, 18, 19, 20, 21, 22, 23, 24, 25, 26, 27, 28, 29, 30, 31, 32, 33, 34, 35, 36, 37, 38, 39, 40, 41, 42, 43, 44, 45, 46, 47, 48, 49, 50, 51, 52, 53, 54, 55, 56, 57, 58, 59, 60, 61, 62, 63, 64, 65, 66, 67, 68, 69, 70, 71, 72, 73, 74, 75, 76, 77, 78, 79, 80, 81, 82, 83, 84, 85, 86, 87, 88, 89, 90, 91, 92, 93, 94, 95, 96, 97, 98, 99, 100, 101, 102, 103, 104, 105, 106, 107, 108, 109, 110, 111, 112, 113, 114, 115, 116, 117, 118, 119, 120, 121, 122, 123, 124, 125, 126, 127, 128, 129, 130, 131, 132, 133, 134, 135, 136, 137, 138, 139, 156, 157, 158, 159, 160, 161, 162, 163] rfl (by decide +kernel)
set_option maxRecDepth 20000 in
theorem gX7_smallestDistance_X5_run : GoodIn wsX7_smallestDistance (wsV RX7 138 RX5 yX5_run wsX5_run) := goodIn_app (goodIn_of _ (by decide +kernel)) ggX7_smallestDistance_X5_run
set_option maxRecDepth 20000 in
theorem ggX7_smallestDistance_X5_answerDistance : GoodIn wsX7_smallestDistance wsX5_answerDistance := goodIn_r _ [143, 9, 144, 145, 146, 6, 147, 10, 8, 148, 31, 27, 32, 29, 156, 157, 158, 159] rfl (by decide +kernel)
set_option maxRecDepth 20000 in
theorem gX7_smallestDistance_X5_answerDistance : GoodIn wsX7_smallestDistance (wsV RX7 147 RX5 yX5_answerDistance wsX5_answerDistance) := goodIn_app (goodIn_of _ (by decide +kernel)) ggX7_smallestDistance_X5_answerDistance
theorem dX7_smallestDistance_0 : decode cX7_smallestDistance 0 = .ok (.aload_n 0, 1) := by decide +kernel
theorem dX7_smallestDistance_1 : decode cX7_smallestDistance 1 = .ok (.getfield 36, 3) := by decide +kernel
theorem dX7_smallestDistance_4 : decode cX7_smallestDistance 4 = .ok (.aload_n 0, 1) := by decide +kernel
theorem dX7_smallestDistance_5 : decode cX7_smallestDistance 5 = .ok (.getfield 47, 3) := by decide +kernel
theorem dX7_smallestDistance_8 : decode cX7_smallestDistance 8 = .ok (.invokevirtual 138, 3) := by decide +kernel
theorem dX7_smallestDistance_11 : decode cX7_smallestDistance 11 = .ok (.ifCond .eq 13, 3) := by decide +kernel
theorem dX7_smallestDistance_14 : decode cX7_smallestDistance 14 = .ok (.aload_n 0, 1) := by decide +kernel
theorem dX7_smallestDistance_15 : decode cX7_smallestDistance 15 = .ok (.getfield 36, 3) := by decide +kernel
theorem dX7_smallestDistance_18 : decode cX7_smallestDistance 18 = .ok (.invokevirtual 147, 3) := by decide +kernel
theorem dX7_smallestDistance_21 : decode cX7_smallestDistance 21 = .ok (.goto 5, 3) := by decide +kernel
theorem dX7_smallestDistance_24 : decode cX7_smallestDistance 24 = .ok (.bipush (-6), 2) := by decide +kernel
theorem dX7_smallestDistance_26 : decode cX7_smallestDistance 26 = .ok (.ireturn, 1) := by decide +kernel
set_option maxRecDepth 20000 in
theorem ggX7_reachableCount_X5_run : GoodIn wsX7_reachableCount wsX5_run := goodIn_r _ [7, 8, 9, 10, 11, 12, 13, 6, 14, 15, 16, 17, 18, 19, 20, 21, 22, 23, 24, 25, 26, 27, 28, 29, 30, 31, 32, 33, 34, 35, 36, 37, 38, 39, 40, 41, 42, 43, 44, 45, 46, 47, 48, 49, 50, 51, 52, 53, 54, 55, 56, 57, 58, 59, 60, 61, 62, 63, 64, 65, 66, 67, 68, 69, 70, 71, 72, 73, 74, 75, 76, 77, 78, 79, 80, 81, 82, 83, 84, 85, 86, 87, 88, 89, 90, 91, 92, 93, 94, 95, 96, 97, 98, 99, 100, 101, 102, 103, 104, 105, 106, 107, 108, 109, 110, 111, 112, 113, 114, 115, 116, 117, 118, 119, 120, 121, 122, 123, 124, 125, 126, 127, 128, 129, 130, 131, 132, 133, 134, 135, 136, 137, 138, 139, 151, 152, 153, 154, 155, 156, 157, 158] rfl (by decide +kernel)
set_option maxRecDepth 20000 in
theorem gX7_reachableCount_X5_run : GoodIn wsX7_reachableCount (wsV RX7 138 RX5 yX5_run wsX5_run) := goodIn_app (goodIn_of _ (by decide +kernel)) ggX7_reachableCount_X5_run
set_option maxRecDepth 20000 in
theorem ggX7_reachableCount_X5_metCount : GoodIn wsX7_reachableCount wsX5_metCount := goodIn_r _ [143, 10, 151, 152, 153, 154] rfl (by decide +kernel)
set_option maxRecDepth 20000 in
theorem gX7_reachableCount_X5_metCount : GoodIn wsX7_reachableCount (wsV RX7 150 RX5 yX5_metCount wsX5_metCount) := goodIn_app (goodIn_of _ (by decide +kernel)) ggX7_reachableCount_X5_metCount
theorem dX7_reachableCount_0 : decode cX7_reachableCount 0 = .ok (.aload_n 0, 1) := by decide +kernel
theorem dX7_reachableCount_1 : decode cX7_reachableCount 1 = .ok (.getfield 36, 3) := by decide +kernel
theorem dX7_reachableCount_4 : decode cX7_reachableCount 4 = .ok (.aload_n 0, 1) := by decide +kernel
theorem dX7_reachableCount_5 : decode cX7_reachableCount 5 = .ok (.getfield 47, 3) := by decide +kernel
theorem dX7_reachableCount_8 : decode cX7_reachableCount 8 = .ok (.invokevirtual 138, 3) := by decide +kernel
theorem dX7_reachableCount_11 : decode cX7_reachableCount 11 = .ok (.ifCond .eq 13, 3) := by decide +kernel
theorem dX7_reachableCount_14 : decode cX7_reachableCount 14 = .ok (.aload_n 0, 1) := by decide +kernel
theorem dX7_reachableCount_15 : decode cX7_reachableCount 15 = .ok (.getfield 36, 3) := by decide +kernel
theorem dX7_reachableCount_18 : decode cX7_reachableCount 18 = .ok (.invokevirtual 150, 3) := by decide +kernel
theorem dX7_reachableCount_21 : decode cX7_reachableCount 21 = .ok (.goto 5, 3) := by decide +kernel
theorem dX7_reachableCount_24 : decode cX7_reachableCount 24 = .ok (.bipush (-6), 2) := by decide +kernel
theorem dX7_reachableCount_26 : decode cX7_reachableCount 26 = .ok (.ireturn, 1) := by decide +kernel
set_option maxRecDepth 20000 in
theorem ggX7_compare_X3_read : GoodIn wsX7_compare wsX3_read := goodIn_r _ [9, 10, 11, 12, 13, 14, 15, 16, 17, 18, 19, 20, 21, 22, 23, 24, 8, 25, 130, 131, 132, 133] rfl (by decide +kernel)
set_option maxRecDepth 20000 in
theorem gX7_compare_X3_read : GoodIn wsX7_compare (wsV RX7 51 RX3 yX3_read wsX3_read) := goodIn_app (goodIn_of _ (by decide +kernel)) ggX7_compare_X3_read
set_option maxRecDepth 20000 in
theorem ggX7_compare_X0_build : GoodIn wsX7_compare wsX0_build := goodIn_r _ [30, 31, 32, 33, 34, 35, 36, 37, 38, 39, 40, 41, 42, 43, 44, 8, 45, 10, 46, 47, 48, 29, 49, 50, 51, 52, 53, 54, 55, 56, 57, 12, 58, 59, 60, 61, 11, 62, 63, 64, 65, 66, 67, 68, 69, 70, 71, 72, 73, 74, 75, 76, 77, 78, 79, 80, 81, 134, 135, 136, 137, 138, 139, 140, 130, 131, 132, 133] rfl (by decide +kernel)
set_option maxRecDepth 20000 in
theorem gX7_compare_X0_build : GoodIn wsX7_compare (wsV RX7 62 RX0 yX0_build wsX0_build) := goodIn_app (goodIn_of _ (by decide +kernel)) ggX7_compare_X0_build
set_option maxRecDepth 20000 in
theorem ggX7_compare_X2_run : GoodIn wsX7_compare wsX2_run := goodIn_r _ [86, 87, 88, 89, 90, 39, 40, 41, 91, 92, 93, 85, 94, 95, 96, 97, 98, 99, 100, 101, 102, 103, 104, 105, 106, 107, 108, 109, 29, 110, 37, 111, 112, 113, 114, 115, 116, 117, 118, 33, 31, 119, 120, 121, 122, 32, 141, 142, 143, 144, 145, 146, 147, 134, 135, 136, 137, 138, 139, 140] rfl (by decide +kernel)
set_option maxRecDepth 20000 in
theorem gX7_compare_X2_run : GoodIn wsX7_compare (wsV RX7 153 RX2 yX2_run wsX2_run) := goodIn_app (goodIn_of _ (by decide +kernel)) ggX7_compare_X2_run
theorem dX7_compare_0 : decode cX7_compare 0 = .ok (.aload_n 0, 1) := by decide +kernel
theorem dX7_compare_1 : decode cX7_compare 1 = .ok (.getfield 12, 3) := by decide +kernel
theorem dX7_compare_4 : decode cX7_compare 4 = .ok (.lload_n 1, 1) := by decide +kernel
theorem dX7_compare_5 : decode cX7_compare 5 = .ok (.invokevirtual 51, 3) := by decide +kernel
theorem dX7_compare_8 : decode cX7_compare 8 = .ok (.ifCond .ne 5, 3) := by decide +kernel
theorem dX7_compare_11 : decode cX7_compare 11 = .ok (.iconst 0, 1) := by decide +kernel
theorem dX7_compare_12 : decode cX7_compare 12 = .ok (.ireturn, 1) := by decide +kernel
theorem dX7_compare_13 : decode cX7_compare 13 = .ok (.aload_n 0, 1) := by decide +kernel
theorem dX7_compare_14 : decode cX7_compare 14 = .ok (.getfield 19, 3) := by decide +kernel
theorem dX7_compare_17 : decode cX7_compare 17 = .ok (.aload_n 0, 1) := by decide +kernel
theorem dX7_compare_18 : decode cX7_compare 18 = .ok (.getfield 12, 3) := by decide +kernel
theorem dX7_compare_21 : decode cX7_compare 21 = .ok (.invokevirtual 62, 3) := by decide +kernel
theorem dX7_compare_24 : decode cX7_compare 24 = .ok (.aload_n 0, 1) := by decide +kernel
theorem dX7_compare_25 : decode cX7_compare 25 = .ok (.getfield 12, 3) := by decide +kernel
theorem dX7_compare_28 : decode cX7_compare 28 = .ok (.lload_n 3, 1) := by decide +kernel
theorem dX7_compare_29 : decode cX7_compare 29 = .ok (.invokevirtual 51, 3) := by decide +kernel
theorem dX7_compare_32 : decode cX7_compare 32 = .ok (.ifCond .ne 5, 3) := by decide +kernel
theorem dX7_compare_35 : decode cX7_compare 35 = .ok (.iconst 0, 1) := by decide +kernel
theorem dX7_compare_36 : decode cX7_compare 36 = .ok (.ireturn, 1) := by decide +kernel
theorem dX7_compare_37 : decode cX7_compare 37 = .ok (.aload_n 0, 1) := by decide +kernel
theorem dX7_compare_38 : decode cX7_compare 38 = .ok (.getfield 23, 3) := by decide +kernel
theorem dX7_compare_41 : decode cX7_compare 41 = .ok (.aload_n 0, 1) := by decide +kernel
theorem dX7_compare_42 : decode cX7_compare 42 = .ok (.getfield 12, 3) := by decide +kernel
theorem dX7_compare_45 : decode cX7_compare 45 = .ok (.invokevirtual 62, 3) := by decide +kernel
theorem dX7_compare_48 : decode cX7_compare 48 = .ok (.aload_n 0, 1) := by decide +kernel
theorem dX7_compare_49 : decode cX7_compare 49 = .ok (.getfield 29, 3) := by decide +kernel
theorem dX7_compare_52 : decode cX7_compare 52 = .ok (.aload_n 0, 1) := by decide +kernel
theorem dX7_compare_53 : decode cX7_compare 53 = .ok (.getfield 19, 3) := by decide +kernel
theorem dX7_compare_56 : decode cX7_compare 56 = .ok (.aload_n 0, 1) := by decide +kernel
theorem dX7_compare_57 : decode cX7_compare 57 = .ok (.getfield 23, 3) := by decide +kernel
theorem dX7_compare_60 : decode cX7_compare 60 = .ok (.invokevirtual 153, 3) := by decide +kernel
theorem dX7_compare_63 : decode cX7_compare 63 = .ok (.iconst 1, 1) := by decide +kernel
theorem dX7_compare_64 : decode cX7_compare 64 = .ok (.ireturn, 1) := by decide +kernel
set_option maxRecDepth 20000 in
theorem ggX7_take_X6_record : GoodIn wsX7_take wsX6_record := goodIn_r _ [7, 8, 9, 10, 11, 19, 20, 21, 22] rfl (by decide +kernel)
set_option maxRecDepth 20000 in
theorem gX7_take_X6_record : GoodIn wsX7_take (wsV RX7 156 RX6 yX6_record wsX6_record) := goodIn_app (goodIn_of _ (by decide +kernel)) ggX7_take_X6_record
theorem dX7_take_0 : decode cX7_take 0 = .ok (.aload_n 0, 1) := by decide +kernel
theorem dX7_take_1 : decode cX7_take 1 = .ok (.getfield 43, 3) := by decide +kernel
theorem dX7_take_4 : decode cX7_take 4 = .ok (.aload_n 0, 1) := by decide +kernel
theorem dX7_take_5 : decode cX7_take 5 = .ok (.getfield 47, 3) := by decide +kernel
theorem dX7_take_8 : decode cX7_take 8 = .ok (.iload_n 3, 1) := by decide +kernel
theorem dX7_take_9 : decode cX7_take 9 = .ok (.iload 4, 2) := by decide +kernel
theorem dX7_take_11 : decode cX7_take 11 = .ok (.invokevirtual 156, 3) := by decide +kernel
theorem dX7_take_14 : decode cX7_take 14 = .ok (.aload_n 0, 1) := by decide +kernel
theorem dX7_take_15 : decode cX7_take 15 = .ok (.lload_n 1, 1) := by decide +kernel
theorem dX7_take_16 : decode cX7_take 16 = .ok (.putfield 47, 3) := by decide +kernel
theorem dX7_take_19 : decode cX7_take 19 = .ok (.return_, 1) := by decide +kernel
set_option maxRecDepth 20000 in
theorem ggX7_addressError_X3_has : GoodIn wsX7_addressError wsX3_has := goodIn_r _ [5, 6, 7, 8, 9, 10] rfl (by decide +kernel)
set_option maxRecDepth 20000 in
theorem gX7_addressError_X3_has : GoodIn wsX7_addressError (wsV RX7 159 RX3 yX3_has wsX3_has) := goodIn_app (goodIn_of _ (by decide +kernel)) ggX7_addressError_X3_has
theorem dX7_addressError_0 : decode cX7_addressError 0 = .ok (.iload_n 1, 1) := by decide +kernel
theorem dX7_addressError_1 : decode cX7_addressError 1 = .ok (.ifCond .lt 9, 3) := by decide +kernel
theorem dX7_addressError_4 : decode cX7_addressError 4 = .ok (.iload_n 1, 1) := by decide +kernel
theorem dX7_addressError_5 : decode cX7_addressError 5 = .ok (.bipush 16, 2) := by decide +kernel
theorem dX7_addressError_7 : decode cX7_addressError 7 = .ok (.if_icmp .lt 6, 3) := by decide +kernel
theorem dX7_addressError_10 : decode cX7_addressError 10 = .ok (.bipush (-2), 2) := by decide +kernel
theorem dX7_addressError_12 : decode cX7_addressError 12 = .ok (.ireturn, 1) := by decide +kernel
theorem dX7_addressError_13 : decode cX7_addressError 13 = .ok (.aload_n 0, 1) := by decide +kernel
theorem dX7_addressError_14 : decode cX7_addressError 14 = .ok (.iload_n 2, 1) := by decide +kernel
theorem dX7_addressError_15 : decode cX7_addressError 15 = .ok (.invokevirtual 159, 3) := by decide +kernel
theorem dX7_addressError_18 : decode cX7_addressError 18 = .ok (.ifCond .eq 7, 3) := by decide +kernel
theorem dX7_addressError_21 : decode cX7_addressError 21 = .ok (.iconst 0, 1) := by decide +kernel
theorem dX7_addressError_22 : decode cX7_addressError 22 = .ok (.goto 5, 3) := by decide +kernel
theorem dX7_addressError_25 : decode cX7_addressError 25 = .ok (.bipush (-3), 2) := by decide +kernel
theorem dX7_addressError_27 : decode cX7_addressError 27 = .ok (.ireturn, 1) := by decide +kernel
set_option maxRecDepth 20000 in
theorem ggX7_stepResult_X7_addressError : GoodIn wsX7_stepResult wsX7_addressError := goodIn_r _ [5, 6, 7, 8, 9, 10, 11, 115, 116, 117, 118] rfl (by decide +kernel)
set_option maxRecDepth 20000 in
theorem gX7_stepResult_X7_addressError : GoodIn wsX7_stepResult (va_wsS RX7 88 yX7_addressError wsX7_addressError) := goodIn_app (goodIn_of _ (by decide +kernel)) ggX7_stepResult_X7_addressError
set_option maxRecDepth 20000 in
theorem ggX7_stepResult_X4_replacement : GoodIn wsX7_stepResult wsX4_replacement := goodIn_r _ [15, 16, 17, 18, 19, 9, 20, 11, 21, 22, 23, 24, 25, 26, 27, 28, 29, 30, 31, 32, 14, 33, 34, 35, 36, 37, 38, 39, 40, 41, 42, 43, 44, 45, 46, 47, 48, 49, 50, 51, 52, 53, 54, 55, 56, 57, 58, 59, 60, 61, 62, 63, 64, 65, 66, 67, 68, 69, 70, 71, 72, 73, 74, 75, 76, 77, 78, 79, 80, 81, 82, 83, 84, 85, 86, 87, 88, 89, 90, 91, 92, 93, 94, 95, 96, 97, 98, 99, 100, 101, 102, 103, 104, 105, 115, 116, 117, 118] rfl (by decide +kernel)
set_option maxRecDepth 20000 in
theorem gX7_stepResult_X4_replacement : GoodIn wsX7_stepResult (va_wsS RX7 162 yX4_replacement wsX4_replacement) := goodIn_app (goodIn_of _ (by decide +kernel)) ggX7_stepResult_X4_replacement
set_option maxRecDepth 20000 in
theorem ggX7_stepResult_X3_withReplaced : GoodIn wsX7_stepResult wsX3_withReplaced := goodIn_r _ [109, 11, 30, 38, 110, 111, 57, 112, 113, 114, 61, 62, 63, 115, 116, 117, 118] rfl (by decide +kernel)
set_option maxRecDepth 20000 in
theorem gX7_stepResult_X3_withReplaced : GoodIn wsX7_stepResult (wsV RX7 167 RX3 yX3_withReplaced wsX3_withReplaced) := goodIn_app (goodIn_of _ (by decide +kernel)) ggX7_stepResult_X3_withReplaced
theorem dX7_stepResult_0 : decode cX7_stepResult 0 = .ok (.aload_n 0, 1) := by decide +kernel
theorem dX7_stepResult_1 : decode cX7_stepResult 1 = .ok (.iload_n 1, 1) := by decide +kernel
theorem dX7_stepResult_2 : decode cX7_stepResult 2 = .ok (.iload_n 2, 1) := by decide +kernel
theorem dX7_stepResult_3 : decode cX7_stepResult 3 = .ok (.invokestatic 88, 3) := by decide +kernel
theorem dX7_stepResult_6 : decode cX7_stepResult 6 = .ok (.istore_n 3, 1) := by decide +kernel
theorem dX7_stepResult_7 : decode cX7_stepResult 7 = .ok (.iload_n 3, 1) := by decide +kernel
theorem dX7_stepResult_8 : decode cX7_stepResult 8 = .ok (.ifCond .eq 6, 3) := by decide +kernel
theorem dX7_stepResult_11 : decode cX7_stepResult 11 = .ok (.iload_n 3, 1) := by decide +kernel
theorem dX7_stepResult_12 : decode cX7_stepResult 12 = .ok (.i2l, 1) := by decide +kernel
theorem dX7_stepResult_13 : decode cX7_stepResult 13 = .ok (.lreturn, 1) := by decide +kernel
theorem dX7_stepResult_14 : decode cX7_stepResult 14 = .ok (.aload_n 0, 1) := by decide +kernel
theorem dX7_stepResult_15 : decode cX7_stepResult 15 = .ok (.iload_n 1, 1) := by decide +kernel
theorem dX7_stepResult_16 : decode cX7_stepResult 16 = .ok (.iload_n 2, 1) := by decide +kernel
theorem dX7_stepResult_17 : decode cX7_stepResult 17 = .ok (.invokestatic 162, 3) := by decide +kernel
theorem dX7_stepResult_20 : decode cX7_stepResult 20 = .ok (.lstore 4, 2) := by decide +kernel
theorem dX7_stepResult_22 : decode cX7_stepResult 22 = .ok (.lload 4, 2) := by decide +kernel
theorem dX7_stepResult_24 : decode cX7_stepResult 24 = .ok (.lconst 0, 1) := by decide +kernel
theorem dX7_stepResult_25 : decode cX7_stepResult 25 = .ok (.lcmp, 1) := by decide +kernel
theorem dX7_stepResult_26 : decode cX7_stepResult 26 = .ok (.ifCond .ne 7, 3) := by decide +kernel
theorem dX7_stepResult_29 : decode cX7_stepResult 29 = .ok (.ldc2_w 165, 3) := by decide +kernel
theorem dX7_stepResult_32 : decode cX7_stepResult 32 = .ok (.lreturn, 1) := by decide +kernel
theorem dX7_stepResult_33 : decode cX7_stepResult 33 = .ok (.aload_n 0, 1) := by decide +kernel
theorem dX7_stepResult_34 : decode cX7_stepResult 34 = .ok (.iload_n 2, 1) := by decide +kernel
theorem dX7_stepResult_35 : decode cX7_stepResult 35 = .ok (.lload 4, 2) := by decide +kernel
theorem dX7_stepResult_37 : decode cX7_stepResult 37 = .ok (.invokevirtual 167, 3) := by decide +kernel
theorem dX7_stepResult_40 : decode cX7_stepResult 40 = .ok (.lreturn, 1) := by decide +kernel
theorem dX8_init_0 : decode cX8_init 0 = .ok (.aload_n 0, 1) := by decide +kernel
theorem dX8_init_1 : decode cX8_init 1 = .ok (.invokespecial 1, 3) := by decide +kernel
theorem dX8_init_4 : decode cX8_init 4 = .ok (.aload_n 0, 1) := by decide +kernel
theorem dX8_init_5 : decode cX8_init 5 = .ok (.bipush 18, 2) := by decide +kernel
theorem dX8_init_7 : decode cX8_init 7 = .ok (.newarray .int, 2) := by decide +kernel
theorem dX8_init_9 : decode cX8_init 9 = .ok (.putfield 7, 3) := by decide +kernel
theorem dX8_init_12 : decode cX8_init 12 = .ok (.aload_n 0, 1) := by decide +kernel
theorem dX8_init_13 : decode cX8_init 13 = .ok (.bipush 18, 2) := by decide +kernel
theorem dX8_init_15 : decode cX8_init 15 = .ok (.newarray .int, 2) := by decide +kernel
theorem dX8_init_17 : decode cX8_init 17 = .ok (.putfield 13, 3) := by decide +kernel
theorem dX8_init_20 : decode cX8_init 20 = .ok (.aload_n 0, 1) := by decide +kernel
theorem dX8_init_21 : decode cX8_init 21 = .ok (.iconst 2, 1) := by decide +kernel
theorem dX8_init_22 : decode cX8_init 22 = .ok (.newarray .boolean, 2) := by decide +kernel
theorem dX8_init_24 : decode cX8_init 24 = .ok (.putfield 16, 3) := by decide +kernel
theorem dX8_init_27 : decode cX8_init 27 = .ok (.aload_n 0, 1) := by decide +kernel
theorem dX8_init_28 : decode cX8_init 28 = .ok (.iconst 2, 1) := by decide +kernel
theorem dX8_init_29 : decode cX8_init 29 = .ok (.newarray .int, 2) := by decide +kernel
theorem dX8_init_31 : decode cX8_init 31 = .ok (.putfield 20, 3) := by decide +kernel
theorem dX8_init_34 : decode cX8_init 34 = .ok (.aload_n 0, 1) := by decide +kernel
theorem dX8_init_35 : decode cX8_init 35 = .ok (.iconst 2, 1) := by decide +kernel
theorem dX8_init_36 : decode cX8_init 36 = .ok (.newarray .int, 2) := by decide +kernel
theorem dX8_init_38 : decode cX8_init 38 = .ok (.putfield 23, 3) := by decide +kernel
theorem dX8_init_41 : decode cX8_init 41 = .ok (.aload_n 0, 1) := by decide +kernel
