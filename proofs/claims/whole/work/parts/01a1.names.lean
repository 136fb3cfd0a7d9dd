set_option maxRecDepth 20000 in
theorem wl_r1_in : ∀ w ∈ wsL_law_r1, w ∈ lw_tbl := fun w h => (goodIn_p wsL_law_r1 [68, 71] rfl (by decide +kernel) w h).1
set_option maxRecDepth 20000 in
theorem wl_r2_in : ∀ w ∈ wsL_law_r2, w ∈ lw_tbl := fun w h => (goodIn_p wsL_law_r2 [76, 97] rfl (by decide +kernel) w h).1
set_option maxRecDepth 20000 in
theorem wl_r3_in : ∀ w ∈ wsL_law_r3, w ∈ lw_tbl := fun w h => (goodIn_p wsL_law_r3 [126, 154, 175] rfl (by decide +kernel) w h).1
set_option maxRecDepth 20000 in
theorem wl_r4_in : ∀ w ∈ wsL_law_r4, w ∈ lw_tbl := fun w h => (goodIn_p wsL_law_r4 [613] rfl (by decide +kernel) w h).1
set_option maxRecDepth 20000 in
theorem wl_r5_in : ∀ w ∈ wsL_law_r5, w ∈ lw_tbl := fun w h => (goodIn_p wsL_law_r5 [215, 219, 222, 227] rfl (by decide +kernel) w h).1
set_option maxRecDepth 20000 in
theorem wl_r6_in : ∀ w ∈ wsL_law_r6, w ∈ lw_tbl := fun w h => (goodIn_p wsL_law_r6 [231, 235, 711, 715, 719, 239] rfl (by decide +kernel) w h).1
set_option maxRecDepth 20000 in
theorem wl_r7_in : ∀ w ∈ wsL_law_r7, w ∈ lw_tbl := fun w h => (goodIn_p wsL_law_r7 [243, 250, 247, 723, 254, 258] rfl (by decide +kernel) w h).1
set_option maxRecDepth 20000 in
theorem wl_r8_in : ∀ w ∈ wsL_law_r8, w ∈ lw_tbl := fun w h => (goodIn_p wsL_law_r8 [261, 266, 270, 274, 278] rfl (by decide +kernel) w h).1
set_option maxRecDepth 20000 in
theorem wl_r9_in : ∀ w ∈ wsL_law_r9, w ∈ lw_tbl := fun w h => (goodIn_p wsL_law_r9 [282, 286, 290, 294, 298, 302] rfl (by decide +kernel) w h).1
set_option maxRecDepth 20000 in
theorem wl_r10_in : ∀ w ∈ wsL_law_r10, w ∈ lw_tbl := fun w h => (goodIn_p wsL_law_r10 [727, 731, 735, 739, 743, 306] rfl (by decide +kernel) w h).1
set_option maxRecDepth 20000 in
theorem wl_r11_in : ∀ w ∈ wsL_law_r11, w ∈ lw_tbl := fun w h => (goodIn_p wsL_law_r11 [310, 313, 318, 322, 747, 751] rfl (by decide +kernel) w h).1
set_option maxRecDepth 20000 in
theorem wl_r12_in : ∀ w ∈ wsL_law_r12, w ∈ lw_tbl := fun w h => (goodIn_p wsL_law_r12 [755, 326, 330, 334, 339] rfl (by decide +kernel) w h).1
set_option maxRecDepth 20000 in
theorem wl_r13_in : ∀ w ∈ wsL_law_r13, w ∈ lw_tbl := fun w h => (goodIn_p wsL_law_r13 [343, 347, 352, 358, 362, 759] rfl (by decide +kernel) w h).1
set_option maxRecDepth 20000 in
theorem wl_r14_in : ∀ w ∈ wsL_law_r14, w ∈ lw_tbl := fun w h => (goodIn_p wsL_law_r14 [763, 767, 771, 775, 366] rfl (by decide +kernel) w h).1
set_option maxRecDepth 20000 in
theorem wl_r15_in : ∀ w ∈ wsL_law_r15, w ∈ lw_tbl := fun w h => (goodIn_p wsL_law_r15 [370, 779, 375, 378, 382, 385] rfl (by decide +kernel) w h).1
set_option maxRecDepth 20000 in
theorem wl_r16_in : ∀ w ∈ wsL_law_r16, w ∈ lw_tbl := fun w h => (goodIn_p wsL_law_r16 [388, 396, 400, 403, 406, 410] rfl (by decide +kernel) w h).1
set_option maxRecDepth 20000 in
theorem wl_r17_in : ∀ w ∈ wsL_law_r17, w ∈ lw_tbl := fun w h => (goodIn_p wsL_law_r17 [413, 416, 419, 423, 427, 430, 433] rfl (by decide +kernel) w h).1
set_option maxRecDepth 20000 in
theorem wl_r18_in : ∀ w ∈ wsL_law_r18, w ∈ lw_tbl := fun w h => (goodIn_p wsL_law_r18 [437, 440, 443, 446, 450, 454, 457] rfl (by decide +kernel) w h).1
set_option maxRecDepth 20000 in
theorem wl_r19_in : ∀ w ∈ wsL_law_r19, w ∈ lw_tbl := fun w h => (goodIn_p wsL_law_r19 [460, 463, 466, 783, 786, 790, 794] rfl (by decide +kernel) w h).1
set_option maxRecDepth 20000 in
theorem wl_r20_in : ∀ w ∈ wsL_law_r20, w ∈ lw_tbl := fun w h => (goodIn_p wsL_law_r20 [798, 802, 806, 810, 814, 818] rfl (by decide +kernel) w h).1
set_option maxRecDepth 20000 in
theorem wl_r21_in : ∀ w ∈ wsL_law_r21, w ∈ lw_tbl := fun w h => (goodIn_p wsL_law_r21 [822, 826, 830, 834, 838, 842] rfl (by decide +kernel) w h).1
set_option maxRecDepth 20000 in
theorem wl_r22_in : ∀ w ∈ wsL_law_r22, w ∈ lw_tbl := fun w h => (goodIn_p wsL_law_r22 [846, 850, 854, 858, 470, 473] rfl (by decide +kernel) w h).1
set_option maxRecDepth 20000 in
theorem wl_r23_in : ∀ w ∈ wsL_law_r23, w ∈ lw_tbl := fun w h => (goodIn_p wsL_law_r23 [479, 862, 868, 485, 488] rfl (by decide +kernel) w h).1
set_option maxRecDepth 20000 in
theorem wl_r24_in : ∀ w ∈ wsL_law_r24, w ∈ lw_tbl := fun w h => (goodIn_p wsL_law_r24 [492, 872, 876, 496, 880, 501] rfl (by decide +kernel) w h).1
set_option maxRecDepth 20000 in
theorem wl_r25_in : ∀ w ∈ wsL_law_r25, w ∈ lw_tbl := fun w h => (goodIn_p wsL_law_r25 [505, 884, 509, 888, 513] rfl (by decide +kernel) w h).1
set_option maxRecDepth 20000 in
theorem wl_r26_in : ∀ w ∈ wsL_law_r26, w ∈ lw_tbl := fun w h => (goodIn_p wsL_law_r26 [517, 521, 892, 897, 526] rfl (by decide +kernel) w h).1
set_option maxRecDepth 20000 in
theorem wl_r27_in : ∀ w ∈ wsL_law_r27, w ∈ lw_tbl := fun w h => (goodIn_p wsL_law_r27 [902, 530, 534, 538, 906, 542] rfl (by decide +kernel) w h).1
set_option maxRecDepth 20000 in
theorem wl_r28_in : ∀ w ∈ wsL_law_r28, w ∈ lw_tbl := fun w h => (goodIn_p wsL_law_r28 [910, 546, 550, 914, 554, 558] rfl (by decide +kernel) w h).1
set_option maxRecDepth 20000 in
theorem wl_r29_in : ∀ w ∈ wsL_law_r29, w ∈ lw_tbl := fun w h => (goodIn_p wsL_law_r29 [918, 562, 922, 566, 570, 574] rfl (by decide +kernel) w h).1
set_option maxRecDepth 20000 in
theorem wl_r30_in : ∀ w ∈ wsL_law_r30, w ∈ lw_tbl := fun w h => (goodIn_p wsL_law_r30 [582, 586, 590, 926] rfl (by decide +kernel) w h).1
set_option maxRecDepth 20000 in
theorem wl_r31_in : ∀ w ∈ wsL_law_r31, w ∈ lw_tbl := fun w h => (goodIn_p wsL_law_r31 [930, 934, 938, 596, 600, 943] rfl (by decide +kernel) w h).1
set_option maxRecDepth 20000 in
theorem wl_r32_in : ∀ w ∈ wsL_law_r32, w ∈ lw_tbl := fun w h => (goodIn_p wsL_law_r32 [604, 608, 947] rfl (by decide +kernel) w h).1
set_option maxRecDepth 20000 in
theorem wl_wsX70_in : ∀ w ∈ wsX70, w ∈ lw_tbl := fun w h => (goodIn_p wsX70 [] rfl (by decide +kernel) w h).1
set_option maxRecDepth 20000 in
theorem wl_wsX80_in : ∀ w ∈ wsX80, w ∈ lw_tbl := fun w h => (goodIn_p wsX80 [] rfl (by decide +kernel) w h).1
set_option maxRecDepth 20000 in
theorem wl_wsX30_in : ∀ w ∈ wsX30, w ∈ lw_tbl := fun w h => (goodIn_p wsX30 [] rfl (by decide +kernel) w h).1
set_option maxRecDepth 20000 in
theorem wl_wsX00_in : ∀ w ∈ wsX00, w ∈ lw_tbl := fun w h => (goodIn_p wsX00 [] rfl (by decide +kernel) w h).1
set_option maxRecDepth 20000 in
theorem wl_wsX20_in : ∀ w ∈ wsX20, w ∈ lw_tbl := fun w h => (goodIn_p wsX20 [] rfl (by decide +kernel) w h).1
set_option maxRecDepth 20000 in
theorem wl_wsX50_in : ∀ w ∈ wsX50, w ∈ lw_tbl := fun w h => (goodIn_p wsX50 [] rfl (by decide +kernel) w h).1
set_option maxRecDepth 20000 in
theorem wl_wsX60_in : ∀ w ∈ wsX60, w ∈ lw_tbl := fun w h => (goodIn_p wsX60 [] rfl (by decide +kernel) w h).1
theorem wsL_law_in : ∀ w ∈ wsL_law, w ∈ lw_tbl := (List.forall_mem_append.mpr ⟨(List.forall_mem_append.mpr ⟨(List.forall_mem_append.mpr ⟨(List.forall_mem_append.mpr ⟨(List.forall_mem_append.mpr ⟨(List.forall_mem_append.mpr ⟨(List.forall_mem_append.mpr ⟨(List.forall_mem_append.mpr ⟨(List.forall_mem_append.mpr ⟨wl_r1_in, List.forall_mem_append.mpr ⟨wl_r2_in, List.forall_mem_append.mpr ⟨wl_r3_in, List.forall_mem_append.mpr ⟨wl_r4_in, List.forall_mem_append.mpr ⟨wl_r5_in, List.forall_mem_append.mpr ⟨wl_r6_in, List.forall_mem_append.mpr ⟨wl_r7_in, List.forall_mem_append.mpr ⟨wl_r8_in, List.forall_mem_append.mpr ⟨wl_r9_in, List.forall_mem_append.mpr ⟨wl_r10_in, List.forall_mem_append.mpr ⟨wl_r11_in, List.forall_mem_append.mpr ⟨wl_r12_in, List.forall_mem_append.mpr ⟨wl_r13_in, List.forall_mem_append.mpr ⟨wl_r14_in, List.forall_mem_append.mpr ⟨wl_r15_in, List.forall_mem_append.mpr ⟨wl_r16_in, List.forall_mem_append.mpr ⟨wl_r17_in, List.forall_mem_append.mpr ⟨wl_r18_in, List.forall_mem_append.mpr ⟨wl_r19_in, List.forall_mem_append.mpr ⟨wl_r20_in, List.forall_mem_append.mpr ⟨wl_r21_in, List.forall_mem_append.mpr ⟨wl_r22_in, List.forall_mem_append.mpr ⟨wl_r23_in, List.forall_mem_append.mpr ⟨wl_r24_in, List.forall_mem_append.mpr ⟨wl_r25_in, List.forall_mem_append.mpr ⟨wl_r26_in, List.forall_mem_append.mpr ⟨wl_r27_in, List.forall_mem_append.mpr ⟨wl_r28_in, List.forall_mem_append.mpr ⟨wl_r29_in, List.forall_mem_append.mpr ⟨wl_r30_in, List.forall_mem_append.mpr ⟨wl_r31_in, wl_r32_in⟩⟩⟩⟩⟩⟩⟩⟩⟩⟩⟩⟩⟩⟩⟩⟩⟩⟩⟩⟩⟩⟩⟩⟩⟩⟩⟩⟩⟩⟩⟩), wl_wsX70_in⟩), wl_wsX80_in⟩), wl_wsX30_in⟩), wl_wsX00_in⟩), wl_wsX20_in⟩), wl_wsX50_in⟩), wl_wsX60_in⟩), fun _ h => absurd h List.not_mem_nil⟩)
