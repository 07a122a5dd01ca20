set_option maxRecDepth 20000 in
theorem ggM_open_M_nothing : GoodIn wM_open wM_nothing := goodIn_q _ [6] (by decide +kernel) (by decide +kernel)
set_option maxRecDepth 20000 in
theorem gM_open_M_nothing_64 : GoodIn wM_open (va_wsS RM 64 yM_nothing wM_nothing) := goodIn_pp (goodIn_of _ (by decide +kernel)) ggM_open_M_nothing
theorem iM_quotient_M : ∀ w ∈ uM, w ∈ wM_quotient := by decide +kernel
set_option maxRecDepth 20000 in
theorem ggM_quotient_M_nothing : GoodIn wM_quotient wM_nothing := goodIn_q _ [9] (by decide +kernel) (by decide +kernel)
set_option maxRecDepth 20000 in
theorem gM_quotient_M_nothing_64 : GoodIn wM_quotient (va_wsS RM 64 yM_nothing wM_nothing) := goodIn_pp (goodIn_of _ (by decide +kernel)) ggM_quotient_M_nothing
set_option maxRecDepth 20000 in
theorem ggM_quotient_M_compareRows : GoodIn wM_quotient wM_compareRows := goodIn_q _ [10] (by decide +kernel) (by decide +kernel)
set_option maxRecDepth 20000 in
theorem gM_quotient_M_compareRows_72 : GoodIn wM_quotient (va_wsS RM 72 yM_compareRows wM_compareRows) := goodIn_pp (goodIn_of _ (by decide +kernel)) ggM_quotient_M_compareRows
theorem iM_join_M : ∀ w ∈ uM, w ∈ wM_join := by decide +kernel
set_option maxRecDepth 20000 in
theorem ggM_join_M_open : GoodIn wM_join wM_open := goodIn_q _ [15, 16, 17, 10, 18, 19, 20] (by decide +kernel) (by decide +kernel)
set_option maxRecDepth 20000 in
theorem gM_join_M_open_57 : GoodIn wM_join (va_wsS RM 57 yM_open wM_open) := goodIn_pp (goodIn_of _ (by decide +kernel)) ggM_join_M_open
set_option maxRecDepth 20000 in
theorem ggM_join_M_quotient : GoodIn wM_join wM_quotient := goodIn_q _ [21, 7, 22, 16, 17, 10, 23, 24, 25, 20, 26, 27, 28, 29, 30, 31, 32, 33, 34, 35, 36, 37, 38] (by decide +kernel) (by decide +kernel)
set_option maxRecDepth 20000 in
theorem gM_join_M_quotient_61 : GoodIn wM_join (wsV RM 61 RM yM_quotient wM_quotient) := goodIn_pp (goodIn_of _ (by decide +kernel)) ggM_join_M_quotient
theorem iM_init_M : ∀ w ∈ uM, w ∈ wM_init := by decide +kernel
set_option maxRecDepth 20000 in
theorem ggM_init_M_join : GoodIn wM_init wM_join := goodIn_q _ [24, 25, 5, 6, 8, 9, 11, 13, 26, 27, 23, 28, 29, 30, 12, 31, 32, 33, 34, 35, 36, 37, 14, 15, 38, 39, 40, 41, 42, 43, 44, 45, 46, 47, 48, 49, 50, 51, 52] (by decide +kernel) (by decide +kernel)
set_option maxRecDepth 20000 in
theorem gM_init_M_join_50 : GoodIn wM_init (wsV RM 50 RM yM_join wM_join) := goodIn_pp (goodIn_of _ (by decide +kernel)) ggM_init_M_join
theorem iM_scale_M : ∀ w ∈ uM, w ∈ wM_scale := by decide +kernel
set_option maxRecDepth 20000 in
theorem ggM_compactOf_M_bytes : GoodIn wM_compactOf wM_bytes := goodIn_q _ [6] (by decide +kernel) (by decide +kernel)
set_option maxRecDepth 20000 in
theorem gM_compactOf_M_bytes_78 : GoodIn wM_compactOf (va_wsS RM 78 yM_bytes wM_bytes) := goodIn_pp (goodIn_of _ (by decide +kernel)) ggM_compactOf_M_bytes
theorem iM_fault_M : ∀ w ∈ uM, w ∈ wM_fault := by decide +kernel
set_option maxRecDepth 20000 in
theorem ggM_fault_M_isBits : GoodIn wM_fault wM_isBits := goodIn_q _ [14, 15] (by decide +kernel) (by decide +kernel)
set_option maxRecDepth 20000 in
theorem gM_fault_M_isBits_84 : GoodIn wM_fault (va_wsS RM 84 yM_isBits wM_isBits) := goodIn_pp (goodIn_of _ (by decide +kernel)) ggM_fault_M_isBits
set_option maxRecDepth 20000 in
theorem ggM_fault_M_open : GoodIn wM_fault wM_open := goodIn_q _ [16, 17, 18, 3, 4, 19, 20] (by decide +kernel) (by decide +kernel)
set_option maxRecDepth 20000 in
theorem gM_fault_M_open_57 : GoodIn wM_fault (va_wsS RM 57 yM_open wM_open) := goodIn_pp (goodIn_of _ (by decide +kernel)) ggM_fault_M_open
set_option maxRecDepth 20000 in
theorem ggM_fault_M_compareRows : GoodIn wM_fault wM_compareRows := goodIn_q _ [21] (by decide +kernel) (by decide +kernel)
set_option maxRecDepth 20000 in
theorem gM_fault_M_compareRows_72 : GoodIn wM_fault (va_wsS RM 72 yM_compareRows wM_compareRows) := goodIn_pp (goodIn_of _ (by decide +kernel)) ggM_fault_M_compareRows
theorem iM_target_M : ∀ w ∈ uM, w ∈ wM_target := by decide +kernel
set_option maxRecDepth 20000 in
theorem ggM_target_M_fault : GoodIn wM_target wM_fault := goodIn_q _ [10, 11, 12, 4, 13, 14, 15, 5, 6, 7, 16, 17, 18, 19, 20, 21, 22, 23, 24, 25, 26, 27, 29, 30, 31, 32, 33, 34, 35, 36, 37, 38, 39, 40] (by decide +kernel) (by decide +kernel)
set_option maxRecDepth 20000 in
theorem gM_target_M_fault_90 : GoodIn wM_target (wsV RM 90 RM yM_fault wM_fault) := goodIn_pp (goodIn_of _ (by decide +kernel)) ggM_target_M_fault
set_option maxRecDepth 20000 in
theorem ggM_target_M_open : GoodIn wM_target wM_open := goodIn_q _ [22, 23, 24, 4, 13, 25, 26] (by decide +kernel) (by decide +kernel)
set_option maxRecDepth 20000 in
theorem gM_target_M_open_57 : GoodIn wM_target (va_wsS RM 57 yM_open wM_open) := goodIn_pp (goodIn_of _ (by decide +kernel)) ggM_target_M_open
set_option maxRecDepth 20000 in
theorem ggM_target_M_longOf : GoodIn wM_target wM_longOf := goodIn_q _ [28] (by decide +kernel) (by decide +kernel)
set_option maxRecDepth 20000 in
theorem gM_target_M_longOf_94 : GoodIn wM_target (va_wsS RM 94 yM_longOf wM_longOf) := goodIn_pp (goodIn_of _ (by decide +kernel)) ggM_target_M_longOf
theorem iM_compact_M : ∀ w ∈ uM, w ∈ wM_compact := by decide +kernel
set_option maxRecDepth 20000 in
theorem ggM_compact_M_nothing : GoodIn wM_compact wM_nothing := goodIn_q _ [8] (by decide +kernel) (by decide +kernel)
set_option maxRecDepth 20000 in
theorem gM_compact_M_nothing_64 : GoodIn wM_compact (va_wsS RM 64 yM_nothing wM_nothing) := goodIn_pp (goodIn_of _ (by decide +kernel)) ggM_compact_M_nothing
set_option maxRecDepth 20000 in
theorem ggM_compact_M_compactOf : GoodIn wM_compact wM_compactOf := goodIn_q _ [9, 10, 11, 4, 12, 13, 14] (by decide +kernel) (by decide +kernel)
set_option maxRecDepth 20000 in
theorem gM_compact_M_compactOf_98 : GoodIn wM_compact (va_wsS RM 98 yM_compactOf wM_compactOf) := goodIn_pp (goodIn_of _ (by decide +kernel)) ggM_compact_M_compactOf
theorem iM_isBlock_M : ∀ w ∈ uM, w ∈ wM_isBlock := by decide +kernel
theorem iM_below_M : ∀ w ∈ uM, w ∈ wM_below := by decide +kernel
set_option maxRecDepth 20000 in
theorem ggM_below_M_isBlock : GoodIn wM_below wM_isBlock := goodIn_q _ [7, 8, 9, 10, 11, 12, 13, 14, 15, 16, 17, 18, 19, 20] (by decide +kernel) (by decide +kernel)
set_option maxRecDepth 20000 in
theorem gM_below_M_isBlock_102 : GoodIn wM_below (wsV RM 102 RM yM_isBlock wM_isBlock) := goodIn_pp (goodIn_of _ (by decide +kernel)) ggM_below_M_isBlock
theorem iM_must_M : ∀ w ∈ uM, w ∈ wM_must := by decide +kernel
set_option maxRecDepth 20000 in
theorem ggM_must_M_isBlock : GoodIn wM_must wM_isBlock := goodIn_q _ [27, 28, 45, 46, 47, 48, 49, 50, 51, 52, 53, 54, 55, 56] (by decide +kernel) (by decide +kernel)
set_option maxRecDepth 20000 in
theorem gM_must_M_isBlock_102 : GoodIn wM_must (wsV RM 102 RM yM_isBlock wM_isBlock) := goodIn_pp (goodIn_of _ (by decide +kernel)) ggM_must_M_isBlock
set_option maxRecDepth 20000 in
theorem ggM_must_M_below : GoodIn wM_must wM_below := goodIn_q _ [29, 1, 2, 3, 4, 6, 30, 27, 28, 45, 46, 47, 48, 49, 50, 51, 52, 53, 54, 55, 56] (by decide +kernel) (by decide +kernel)
set_option maxRecDepth 20000 in
theorem gM_must_M_below_108 : GoodIn wM_must (wsV RM 108 RM yM_below wM_below) := goodIn_pp (goodIn_of _ (by decide +kernel)) ggM_must_M_below
set_option maxRecDepth 20000 in
theorem ggM_must_M_open : GoodIn wM_must wM_open := goodIn_q _ [31, 32, 33, 4, 34, 35, 36] (by decide +kernel) (by decide +kernel)
set_option maxRecDepth 20000 in
theorem gM_must_M_open_57 : GoodIn wM_must (va_wsS RM 57 yM_open wM_open) := goodIn_pp (goodIn_of _ (by decide +kernel)) ggM_must_M_open
set_option maxRecDepth 20000 in
theorem ggM_must_M_scale : GoodIn wM_must wM_scale := goodIn_q _ [37, 14, 38, 45, 46, 47, 48, 49, 50, 51, 52, 53, 54, 55, 56] (by decide +kernel) (by decide +kernel)
set_option maxRecDepth 20000 in
theorem gM_must_M_scale_118 : GoodIn wM_must (wsV RM 118 RM yM_scale wM_scale) := goodIn_pp (goodIn_of _ (by decide +kernel)) ggM_must_M_scale
set_option maxRecDepth 20000 in
theorem ggM_must_M_compareRows : GoodIn wM_must wM_compareRows := goodIn_q _ [39] (by decide +kernel) (by decide +kernel)
set_option maxRecDepth 20000 in
theorem gM_must_M_compareRows_72 : GoodIn wM_must (va_wsS RM 72 yM_compareRows wM_compareRows) := goodIn_pp (goodIn_of _ (by decide +kernel)) ggM_must_M_compareRows
set_option maxRecDepth 20000 in
theorem ggM_must_M_compactOf : GoodIn wM_must wM_compactOf := goodIn_q _ [40, 41, 42, 4, 38, 43, 44] (by decide +kernel) (by decide +kernel)
set_option maxRecDepth 20000 in
theorem gM_must_M_compactOf_98 : GoodIn wM_must (va_wsS RM 98 yM_compactOf wM_compactOf) := goodIn_pp (goodIn_of _ (by decide +kernel)) ggM_must_M_compactOf
theorem iM_median_M : ∀ w ∈ uM, w ∈ wM_median := by decide +kernel
set_option maxRecDepth 20000 in
theorem ggM_median_M_isBlock : GoodIn wM_median wM_isBlock := goodIn_q _ [9, 10, 11, 12, 13, 14, 15, 16, 17, 18, 19, 20, 21, 22] (by decide +kernel) (by decide +kernel)
set_option maxRecDepth 20000 in
theorem gM_median_M_isBlock_102 : GoodIn wM_median (wsV RM 102 RM yM_isBlock wM_isBlock) := goodIn_pp (goodIn_of _ (by decide +kernel)) ggM_median_M_isBlock
theorem iM_add_M : ∀ w ∈ uM, w ∈ wM_add := by decide +kernel
set_option maxRecDepth 20000 in
theorem ggM_add_M_isBlock : GoodIn wM_add wM_isBlock := goodIn_q _ [18, 13, 67, 68, 69, 70, 71, 72, 73, 74, 75, 76, 77, 78] (by decide +kernel) (by decide +kernel)
set_option maxRecDepth 20000 in
theorem gM_add_M_isBlock_102 : GoodIn wM_add (wsV RM 102 RM yM_isBlock wM_isBlock) := goodIn_pp (goodIn_of _ (by decide +kernel)) ggM_add_M_isBlock
set_option maxRecDepth 20000 in
theorem ggM_add_M_must : GoodIn wM_add wM_must := goodIn_q _ [19, 1, 2, 3, 4, 20, 21, 22, 23, 24, 25, 26, 27, 28, 29, 30, 31, 32, 33, 34, 35, 36, 37, 38, 39, 40, 41, 18, 13, 42, 43, 44, 45, 46, 47, 48, 49, 50, 51, 52, 53, 54, 55, 56, 57, 67, 68, 69, 70, 71, 72, 73, 74, 75, 76, 77, 78] (by decide +kernel) (by decide +kernel)
set_option maxRecDepth 20000 in
theorem gM_add_M_must_122 : GoodIn wM_add (wsV RM 122 RM yM_must wM_must) := goodIn_pp (goodIn_of _ (by decide +kernel)) ggM_add_M_must
set_option maxRecDepth 20000 in
theorem ggM_add_M_median : GoodIn wM_add wM_median := goodIn_q _ [58, 1, 2, 3, 4, 20, 59, 23, 43, 18, 13, 67, 68, 69, 70, 71, 72, 73, 74, 75, 76, 77, 78] (by decide +kernel) (by decide +kernel)
set_option maxRecDepth 20000 in
theorem gM_add_M_median_126 : GoodIn wM_add (wsV RM 126 RM yM_median wM_median) := goodIn_pp (goodIn_of _ (by decide +kernel)) ggM_add_M_median
set_option maxRecDepth 20000 in
theorem ggM_add_M_join : GoodIn wM_add wM_join := goodIn_q _ [60, 13, 43, 21, 23, 22, 5, 29, 30, 31, 4, 61, 62, 63, 64, 44, 45, 46, 47, 48, 49, 65, 37, 66, 38, 39, 52, 67, 68, 69, 70, 71, 72, 73, 74, 75, 76, 77, 78] (by decide +kernel) (by decide +kernel)
set_option maxRecDepth 20000 in
theorem gM_add_M_join_50 : GoodIn wM_add (wsV RM 50 RM yM_join wM_join) := goodIn_pp (goodIn_of _ (by decide +kernel)) ggM_add_M_join
theorem iM_spoil_M : ∀ w ∈ uM, w ∈ wM_spoil := by decide +kernel
set_option maxRecDepth 20000 in
theorem ggM_spoil_M_isBlock : GoodIn wM_spoil wM_isBlock := goodIn_q _ [11, 6, 14, 15, 16, 17, 18, 19, 20, 21, 22, 23, 24, 25] (by decide +kernel) (by decide +kernel)
set_option maxRecDepth 20000 in
theorem gM_spoil_M_isBlock_102 : GoodIn wM_spoil (wsV RM 102 RM yM_isBlock wM_isBlock) := goodIn_pp (goodIn_of _ (by decide +kernel)) ggM_spoil_M_isBlock
set_option maxRecDepth 20000 in
theorem ggM_spoil_M_below : GoodIn wM_spoil wM_below := goodIn_q _ [12, 1, 2, 3, 4, 7, 13, 11, 6, 14, 15, 16, 17, 18, 19, 20, 21, 22, 23, 24, 25] (by decide +kernel) (by decide +kernel)
set_option maxRecDepth 20000 in
theorem gM_spoil_M_below_108 : GoodIn wM_spoil (wsV RM 108 RM yM_below wM_below) := goodIn_pp (goodIn_of _ (by decide +kernel)) ggM_spoil_M_below
theorem iM_look_M : ∀ w ∈ uM, w ∈ wM_look := by decide +kernel
set_option maxRecDepth 20000 in
theorem ggM_look_M_isBlock : GoodIn wM_look wM_isBlock := goodIn_q _ [12, 6, 13, 14, 15, 16, 17, 18, 19, 20, 21, 22, 23, 24] (by decide +kernel) (by decide +kernel)
set_option maxRecDepth 20000 in
theorem gM_look_M_isBlock_102 : GoodIn wM_look (wsV RM 102 RM yM_isBlock wM_isBlock) := goodIn_pp (goodIn_of _ (by decide +kernel)) ggM_look_M_isBlock
theorem iM_work_M : ∀ w ∈ uM, w ∈ wM_work := by decide +kernel
set_option maxRecDepth 20000 in
theorem ggM_work_M_isBlock : GoodIn wM_work wM_isBlock := goodIn_q _ [8, 9, 11, 12, 13, 14, 15, 16, 17, 18, 19, 20, 21, 22] (by decide +kernel) (by decide +kernel)
set_option maxRecDepth 20000 in
theorem gM_work_M_isBlock_102 : GoodIn wM_work (wsV RM 102 RM yM_isBlock wM_isBlock) := goodIn_pp (goodIn_of _ (by decide +kernel)) ggM_work_M_isBlock
set_option maxRecDepth 20000 in
theorem ggM_work_M_longOf : GoodIn wM_work wM_longOf := goodIn_q _ [10] (by decide +kernel) (by decide +kernel)
set_option maxRecDepth 20000 in
theorem gM_work_M_longOf_94 : GoodIn wM_work (va_wsS RM 94 yM_longOf wM_longOf) := goodIn_pp (goodIn_of _ (by decide +kernel)) ggM_work_M_longOf
theorem iM_compare_M : ∀ w ∈ uM, w ∈ wM_compare := by decide +kernel
set_option maxRecDepth 20000 in
theorem ggM_compare_M_isBlock : GoodIn wM_compare wM_isBlock := goodIn_q _ [6, 7, 8, 9, 10, 11, 12, 13, 14, 15, 16, 17, 18, 19] (by decide +kernel) (by decide +kernel)
set_option maxRecDepth 20000 in
theorem gM_compare_M_isBlock_102 : GoodIn wM_compare (wsV RM 102 RM yM_isBlock wM_isBlock) := goodIn_pp (goodIn_of _ (by decide +kernel)) ggM_compare_M_isBlock
theorem iM_tip_M : ∀ w ∈ uM, w ∈ wM_tip := by decide +kernel
set_option maxRecDepth 20000 in
theorem ggM_tip_M_compare : GoodIn wM_tip wM_compare := goodIn_q _ [7, 8, 9, 10, 6, 11, 12, 1, 13, 14, 15, 16, 17, 18, 19, 20, 21, 22, 23, 24] (by decide +kernel) (by decide +kernel)
set_option maxRecDepth 20000 in
theorem gM_tip_M_compare_129 : GoodIn wM_tip (wsV RM 129 RM yM_compare wM_compare) := goodIn_pp (goodIn_of _ (by decide +kernel)) ggM_tip_M_compare
theorem iM_size_M : ∀ w ∈ uM, w ∈ wM_size := by decide +kernel
theorem iM_fork_M : ∀ w ∈ uM, w ∈ wM_fork := by decide +kernel
set_option maxRecDepth 20000 in
theorem ggM_fork_M_isBlock : GoodIn wM_fork wM_isBlock := goodIn_q _ [10, 11, 13, 14, 15, 16, 17, 18, 19, 20, 21, 22, 23, 24] (by decide +kernel) (by decide +kernel)
set_option maxRecDepth 20000 in
theorem gM_fork_M_isBlock_102 : GoodIn wM_fork (wsV RM 102 RM yM_isBlock wM_isBlock) := goodIn_pp (goodIn_of _ (by decide +kernel)) ggM_fork_M_isBlock
set_option maxRecDepth 20000 in
theorem ggM_fork_M_below : GoodIn wM_fork wM_below := goodIn_q _ [12, 1, 2, 3, 4, 5, 9, 10, 11, 13, 14, 15, 16, 17, 18, 19, 20, 21, 22, 23, 24] (by decide +kernel) (by decide +kernel)
set_option maxRecDepth 20000 in
theorem gM_fork_M_below_108 : GoodIn wM_fork (wsV RM 108 RM yM_below wM_below) := goodIn_pp (goodIn_of _ (by decide +kernel)) ggM_fork_M_below
theorem iM_row_M : ∀ w ∈ uM, w ∈ wM_row := by decide +kernel
set_option maxRecDepth 20000 in
theorem ggM_row_M_isBlock : GoodIn wM_row wM_isBlock := goodIn_q _ [9, 10, 13, 14, 15, 16, 17, 18, 19, 20, 21, 22, 23, 24] (by decide +kernel) (by decide +kernel)
set_option maxRecDepth 20000 in
theorem gM_row_M_isBlock_102 : GoodIn wM_row (wsV RM 102 RM yM_isBlock wM_isBlock) := goodIn_pp (goodIn_of _ (by decide +kernel)) ggM_row_M_isBlock
set_option maxRecDepth 20000 in
theorem ggM_row_M_below : GoodIn wM_row wM_below := goodIn_q _ [11, 1, 2, 3, 4, 5, 12, 9, 10, 13, 14, 15, 16, 17, 18, 19, 20, 21, 22, 23, 24] (by decide +kernel) (by decide +kernel)
set_option maxRecDepth 20000 in
theorem gM_row_M_below_108 : GoodIn wM_row (wsV RM 108 RM yM_below wM_below) := goodIn_pp (goodIn_of _ (by decide +kernel)) ggM_row_M_below
theorem dM_nothing_0 : decode cM_nothing 0 = .ok (.iconst 0, 1) := by decide +kernel
theorem dM_nothing_1 : decode cM_nothing 1 = .ok (.istore_n 1, 1) := by decide +kernel
theorem dM_nothing_2 : decode cM_nothing 2 = .ok (.iload_n 1, 1) := by decide +kernel
theorem dM_nothing_3 : decode cM_nothing 3 = .ok (.bipush 40, 2) := by decide +kernel
theorem dM_nothing_5 : decode cM_nothing 5 = .ok (.if_icmp .ge 13, 3) := by decide +kernel
theorem dM_nothing_8 : decode cM_nothing 8 = .ok (.aload_n 0, 1) := by decide +kernel
theorem dM_nothing_9 : decode cM_nothing 9 = .ok (.iload_n 1, 1) := by decide +kernel
theorem dM_nothing_10 : decode cM_nothing 10 = .ok (.iconst 0, 1) := by decide +kernel
theorem dM_nothing_11 : decode cM_nothing 11 = .ok (.iastore, 1) := by decide +kernel
theorem dM_nothing_12 : decode cM_nothing 12 = .ok (.iinc 1 1, 3) := by decide +kernel
theorem dM_nothing_15 : decode cM_nothing 15 = .ok (.goto (-13), 3) := by decide +kernel
theorem dM_nothing_18 : decode cM_nothing 18 = .ok (.return_, 1) := by decide +kernel
theorem dM_open_0 : decode cM_open 0 = .ok (.aload_n 2, 1) := by decide +kernel
theorem dM_open_1 : decode cM_open 1 = .ok (.invokestatic 64, 3) := by decide +kernel
theorem dM_open_4 : decode cM_open 4 = .ok (.lload_n 0, 1) := by decide +kernel
theorem dM_open_5 : decode cM_open 5 = .ok (.bipush 24, 2) := by decide +kernel
theorem dM_open_7 : decode cM_open 7 = .ok (.lshr, 1) := by decide +kernel
theorem dM_open_8 : decode cM_open 8 = .ok (.l2i, 1) := by decide +kernel
theorem dM_open_9 : decode cM_open 9 = .ok (.istore_n 3, 1) := by decide +kernel
theorem dM_open_10 : decode cM_open 10 = .ok (.lload_n 0, 1) := by decide +kernel
theorem dM_open_11 : decode cM_open 11 = .ok (.ldc2_w 68, 3) := by decide +kernel
theorem dM_open_14 : decode cM_open 14 = .ok (.land, 1) := by decide +kernel
theorem dM_open_15 : decode cM_open 15 = .ok (.lstore 4, 2) := by decide +kernel
theorem dM_open_17 : decode cM_open 17 = .ok (.iconst 0, 1) := by decide +kernel
theorem dM_open_18 : decode cM_open 18 = .ok (.istore 6, 2) := by decide +kernel
theorem dM_open_20 : decode cM_open 20 = .ok (.iload 6, 2) := by decide +kernel
theorem dM_open_22 : decode cM_open 22 = .ok (.iconst 3, 1) := by decide +kernel
theorem dM_open_23 : decode cM_open 23 = .ok (.if_icmp .ge 46, 3) := by decide +kernel
theorem dM_open_26 : decode cM_open 26 = .ok (.iload_n 3, 1) := by decide +kernel
theorem dM_open_27 : decode cM_open 27 = .ok (.iconst 3, 1) := by decide +kernel
theorem dM_open_28 : decode cM_open 28 = .ok (.isub, 1) := by decide +kernel
theorem dM_open_29 : decode cM_open 29 = .ok (.iload 6, 2) := by decide +kernel
theorem dM_open_31 : decode cM_open 31 = .ok (.iadd, 1) := by decide +kernel
theorem dM_open_32 : decode cM_open 32 = .ok (.istore 7, 2) := by decide +kernel
theorem dM_open_34 : decode cM_open 34 = .ok (.iload 7, 2) := by decide +kernel
theorem dM_open_36 : decode cM_open 36 = .ok (.ifCond .lt 27, 3) := by decide +kernel
theorem dM_open_39 : decode cM_open 39 = .ok (.iload 7, 2) := by decide +kernel
theorem dM_open_41 : decode cM_open 41 = .ok (.bipush 40, 2) := by decide +kernel
theorem dM_open_43 : decode cM_open 43 = .ok (.if_icmp .ge 20, 3) := by decide +kernel
theorem dM_open_46 : decode cM_open 46 = .ok (.aload_n 2, 1) := by decide +kernel
theorem dM_open_47 : decode cM_open 47 = .ok (.iload 7, 2) := by decide +kernel
theorem dM_open_49 : decode cM_open 49 = .ok (.lload 4, 2) := by decide +kernel
theorem dM_open_51 : decode cM_open 51 = .ok (.bipush 8, 2) := by decide +kernel
theorem dM_open_53 : decode cM_open 53 = .ok (.iload 6, 2) := by decide +kernel
theorem dM_open_55 : decode cM_open 55 = .ok (.imul, 1) := by decide +kernel
theorem dM_open_56 : decode cM_open 56 = .ok (.lshr, 1) := by decide +kernel
theorem dM_open_57 : decode cM_open 57 = .ok (.ldc2_w 70, 3) := by decide +kernel
theorem dM_open_60 : decode cM_open 60 = .ok (.land, 1) := by decide +kernel
theorem dM_open_61 : decode cM_open 61 = .ok (.l2i, 1) := by decide +kernel
theorem dM_open_62 : decode cM_open 62 = .ok (.iastore, 1) := by decide +kernel
theorem dM_open_63 : decode cM_open 63 = .ok (.iinc 6 1, 3) := by decide +kernel
theorem dM_open_66 : decode cM_open 66 = .ok (.goto (-46), 3) := by decide +kernel
theorem dM_open_69 : decode cM_open 69 = .ok (.return_, 1) := by decide +kernel
theorem dM_compareRows_0 : decode cM_compareRows 0 = .ok (.iconst 0, 1) := by decide +kernel
theorem dM_compareRows_1 : decode cM_compareRows 1 = .ok (.istore_n 2, 1) := by decide +kernel
theorem dM_compareRows_2 : decode cM_compareRows 2 = .ok (.iconst 0, 1) := by decide +kernel
theorem dM_compareRows_3 : decode cM_compareRows 3 = .ok (.istore_n 3, 1) := by decide +kernel
theorem dM_compareRows_4 : decode cM_compareRows 4 = .ok (.iload_n 3, 1) := by decide +kernel
theorem dM_compareRows_5 : decode cM_compareRows 5 = .ok (.bipush 40, 2) := by decide +kernel
theorem dM_compareRows_7 : decode cM_compareRows 7 = .ok (.if_icmp .ge 37, 3) := by decide +kernel
theorem dM_compareRows_10 : decode cM_compareRows 10 = .ok (.aload_n 0, 1) := by decide +kernel
theorem dM_compareRows_11 : decode cM_compareRows 11 = .ok (.iload_n 3, 1) := by decide +kernel
theorem dM_compareRows_12 : decode cM_compareRows 12 = .ok (.iaload, 1) := by decide +kernel
theorem dM_compareRows_13 : decode cM_compareRows 13 = .ok (.aload_n 1, 1) := by decide +kernel
theorem dM_compareRows_14 : decode cM_compareRows 14 = .ok (.iload_n 3, 1) := by decide +kernel
theorem dM_compareRows_15 : decode cM_compareRows 15 = .ok (.iaload, 1) := by decide +kernel
theorem dM_compareRows_16 : decode cM_compareRows 16 = .ok (.if_icmp .ge 7, 3) := by decide +kernel
theorem dM_compareRows_19 : decode cM_compareRows 19 = .ok (.iconst (-1), 1) := by decide +kernel
theorem dM_compareRows_20 : decode cM_compareRows 20 = .ok (.goto 17, 3) := by decide +kernel
theorem dM_compareRows_23 : decode cM_compareRows 23 = .ok (.aload_n 0, 1) := by decide +kernel
theorem dM_compareRows_24 : decode cM_compareRows 24 = .ok (.iload_n 3, 1) := by decide +kernel
theorem dM_compareRows_25 : decode cM_compareRows 25 = .ok (.iaload, 1) := by decide +kernel
theorem dM_compareRows_26 : decode cM_compareRows 26 = .ok (.aload_n 1, 1) := by decide +kernel
theorem dM_compareRows_27 : decode cM_compareRows 27 = .ok (.iload_n 3, 1) := by decide +kernel
theorem dM_compareRows_28 : decode cM_compareRows 28 = .ok (.iaload, 1) := by decide +kernel
theorem dM_compareRows_29 : decode cM_compareRows 29 = .ok (.if_icmp .le 7, 3) := by decide +kernel
theorem dM_compareRows_32 : decode cM_compareRows 32 = .ok (.iconst 1, 1) := by decide +kernel
theorem dM_compareRows_33 : decode cM_compareRows 33 = .ok (.goto 4, 3) := by decide +kernel
theorem dM_compareRows_36 : decode cM_compareRows 36 = .ok (.iload_n 2, 1) := by decide +kernel
theorem dM_compareRows_37 : decode cM_compareRows 37 = .ok (.istore_n 2, 1) := by decide +kernel
theorem dM_compareRows_38 : decode cM_compareRows 38 = .ok (.iinc 3 1, 3) := by decide +kernel
theorem dM_compareRows_41 : decode cM_compareRows 41 = .ok (.goto (-37), 3) := by decide +kernel
theorem dM_compareRows_44 : decode cM_compareRows 44 = .ok (.iload_n 2, 1) := by decide +kernel
theorem dM_compareRows_45 : decode cM_compareRows 45 = .ok (.ireturn, 1) := by decide +kernel
theorem dM_quotient_0 : decode cM_quotient 0 = .ok (.iconst 1, 1) := by decide +kernel
theorem dM_quotient_1 : decode cM_quotient 1 = .ok (.istore_n 1, 1) := by decide +kernel
theorem dM_quotient_2 : decode cM_quotient 2 = .ok (.iconst 0, 1) := by decide +kernel
theorem dM_quotient_3 : decode cM_quotient 3 = .ok (.istore_n 2, 1) := by decide +kernel
theorem dM_quotient_4 : decode cM_quotient 4 = .ok (.iload_n 2, 1) := by decide +kernel
theorem dM_quotient_5 : decode cM_quotient 5 = .ok (.bipush 40, 2) := by decide +kernel
theorem dM_quotient_7 : decode cM_quotient 7 = .ok (.if_icmp .ge 35, 3) := by decide +kernel
theorem dM_quotient_10 : decode cM_quotient 10 = .ok (.aload_n 0, 1) := by decide +kernel
theorem dM_quotient_11 : decode cM_quotient 11 = .ok (.getfield 30, 3) := by decide +kernel
theorem dM_quotient_14 : decode cM_quotient 14 = .ok (.iload_n 2, 1) := by decide +kernel
theorem dM_quotient_15 : decode cM_quotient 15 = .ok (.iaload, 1) := by decide +kernel
theorem dM_quotient_16 : decode cM_quotient 16 = .ok (.iload_n 1, 1) := by decide +kernel
theorem dM_quotient_17 : decode cM_quotient 17 = .ok (.iadd, 1) := by decide +kernel
theorem dM_quotient_18 : decode cM_quotient 18 = .ok (.istore_n 3, 1) := by decide +kernel
theorem dM_quotient_19 : decode cM_quotient 19 = .ok (.aload_n 0, 1) := by decide +kernel
theorem dM_quotient_20 : decode cM_quotient 20 = .ok (.getfield 33, 3) := by decide +kernel
theorem dM_quotient_23 : decode cM_quotient 23 = .ok (.iload_n 2, 1) := by decide +kernel
theorem dM_quotient_24 : decode cM_quotient 24 = .ok (.iload_n 3, 1) := by decide +kernel
theorem dM_quotient_25 : decode cM_quotient 25 = .ok (.sipush 256, 3) := by decide +kernel
theorem dM_quotient_28 : decode cM_quotient 28 = .ok (.irem, 1) := by decide +kernel
theorem dM_quotient_29 : decode cM_quotient 29 = .ok (.iastore, 1) := by decide +kernel
theorem dM_quotient_30 : decode cM_quotient 30 = .ok (.iload_n 3, 1) := by decide +kernel
theorem dM_quotient_31 : decode cM_quotient 31 = .ok (.sipush 256, 3) := by decide +kernel
theorem dM_quotient_34 : decode cM_quotient 34 = .ok (.idiv, 1) := by decide +kernel
theorem dM_quotient_35 : decode cM_quotient 35 = .ok (.istore_n 1, 1) := by decide +kernel
theorem dM_quotient_36 : decode cM_quotient 36 = .ok (.iinc 2 1, 3) := by decide +kernel
theorem dM_quotient_39 : decode cM_quotient 39 = .ok (.goto (-35), 3) := by decide +kernel
theorem dM_quotient_42 : decode cM_quotient 42 = .ok (.aload_n 0, 1) := by decide +kernel
theorem dM_quotient_43 : decode cM_quotient 43 = .ok (.getfield 30, 3) := by decide +kernel
theorem dM_quotient_46 : decode cM_quotient 46 = .ok (.invokestatic 64, 3) := by decide +kernel
theorem dM_quotient_49 : decode cM_quotient 49 = .ok (.aload_n 0, 1) := by decide +kernel
theorem dM_quotient_50 : decode cM_quotient 50 = .ok (.getfield 36, 3) := by decide +kernel
theorem dM_quotient_53 : decode cM_quotient 53 = .ok (.invokestatic 64, 3) := by decide +kernel
theorem dM_quotient_56 : decode cM_quotient 56 = .ok (.sipush 256, 3) := by decide +kernel
theorem dM_quotient_59 : decode cM_quotient 59 = .ok (.istore_n 2, 1) := by decide +kernel
theorem dM_quotient_60 : decode cM_quotient 60 = .ok (.iload_n 2, 1) := by decide +kernel
theorem dM_quotient_61 : decode cM_quotient 61 = .ok (.ifCond .lt 184, 3) := by decide +kernel
theorem dM_quotient_64 : decode cM_quotient 64 = .ok (.iload_n 2, 1) := by decide +kernel
theorem dM_quotient_65 : decode cM_quotient 65 = .ok (.sipush 256, 3) := by decide +kernel
theorem dM_quotient_68 : decode cM_quotient 68 = .ok (.if_icmp .ne 7, 3) := by decide +kernel
theorem dM_quotient_71 : decode cM_quotient 71 = .ok (.iconst 1, 1) := by decide +kernel
theorem dM_quotient_72 : decode cM_quotient 72 = .ok (.goto 4, 3) := by decide +kernel
theorem dM_quotient_75 : decode cM_quotient 75 = .ok (.iconst 0, 1) := by decide +kernel
theorem dM_quotient_76 : decode cM_quotient 76 = .ok (.istore_n 3, 1) := by decide +kernel
theorem dM_quotient_77 : decode cM_quotient 77 = .ok (.iconst 0, 1) := by decide +kernel
theorem dM_quotient_78 : decode cM_quotient 78 = .ok (.istore 4, 2) := by decide +kernel
theorem dM_quotient_80 : decode cM_quotient 80 = .ok (.iload 4, 2) := by decide +kernel
theorem dM_quotient_82 : decode cM_quotient 82 = .ok (.bipush 40, 2) := by decide +kernel
theorem dM_quotient_84 : decode cM_quotient 84 = .ok (.if_icmp .ge 42, 3) := by decide +kernel
theorem dM_quotient_87 : decode cM_quotient 87 = .ok (.iconst 2, 1) := by decide +kernel
theorem dM_quotient_88 : decode cM_quotient 88 = .ok (.aload_n 0, 1) := by decide +kernel
theorem dM_quotient_89 : decode cM_quotient 89 = .ok (.getfield 36, 3) := by decide +kernel
theorem dM_quotient_92 : decode cM_quotient 92 = .ok (.iload 4, 2) := by decide +kernel
theorem dM_quotient_94 : decode cM_quotient 94 = .ok (.iaload, 1) := by decide +kernel
theorem dM_quotient_95 : decode cM_quotient 95 = .ok (.imul, 1) := by decide +kernel
theorem dM_quotient_96 : decode cM_quotient 96 = .ok (.iload_n 3, 1) := by decide +kernel
theorem dM_quotient_97 : decode cM_quotient 97 = .ok (.iadd, 1) := by decide +kernel
theorem dM_quotient_98 : decode cM_quotient 98 = .ok (.istore 5, 2) := by decide +kernel
theorem dM_quotient_100 : decode cM_quotient 100 = .ok (.aload_n 0, 1) := by decide +kernel
theorem dM_quotient_101 : decode cM_quotient 101 = .ok (.getfield 36, 3) := by decide +kernel
theorem dM_quotient_104 : decode cM_quotient 104 = .ok (.iload 4, 2) := by decide +kernel
theorem dM_quotient_106 : decode cM_quotient 106 = .ok (.iload 5, 2) := by decide +kernel
theorem dM_quotient_108 : decode cM_quotient 108 = .ok (.sipush 256, 3) := by decide +kernel
theorem dM_quotient_111 : decode cM_quotient 111 = .ok (.irem, 1) := by decide +kernel
theorem dM_quotient_112 : decode cM_quotient 112 = .ok (.iastore, 1) := by decide +kernel
theorem dM_quotient_113 : decode cM_quotient 113 = .ok (.iload 5, 2) := by decide +kernel
theorem dM_quotient_115 : decode cM_quotient 115 = .ok (.sipush 256, 3) := by decide +kernel
theorem dM_quotient_118 : decode cM_quotient 118 = .ok (.idiv, 1) := by decide +kernel
theorem dM_quotient_119 : decode cM_quotient 119 = .ok (.istore_n 3, 1) := by decide +kernel
theorem dM_quotient_120 : decode cM_quotient 120 = .ok (.iinc 4 1, 3) := by decide +kernel
theorem dM_quotient_123 : decode cM_quotient 123 = .ok (.goto (-43), 3) := by decide +kernel
theorem dM_quotient_126 : decode cM_quotient 126 = .ok (.aload_n 0, 1) := by decide +kernel
theorem dM_quotient_127 : decode cM_quotient 127 = .ok (.getfield 36, 3) := by decide +kernel
theorem dM_quotient_130 : decode cM_quotient 130 = .ok (.aload_n 0, 1) := by decide +kernel
theorem dM_quotient_131 : decode cM_quotient 131 = .ok (.getfield 33, 3) := by decide +kernel
theorem dM_quotient_134 : decode cM_quotient 134 = .ok (.invokestatic 72, 3) := by decide +kernel
theorem dM_quotient_137 : decode cM_quotient 137 = .ok (.ifCond .lt 102, 3) := by decide +kernel
theorem dM_quotient_140 : decode cM_quotient 140 = .ok (.iconst 0, 1) := by decide +kernel
theorem dM_quotient_141 : decode cM_quotient 141 = .ok (.istore 4, 2) := by decide +kernel
theorem dM_quotient_143 : decode cM_quotient 143 = .ok (.iconst 0, 1) := by decide +kernel
theorem dM_quotient_144 : decode cM_quotient 144 = .ok (.istore 5, 2) := by decide +kernel
theorem dM_quotient_146 : decode cM_quotient 146 = .ok (.iload 5, 2) := by decide +kernel
theorem dM_quotient_148 : decode cM_quotient 148 = .ok (.bipush 40, 2) := by decide +kernel
theorem dM_quotient_150 : decode cM_quotient 150 = .ok (.if_icmp .ge 64, 3) := by decide +kernel
theorem dM_quotient_153 : decode cM_quotient 153 = .ok (.aload_n 0, 1) := by decide +kernel
theorem dM_quotient_154 : decode cM_quotient 154 = .ok (.getfield 36, 3) := by decide +kernel
theorem dM_quotient_157 : decode cM_quotient 157 = .ok (.iload 5, 2) := by decide +kernel
theorem dM_quotient_159 : decode cM_quotient 159 = .ok (.iaload, 1) := by decide +kernel
theorem dM_quotient_160 : decode cM_quotient 160 = .ok (.aload_n 0, 1) := by decide +kernel
theorem dM_quotient_161 : decode cM_quotient 161 = .ok (.getfield 33, 3) := by decide +kernel
theorem dM_quotient_164 : decode cM_quotient 164 = .ok (.iload 5, 2) := by decide +kernel
theorem dM_quotient_166 : decode cM_quotient 166 = .ok (.iaload, 1) := by decide +kernel
theorem dM_quotient_167 : decode cM_quotient 167 = .ok (.isub, 1) := by decide +kernel
theorem dM_quotient_168 : decode cM_quotient 168 = .ok (.iload 4, 2) := by decide +kernel
theorem dM_quotient_170 : decode cM_quotient 170 = .ok (.isub, 1) := by decide +kernel
theorem dM_quotient_171 : decode cM_quotient 171 = .ok (.istore 6, 2) := by decide +kernel
theorem dM_quotient_173 : decode cM_quotient 173 = .ok (.aload_n 0, 1) := by decide +kernel
theorem dM_quotient_174 : decode cM_quotient 174 = .ok (.getfield 36, 3) := by decide +kernel
theorem dM_quotient_177 : decode cM_quotient 177 = .ok (.iload 5, 2) := by decide +kernel
theorem dM_quotient_179 : decode cM_quotient 179 = .ok (.iload 6, 2) := by decide +kernel
theorem dM_quotient_181 : decode cM_quotient 181 = .ok (.ifCond .ge 12, 3) := by decide +kernel
theorem dM_quotient_184 : decode cM_quotient 184 = .ok (.iload 6, 2) := by decide +kernel
theorem dM_quotient_186 : decode cM_quotient 186 = .ok (.sipush 256, 3) := by decide +kernel
theorem dM_quotient_189 : decode cM_quotient 189 = .ok (.iadd, 1) := by decide +kernel
theorem dM_quotient_190 : decode cM_quotient 190 = .ok (.goto 5, 3) := by decide +kernel
theorem dM_quotient_193 : decode cM_quotient 193 = .ok (.iload 6, 2) := by decide +kernel
theorem dM_quotient_195 : decode cM_quotient 195 = .ok (.iastore, 1) := by decide +kernel
theorem dM_quotient_196 : decode cM_quotient 196 = .ok (.iload 6, 2) := by decide +kernel
theorem dM_quotient_198 : decode cM_quotient 198 = .ok (.ifCond .ge 7, 3) := by decide +kernel
theorem dM_quotient_201 : decode cM_quotient 201 = .ok (.iconst 1, 1) := by decide +kernel
theorem dM_quotient_202 : decode cM_quotient 202 = .ok (.goto 4, 3) := by decide +kernel
theorem dM_quotient_205 : decode cM_quotient 205 = .ok (.iconst 0, 1) := by decide +kernel
theorem dM_quotient_206 : decode cM_quotient 206 = .ok (.istore 4, 2) := by decide +kernel
theorem dM_quotient_208 : decode cM_quotient 208 = .ok (.iinc 5 1, 3) := by decide +kernel
theorem dM_quotient_211 : decode cM_quotient 211 = .ok (.goto (-65), 3) := by decide +kernel
theorem dM_quotient_214 : decode cM_quotient 214 = .ok (.aload_n 0, 1) := by decide +kernel
theorem dM_quotient_215 : decode cM_quotient 215 = .ok (.getfield 30, 3) := by decide +kernel
theorem dM_quotient_218 : decode cM_quotient 218 = .ok (.iload_n 2, 1) := by decide +kernel
theorem dM_quotient_219 : decode cM_quotient 219 = .ok (.bipush 8, 2) := by decide +kernel
theorem dM_quotient_221 : decode cM_quotient 221 = .ok (.idiv, 1) := by decide +kernel
theorem dM_quotient_222 : decode cM_quotient 222 = .ok (.aload_n 0, 1) := by decide +kernel
theorem dM_quotient_223 : decode cM_quotient 223 = .ok (.getfield 30, 3) := by decide +kernel
theorem dM_quotient_226 : decode cM_quotient 226 = .ok (.iload_n 2, 1) := by decide +kernel
theorem dM_quotient_227 : decode cM_quotient 227 = .ok (.bipush 8, 2) := by decide +kernel
theorem dM_quotient_229 : decode cM_quotient 229 = .ok (.idiv, 1) := by decide +kernel
theorem dM_quotient_230 : decode cM_quotient 230 = .ok (.iaload, 1) := by decide +kernel
theorem dM_quotient_231 : decode cM_quotient 231 = .ok (.iconst 1, 1) := by decide +kernel
theorem dM_quotient_232 : decode cM_quotient 232 = .ok (.iload_n 2, 1) := by decide +kernel
theorem dM_quotient_233 : decode cM_quotient 233 = .ok (.bipush 8, 2) := by decide +kernel
theorem dM_quotient_235 : decode cM_quotient 235 = .ok (.irem, 1) := by decide +kernel
theorem dM_quotient_236 : decode cM_quotient 236 = .ok (.ishl, 1) := by decide +kernel
theorem dM_quotient_237 : decode cM_quotient 237 = .ok (.iadd, 1) := by decide +kernel
theorem dM_quotient_238 : decode cM_quotient 238 = .ok (.iastore, 1) := by decide +kernel
theorem dM_quotient_239 : decode cM_quotient 239 = .ok (.iinc 2 (-1), 3) := by decide +kernel
theorem dM_quotient_242 : decode cM_quotient 242 = .ok (.goto (-182), 3) := by decide +kernel
theorem dM_quotient_245 : decode cM_quotient 245 = .ok (.return_, 1) := by decide +kernel
theorem dM_join_0 : decode cM_join 0 = .ok (.aload_n 0, 1) := by decide +kernel
theorem dM_join_1 : decode cM_join 1 = .ok (.getfield 54, 3) := by decide +kernel
theorem dM_join_4 : decode cM_join 4 = .ok (.istore 6, 2) := by decide +kernel
theorem dM_join_6 : decode cM_join 6 = .ok (.aload_n 0, 1) := by decide +kernel
theorem dM_join_7 : decode cM_join 7 = .ok (.getfield 7, 3) := by decide +kernel
theorem dM_join_10 : decode cM_join 10 = .ok (.iload 6, 2) := by decide +kernel
theorem dM_join_12 : decode cM_join 12 = .ok (.iload_n 1, 1) := by decide +kernel
theorem dM_join_13 : decode cM_join 13 = .ok (.iastore, 1) := by decide +kernel
theorem dM_join_14 : decode cM_join 14 = .ok (.aload_n 0, 1) := by decide +kernel
theorem dM_join_15 : decode cM_join 15 = .ok (.getfield 13, 3) := by decide +kernel
theorem dM_join_18 : decode cM_join 18 = .ok (.iload 6, 2) := by decide +kernel
theorem dM_join_20 : decode cM_join 20 = .ok (.iload_n 1, 1) := by decide +kernel
theorem dM_join_21 : decode cM_join 21 = .ok (.ifCond .ge 7, 3) := by decide +kernel
theorem dM_join_24 : decode cM_join 24 = .ok (.iconst 0, 1) := by decide +kernel
theorem dM_join_25 : decode cM_join 25 = .ok (.goto 11, 3) := by decide +kernel
theorem dM_join_28 : decode cM_join 28 = .ok (.aload_n 0, 1) := by decide +kernel
theorem dM_join_29 : decode cM_join 29 = .ok (.getfield 13, 3) := by decide +kernel
theorem dM_join_32 : decode cM_join 32 = .ok (.iload_n 1, 1) := by decide +kernel
theorem dM_join_33 : decode cM_join 33 = .ok (.iaload, 1) := by decide +kernel
theorem dM_join_34 : decode cM_join 34 = .ok (.iconst 1, 1) := by decide +kernel
theorem dM_join_35 : decode cM_join 35 = .ok (.iadd, 1) := by decide +kernel
theorem dM_join_36 : decode cM_join 36 = .ok (.iastore, 1) := by decide +kernel
theorem dM_join_37 : decode cM_join 37 = .ok (.aload_n 0, 1) := by decide +kernel
theorem dM_join_38 : decode cM_join 38 = .ok (.getfield 16, 3) := by decide +kernel
theorem dM_join_41 : decode cM_join 41 = .ok (.iload 6, 2) := by decide +kernel
theorem dM_join_43 : decode cM_join 43 = .ok (.lload_n 2, 1) := by decide +kernel
theorem dM_join_44 : decode cM_join 44 = .ok (.lastore, 1) := by decide +kernel
theorem dM_join_45 : decode cM_join 45 = .ok (.aload_n 0, 1) := by decide +kernel
theorem dM_join_46 : decode cM_join 46 = .ok (.getfield 20, 3) := by decide +kernel
theorem dM_join_49 : decode cM_join 49 = .ok (.iload 6, 2) := by decide +kernel
theorem dM_join_51 : decode cM_join 51 = .ok (.lload 4, 2) := by decide +kernel
theorem dM_join_53 : decode cM_join 53 = .ok (.lastore, 1) := by decide +kernel
theorem dM_join_54 : decode cM_join 54 = .ok (.aload_n 0, 1) := by decide +kernel
theorem dM_join_55 : decode cM_join 55 = .ok (.getfield 23, 3) := by decide +kernel
theorem dM_join_58 : decode cM_join 58 = .ok (.iload 6, 2) := by decide +kernel
theorem dM_join_60 : decode cM_join 60 = .ok (.iconst 0, 1) := by decide +kernel
theorem dM_join_61 : decode cM_join 61 = .ok (.bastore, 1) := by decide +kernel
theorem dM_join_62 : decode cM_join 62 = .ok (.aload_n 0, 1) := by decide +kernel
theorem dM_join_63 : decode cM_join 63 = .ok (.dup, 1) := by decide +kernel
theorem dM_join_64 : decode cM_join 64 = .ok (.getfield 54, 3) := by decide +kernel
theorem dM_join_67 : decode cM_join 67 = .ok (.iconst 1, 1) := by decide +kernel
theorem dM_join_68 : decode cM_join 68 = .ok (.iadd, 1) := by decide +kernel
theorem dM_join_69 : decode cM_join 69 = .ok (.putfield 54, 3) := by decide +kernel
theorem dM_join_72 : decode cM_join 72 = .ok (.lload 4, 2) := by decide +kernel
theorem dM_join_74 : decode cM_join 74 = .ok (.aload_n 0, 1) := by decide +kernel
theorem dM_join_75 : decode cM_join 75 = .ok (.getfield 30, 3) := by decide +kernel
theorem dM_join_78 : decode cM_join 78 = .ok (.invokestatic 57, 3) := by decide +kernel
theorem dM_join_81 : decode cM_join 81 = .ok (.aload_n 0, 1) := by decide +kernel
theorem dM_join_82 : decode cM_join 82 = .ok (.invokevirtual 61, 3) := by decide +kernel
theorem dM_join_85 : decode cM_join 85 = .ok (.iconst 0, 1) := by decide +kernel
theorem dM_join_86 : decode cM_join 86 = .ok (.istore 7, 2) := by decide +kernel
theorem dM_join_88 : decode cM_join 88 = .ok (.iconst 0, 1) := by decide +kernel
theorem dM_join_89 : decode cM_join 89 = .ok (.istore 8, 2) := by decide +kernel
theorem dM_join_91 : decode cM_join 91 = .ok (.iload 8, 2) := by decide +kernel
theorem dM_join_93 : decode cM_join 93 = .ok (.bipush 40, 2) := by decide +kernel
theorem dM_join_95 : decode cM_join 95 = .ok (.if_icmp .ge 69, 3) := by decide +kernel
theorem dM_join_98 : decode cM_join 98 = .ok (.aload_n 0, 1) := by decide +kernel
theorem dM_join_99 : decode cM_join 99 = .ok (.getfield 30, 3) := by decide +kernel
theorem dM_join_102 : decode cM_join 102 = .ok (.iload 8, 2) := by decide +kernel
theorem dM_join_104 : decode cM_join 104 = .ok (.iaload, 1) := by decide +kernel
theorem dM_join_105 : decode cM_join 105 = .ok (.iload_n 1, 1) := by decide +kernel
theorem dM_join_106 : decode cM_join 106 = .ok (.ifCond .ge 7, 3) := by decide +kernel
theorem dM_join_109 : decode cM_join 109 = .ok (.iconst 0, 1) := by decide +kernel
theorem dM_join_110 : decode cM_join 110 = .ok (.goto 15, 3) := by decide +kernel
theorem dM_join_113 : decode cM_join 113 = .ok (.aload_n 0, 1) := by decide +kernel
theorem dM_join_114 : decode cM_join 114 = .ok (.getfield 27, 3) := by decide +kernel
theorem dM_join_117 : decode cM_join 117 = .ok (.bipush 40, 2) := by decide +kernel
theorem dM_join_119 : decode cM_join 119 = .ok (.iload_n 1, 1) := by decide +kernel
theorem dM_join_120 : decode cM_join 120 = .ok (.imul, 1) := by decide +kernel
theorem dM_join_121 : decode cM_join 121 = .ok (.iload 8, 2) := by decide +kernel
theorem dM_join_123 : decode cM_join 123 = .ok (.iadd, 1) := by decide +kernel
theorem dM_join_124 : decode cM_join 124 = .ok (.iaload, 1) := by decide +kernel
theorem dM_join_125 : decode cM_join 125 = .ok (.iadd, 1) := by decide +kernel
theorem dM_join_126 : decode cM_join 126 = .ok (.iload 7, 2) := by decide +kernel
theorem dM_join_128 : decode cM_join 128 = .ok (.iadd, 1) := by decide +kernel
theorem dM_join_129 : decode cM_join 129 = .ok (.istore 9, 2) := by decide +kernel
theorem dM_join_131 : decode cM_join 131 = .ok (.aload_n 0, 1) := by decide +kernel
theorem dM_join_132 : decode cM_join 132 = .ok (.getfield 27, 3) := by decide +kernel
theorem dM_join_135 : decode cM_join 135 = .ok (.bipush 40, 2) := by decide +kernel
theorem dM_join_137 : decode cM_join 137 = .ok (.iload 6, 2) := by decide +kernel
theorem dM_join_139 : decode cM_join 139 = .ok (.imul, 1) := by decide +kernel
theorem dM_join_140 : decode cM_join 140 = .ok (.iload 8, 2) := by decide +kernel
theorem dM_join_142 : decode cM_join 142 = .ok (.iadd, 1) := by decide +kernel
theorem dM_join_143 : decode cM_join 143 = .ok (.iload 9, 2) := by decide +kernel
theorem dM_join_145 : decode cM_join 145 = .ok (.sipush 256, 3) := by decide +kernel
theorem dM_join_148 : decode cM_join 148 = .ok (.irem, 1) := by decide +kernel
theorem dM_join_149 : decode cM_join 149 = .ok (.iastore, 1) := by decide +kernel
theorem dM_join_150 : decode cM_join 150 = .ok (.iload 9, 2) := by decide +kernel
theorem dM_join_152 : decode cM_join 152 = .ok (.sipush 256, 3) := by decide +kernel
theorem dM_join_155 : decode cM_join 155 = .ok (.idiv, 1) := by decide +kernel
theorem dM_join_156 : decode cM_join 156 = .ok (.istore 7, 2) := by decide +kernel
theorem dM_join_158 : decode cM_join 158 = .ok (.iinc 8 1, 3) := by decide +kernel
theorem dM_join_161 : decode cM_join 161 = .ok (.goto (-70), 3) := by decide +kernel
theorem dM_join_164 : decode cM_join 164 = .ok (.return_, 1) := by decide +kernel
theorem dM_init_0 : decode cM_init 0 = .ok (.aload_n 0, 1) := by decide +kernel
theorem dM_init_1 : decode cM_init 1 = .ok (.invokespecial 1, 3) := by decide +kernel
theorem dM_init_4 : decode cM_init 4 = .ok (.aload_n 0, 1) := by decide +kernel
theorem dM_init_5 : decode cM_init 5 = .ok (.sipush 300, 3) := by decide +kernel
theorem dM_init_8 : decode cM_init 8 = .ok (.newarray .int, 2) := by decide +kernel
theorem dM_init_10 : decode cM_init 10 = .ok (.putfield 7, 3) := by decide +kernel
theorem dM_init_13 : decode cM_init 13 = .ok (.aload_n 0, 1) := by decide +kernel
theorem dM_init_14 : decode cM_init 14 = .ok (.sipush 300, 3) := by decide +kernel
theorem dM_init_17 : decode cM_init 17 = .ok (.newarray .int, 2) := by decide +kernel
theorem dM_init_19 : decode cM_init 19 = .ok (.putfield 13, 3) := by decide +kernel
theorem dM_init_22 : decode cM_init 22 = .ok (.aload_n 0, 1) := by decide +kernel
theorem dM_init_23 : decode cM_init 23 = .ok (.sipush 300, 3) := by decide +kernel
theorem dM_init_26 : decode cM_init 26 = .ok (.newarray .long, 2) := by decide +kernel
theorem dM_init_28 : decode cM_init 28 = .ok (.putfield 16, 3) := by decide +kernel
theorem dM_init_31 : decode cM_init 31 = .ok (.aload_n 0, 1) := by decide +kernel
theorem dM_init_32 : decode cM_init 32 = .ok (.sipush 300, 3) := by decide +kernel
theorem dM_init_35 : decode cM_init 35 = .ok (.newarray .long, 2) := by decide +kernel
theorem dM_init_37 : decode cM_init 37 = .ok (.putfield 20, 3) := by decide +kernel
theorem dM_init_40 : decode cM_init 40 = .ok (.aload_n 0, 1) := by decide +kernel
theorem dM_init_41 : decode cM_init 41 = .ok (.sipush 300, 3) := by decide +kernel
theorem dM_init_44 : decode cM_init 44 = .ok (.newarray .boolean, 2) := by decide +kernel
theorem dM_init_46 : decode cM_init 46 = .ok (.putfield 23, 3) := by decide +kernel
theorem dM_init_49 : decode cM_init 49 = .ok (.aload_n 0, 1) := by decide +kernel
theorem dM_init_50 : decode cM_init 50 = .ok (.sipush 12000, 3) := by decide +kernel
theorem dM_init_53 : decode cM_init 53 = .ok (.newarray .int, 2) := by decide +kernel
theorem dM_init_55 : decode cM_init 55 = .ok (.putfield 27, 3) := by decide +kernel
theorem dM_init_58 : decode cM_init 58 = .ok (.aload_n 0, 1) := by decide +kernel
theorem dM_init_59 : decode cM_init 59 = .ok (.bipush 40, 2) := by decide +kernel
theorem dM_init_61 : decode cM_init 61 = .ok (.newarray .int, 2) := by decide +kernel
theorem dM_init_63 : decode cM_init 63 = .ok (.putfield 30, 3) := by decide +kernel
theorem dM_init_66 : decode cM_init 66 = .ok (.aload_n 0, 1) := by decide +kernel
theorem dM_init_67 : decode cM_init 67 = .ok (.bipush 40, 2) := by decide +kernel
theorem dM_init_69 : decode cM_init 69 = .ok (.newarray .int, 2) := by decide +kernel
theorem dM_init_71 : decode cM_init 71 = .ok (.putfield 33, 3) := by decide +kernel
theorem dM_init_74 : decode cM_init 74 = .ok (.aload_n 0, 1) := by decide +kernel
theorem dM_init_75 : decode cM_init 75 = .ok (.bipush 40, 2) := by decide +kernel
theorem dM_init_77 : decode cM_init 77 = .ok (.newarray .int, 2) := by decide +kernel
theorem dM_init_79 : decode cM_init 79 = .ok (.putfield 36, 3) := by decide +kernel
theorem dM_init_82 : decode cM_init 82 = .ok (.aload_n 0, 1) := by decide +kernel
theorem dM_init_83 : decode cM_init 83 = .ok (.bipush 11, 2) := by decide +kernel
theorem dM_init_85 : decode cM_init 85 = .ok (.newarray .long, 2) := by decide +kernel
theorem dM_init_87 : decode cM_init 87 = .ok (.putfield 39, 3) := by decide +kernel
theorem dM_init_90 : decode cM_init 90 = .ok (.aload_n 0, 1) := by decide +kernel
theorem dM_init_91 : decode cM_init 91 = .ok (.iload_n 1, 1) := by decide +kernel
theorem dM_init_92 : decode cM_init 92 = .ok (.iconst 2, 1) := by decide +kernel
theorem dM_init_93 : decode cM_init 93 = .ok (.if_icmp .lt 14, 3) := by decide +kernel
theorem dM_init_96 : decode cM_init 96 = .ok (.iload_n 1, 1) := by decide +kernel
theorem dM_init_97 : decode cM_init 97 = .ok (.sipush 300, 3) := by decide +kernel
theorem dM_init_100 : decode cM_init 100 = .ok (.if_icmp .gt 7, 3) := by decide +kernel
theorem dM_init_103 : decode cM_init 103 = .ok (.iload_n 1, 1) := by decide +kernel
theorem dM_init_104 : decode cM_init 104 = .ok (.goto 5, 3) := by decide +kernel
theorem dM_init_107 : decode cM_init 107 = .ok (.bipush 100, 2) := by decide +kernel
theorem dM_init_109 : decode cM_init 109 = .ok (.putfield 42, 3) := by decide +kernel
theorem dM_init_112 : decode cM_init 112 = .ok (.aload_n 0, 1) := by decide +kernel
theorem dM_init_113 : decode cM_init 113 = .ok (.iconst (-1), 1) := by decide +kernel
theorem dM_init_114 : decode cM_init 114 = .ok (.iload_n 2, 1) := by decide +kernel
theorem dM_init_115 : decode cM_init 115 = .ok (.i2l, 1) := by decide +kernel
theorem dM_init_116 : decode cM_init 116 = .ok (.ldc2_w 46, 3) := by decide +kernel
theorem dM_init_119 : decode cM_init 119 = .ok (.land, 1) := by decide +kernel
theorem dM_init_120 : decode cM_init 120 = .ok (.ldc2_w 48, 3) := by decide +kernel
theorem dM_init_123 : decode cM_init 123 = .ok (.invokevirtual 50, 3) := by decide +kernel
theorem dM_init_126 : decode cM_init 126 = .ok (.return_, 1) := by decide +kernel
theorem dM_bytes_0 : decode cM_bytes 0 = .ok (.iconst 0, 1) := by decide +kernel
theorem dM_bytes_1 : decode cM_bytes 1 = .ok (.istore_n 1, 1) := by decide +kernel
theorem dM_bytes_2 : decode cM_bytes 2 = .ok (.iconst 0, 1) := by decide +kernel
theorem dM_bytes_3 : decode cM_bytes 3 = .ok (.istore_n 2, 1) := by decide +kernel
theorem dM_bytes_4 : decode cM_bytes 4 = .ok (.iload_n 2, 1) := by decide +kernel
theorem dM_bytes_5 : decode cM_bytes 5 = .ok (.bipush 40, 2) := by decide +kernel
theorem dM_bytes_7 : decode cM_bytes 7 = .ok (.if_icmp .ge 23, 3) := by decide +kernel
theorem dM_bytes_10 : decode cM_bytes 10 = .ok (.aload_n 0, 1) := by decide +kernel
theorem dM_bytes_11 : decode cM_bytes 11 = .ok (.iload_n 2, 1) := by decide +kernel
theorem dM_bytes_12 : decode cM_bytes 12 = .ok (.iaload, 1) := by decide +kernel
theorem dM_bytes_13 : decode cM_bytes 13 = .ok (.ifCond .le 9, 3) := by decide +kernel
theorem dM_bytes_16 : decode cM_bytes 16 = .ok (.iload_n 2, 1) := by decide +kernel
theorem dM_bytes_17 : decode cM_bytes 17 = .ok (.iconst 1, 1) := by decide +kernel
theorem dM_bytes_18 : decode cM_bytes 18 = .ok (.iadd, 1) := by decide +kernel
theorem dM_bytes_19 : decode cM_bytes 19 = .ok (.goto 4, 3) := by decide +kernel
theorem dM_bytes_22 : decode cM_bytes 22 = .ok (.iload_n 1, 1) := by decide +kernel
theorem dM_bytes_23 : decode cM_bytes 23 = .ok (.istore_n 1, 1) := by decide +kernel
theorem dM_bytes_24 : decode cM_bytes 24 = .ok (.iinc 2 1, 3) := by decide +kernel
theorem dM_bytes_27 : decode cM_bytes 27 = .ok (.goto (-23), 3) := by decide +kernel
theorem dM_bytes_30 : decode cM_bytes 30 = .ok (.iload_n 1, 1) := by decide +kernel
theorem dM_bytes_31 : decode cM_bytes 31 = .ok (.ireturn, 1) := by decide +kernel
theorem dM_scale_0 : decode cM_scale 0 = .ok (.lconst 0, 1) := by decide +kernel
theorem dM_scale_1 : decode cM_scale 1 = .ok (.lstore 5, 2) := by decide +kernel
theorem dM_scale_3 : decode cM_scale 3 = .ok (.iconst 0, 1) := by decide +kernel
theorem dM_scale_4 : decode cM_scale 4 = .ok (.istore 7, 2) := by decide +kernel
theorem dM_scale_6 : decode cM_scale 6 = .ok (.iload 7, 2) := by decide +kernel
theorem dM_scale_8 : decode cM_scale 8 = .ok (.bipush 40, 2) := by decide +kernel
theorem dM_scale_10 : decode cM_scale 10 = .ok (.if_icmp .ge 46, 3) := by decide +kernel
theorem dM_scale_13 : decode cM_scale 13 = .ok (.aload_n 0, 1) := by decide +kernel
theorem dM_scale_14 : decode cM_scale 14 = .ok (.getfield 30, 3) := by decide +kernel
theorem dM_scale_17 : decode cM_scale 17 = .ok (.iload 7, 2) := by decide +kernel
theorem dM_scale_19 : decode cM_scale 19 = .ok (.iaload, 1) := by decide +kernel
theorem dM_scale_20 : decode cM_scale 20 = .ok (.i2l, 1) := by decide +kernel
theorem dM_scale_21 : decode cM_scale 21 = .ok (.lload_n 1, 1) := by decide +kernel
theorem dM_scale_22 : decode cM_scale 22 = .ok (.lmul, 1) := by decide +kernel
theorem dM_scale_23 : decode cM_scale 23 = .ok (.lload 5, 2) := by decide +kernel
theorem dM_scale_25 : decode cM_scale 25 = .ok (.ladd, 1) := by decide +kernel
theorem dM_scale_26 : decode cM_scale 26 = .ok (.lstore 8, 2) := by decide +kernel
theorem dM_scale_28 : decode cM_scale 28 = .ok (.aload_n 0, 1) := by decide +kernel
theorem dM_scale_29 : decode cM_scale 29 = .ok (.getfield 30, 3) := by decide +kernel
theorem dM_scale_32 : decode cM_scale 32 = .ok (.iload 7, 2) := by decide +kernel
theorem dM_scale_34 : decode cM_scale 34 = .ok (.lload 8, 2) := by decide +kernel
theorem dM_scale_36 : decode cM_scale 36 = .ok (.ldc2_w 76, 3) := by decide +kernel
theorem dM_scale_39 : decode cM_scale 39 = .ok (.lrem, 1) := by decide +kernel
theorem dM_scale_40 : decode cM_scale 40 = .ok (.l2i, 1) := by decide +kernel
theorem dM_scale_41 : decode cM_scale 41 = .ok (.iastore, 1) := by decide +kernel
theorem dM_scale_42 : decode cM_scale 42 = .ok (.lload 8, 2) := by decide +kernel
theorem dM_scale_44 : decode cM_scale 44 = .ok (.ldc2_w 76, 3) := by decide +kernel
theorem dM_scale_47 : decode cM_scale 47 = .ok (.ldiv, 1) := by decide +kernel
theorem dM_scale_48 : decode cM_scale 48 = .ok (.lstore 5, 2) := by decide +kernel
theorem dM_scale_50 : decode cM_scale 50 = .ok (.iinc 7 1, 3) := by decide +kernel
theorem dM_scale_53 : decode cM_scale 53 = .ok (.goto (-47), 3) := by decide +kernel
theorem dM_scale_56 : decode cM_scale 56 = .ok (.lconst 0, 1) := by decide +kernel
theorem dM_scale_57 : decode cM_scale 57 = .ok (.lstore 7, 2) := by decide +kernel
theorem dM_scale_59 : decode cM_scale 59 = .ok (.bipush 39, 2) := by decide +kernel
theorem dM_scale_61 : decode cM_scale 61 = .ok (.istore 9, 2) := by decide +kernel
theorem dM_scale_63 : decode cM_scale 63 = .ok (.iload 9, 2) := by decide +kernel
theorem dM_scale_65 : decode cM_scale 65 = .ok (.ifCond .lt 44, 3) := by decide +kernel
theorem dM_scale_68 : decode cM_scale 68 = .ok (.lload 7, 2) := by decide +kernel
theorem dM_scale_70 : decode cM_scale 70 = .ok (.ldc2_w 76, 3) := by decide +kernel
theorem dM_scale_73 : decode cM_scale 73 = .ok (.lmul, 1) := by decide +kernel
theorem dM_scale_74 : decode cM_scale 74 = .ok (.aload_n 0, 1) := by decide +kernel
theorem dM_scale_75 : decode cM_scale 75 = .ok (.getfield 30, 3) := by decide +kernel
theorem dM_scale_78 : decode cM_scale 78 = .ok (.iload 9, 2) := by decide +kernel
theorem dM_scale_80 : decode cM_scale 80 = .ok (.iaload, 1) := by decide +kernel
theorem dM_scale_81 : decode cM_scale 81 = .ok (.i2l, 1) := by decide +kernel
theorem dM_scale_82 : decode cM_scale 82 = .ok (.ladd, 1) := by decide +kernel
theorem dM_scale_83 : decode cM_scale 83 = .ok (.lstore 10, 2) := by decide +kernel
theorem dM_scale_85 : decode cM_scale 85 = .ok (.aload_n 0, 1) := by decide +kernel
theorem dM_scale_86 : decode cM_scale 86 = .ok (.getfield 30, 3) := by decide +kernel
theorem dM_scale_89 : decode cM_scale 89 = .ok (.iload 9, 2) := by decide +kernel
theorem dM_scale_91 : decode cM_scale 91 = .ok (.lload 10, 2) := by decide +kernel
theorem dM_scale_93 : decode cM_scale 93 = .ok (.lload_n 3, 1) := by decide +kernel
theorem dM_scale_94 : decode cM_scale 94 = .ok (.ldiv, 1) := by decide +kernel
theorem dM_scale_95 : decode cM_scale 95 = .ok (.l2i, 1) := by decide +kernel
theorem dM_scale_96 : decode cM_scale 96 = .ok (.iastore, 1) := by decide +kernel
theorem dM_scale_97 : decode cM_scale 97 = .ok (.lload 10, 2) := by decide +kernel
theorem dM_scale_99 : decode cM_scale 99 = .ok (.lload_n 3, 1) := by decide +kernel
theorem dM_scale_100 : decode cM_scale 100 = .ok (.lrem, 1) := by decide +kernel
theorem dM_scale_101 : decode cM_scale 101 = .ok (.lstore 7, 2) := by decide +kernel
theorem dM_scale_103 : decode cM_scale 103 = .ok (.iinc 9 (-1), 3) := by decide +kernel
theorem dM_scale_106 : decode cM_scale 106 = .ok (.goto (-43), 3) := by decide +kernel
theorem dM_scale_109 : decode cM_scale 109 = .ok (.return_, 1) := by decide +kernel
theorem dM_compactOf_0 : decode cM_compactOf 0 = .ok (.aload_n 0, 1) := by decide +kernel
theorem dM_compactOf_1 : decode cM_compactOf 1 = .ok (.invokestatic 78, 3) := by decide +kernel
theorem dM_compactOf_4 : decode cM_compactOf 4 = .ok (.istore_n 1, 1) := by decide +kernel
theorem dM_compactOf_5 : decode cM_compactOf 5 = .ok (.lconst 0, 1) := by decide +kernel
theorem dM_compactOf_6 : decode cM_compactOf 6 = .ok (.lstore_n 2, 1) := by decide +kernel
theorem dM_compactOf_7 : decode cM_compactOf 7 = .ok (.iconst 1, 1) := by decide +kernel
theorem dM_compactOf_8 : decode cM_compactOf 8 = .ok (.istore 4, 2) := by decide +kernel
theorem dM_compactOf_10 : decode cM_compactOf 10 = .ok (.iload 4, 2) := by decide +kernel
theorem dM_compactOf_12 : decode cM_compactOf 12 = .ok (.iconst 3, 1) := by decide +kernel
theorem dM_compactOf_13 : decode cM_compactOf 13 = .ok (.if_icmp .gt 34, 3) := by decide +kernel
theorem dM_compactOf_16 : decode cM_compactOf 16 = .ok (.lload_n 2, 1) := by decide +kernel
theorem dM_compactOf_17 : decode cM_compactOf 17 = .ok (.ldc2_w 76, 3) := by decide +kernel
theorem dM_compactOf_20 : decode cM_compactOf 20 = .ok (.lmul, 1) := by decide +kernel
theorem dM_compactOf_21 : decode cM_compactOf 21 = .ok (.iload_n 1, 1) := by decide +kernel
theorem dM_compactOf_22 : decode cM_compactOf 22 = .ok (.iload 4, 2) := by decide +kernel
theorem dM_compactOf_24 : decode cM_compactOf 24 = .ok (.isub, 1) := by decide +kernel
theorem dM_compactOf_25 : decode cM_compactOf 25 = .ok (.ifCond .lt 12, 3) := by decide +kernel
theorem dM_compactOf_28 : decode cM_compactOf 28 = .ok (.aload_n 0, 1) := by decide +kernel
theorem dM_compactOf_29 : decode cM_compactOf 29 = .ok (.iload_n 1, 1) := by decide +kernel
theorem dM_compactOf_30 : decode cM_compactOf 30 = .ok (.iload 4, 2) := by decide +kernel
theorem dM_compactOf_32 : decode cM_compactOf 32 = .ok (.isub, 1) := by decide +kernel
theorem dM_compactOf_33 : decode cM_compactOf 33 = .ok (.iaload, 1) := by decide +kernel
theorem dM_compactOf_34 : decode cM_compactOf 34 = .ok (.goto 4, 3) := by decide +kernel
theorem dM_compactOf_37 : decode cM_compactOf 37 = .ok (.iconst 0, 1) := by decide +kernel
theorem dM_compactOf_38 : decode cM_compactOf 38 = .ok (.i2l, 1) := by decide +kernel
theorem dM_compactOf_39 : decode cM_compactOf 39 = .ok (.ladd, 1) := by decide +kernel
theorem dM_compactOf_40 : decode cM_compactOf 40 = .ok (.lstore_n 2, 1) := by decide +kernel
theorem dM_compactOf_41 : decode cM_compactOf 41 = .ok (.iinc 4 1, 3) := by decide +kernel
theorem dM_compactOf_44 : decode cM_compactOf 44 = .ok (.goto (-34), 3) := by decide +kernel
theorem dM_compactOf_47 : decode cM_compactOf 47 = .ok (.lload_n 2, 1) := by decide +kernel
theorem dM_compactOf_48 : decode cM_compactOf 48 = .ok (.ldc2_w 82, 3) := by decide +kernel
theorem dM_compactOf_51 : decode cM_compactOf 51 = .ok (.lcmp, 1) := by decide +kernel
theorem dM_compactOf_52 : decode cM_compactOf 52 = .ok (.ifCond .lt 7, 3) := by decide +kernel
theorem dM_compactOf_55 : decode cM_compactOf 55 = .ok (.iconst 1, 1) := by decide +kernel
theorem dM_compactOf_56 : decode cM_compactOf 56 = .ok (.goto 4, 3) := by decide +kernel
theorem dM_compactOf_59 : decode cM_compactOf 59 = .ok (.iconst 0, 1) := by decide +kernel
theorem dM_compactOf_60 : decode cM_compactOf 60 = .ok (.istore 4, 2) := by decide +kernel
theorem dM_compactOf_62 : decode cM_compactOf 62 = .ok (.iload 4, 2) := by decide +kernel
theorem dM_compactOf_64 : decode cM_compactOf 64 = .ok (.ifCond .eq 19, 3) := by decide +kernel
theorem dM_compactOf_67 : decode cM_compactOf 67 = .ok (.iload_n 1, 1) := by decide +kernel
theorem dM_compactOf_68 : decode cM_compactOf 68 = .ok (.i2l, 1) := by decide +kernel
theorem dM_compactOf_69 : decode cM_compactOf 69 = .ok (.lconst 1, 1) := by decide +kernel
theorem dM_compactOf_70 : decode cM_compactOf 70 = .ok (.ladd, 1) := by decide +kernel
theorem dM_compactOf_71 : decode cM_compactOf 71 = .ok (.bipush 24, 2) := by decide +kernel
theorem dM_compactOf_73 : decode cM_compactOf 73 = .ok (.lshl, 1) := by decide +kernel
theorem dM_compactOf_74 : decode cM_compactOf 74 = .ok (.lload_n 2, 1) := by decide +kernel
theorem dM_compactOf_75 : decode cM_compactOf 75 = .ok (.ldc2_w 76, 3) := by decide +kernel
theorem dM_compactOf_78 : decode cM_compactOf 78 = .ok (.ldiv, 1) := by decide +kernel
theorem dM_compactOf_79 : decode cM_compactOf 79 = .ok (.ladd, 1) := by decide +kernel
theorem dM_compactOf_80 : decode cM_compactOf 80 = .ok (.goto 10, 3) := by decide +kernel
theorem dM_compactOf_83 : decode cM_compactOf 83 = .ok (.iload_n 1, 1) := by decide +kernel
theorem dM_compactOf_84 : decode cM_compactOf 84 = .ok (.i2l, 1) := by decide +kernel
theorem dM_compactOf_85 : decode cM_compactOf 85 = .ok (.bipush 24, 2) := by decide +kernel
theorem dM_compactOf_87 : decode cM_compactOf 87 = .ok (.lshl, 1) := by decide +kernel
theorem dM_compactOf_88 : decode cM_compactOf 88 = .ok (.lload_n 2, 1) := by decide +kernel
theorem dM_compactOf_89 : decode cM_compactOf 89 = .ok (.ladd, 1) := by decide +kernel
theorem dM_compactOf_90 : decode cM_compactOf 90 = .ok (.lreturn, 1) := by decide +kernel
theorem dM_isBits_0 : decode cM_isBits 0 = .ok (.lload_n 0, 1) := by decide +kernel
theorem dM_isBits_1 : decode cM_isBits 1 = .ok (.lconst 0, 1) := by decide +kernel
theorem dM_isBits_2 : decode cM_isBits 2 = .ok (.lcmp, 1) := by decide +kernel
theorem dM_isBits_3 : decode cM_isBits 3 = .ok (.ifCond .lt 15, 3) := by decide +kernel
theorem dM_isBits_6 : decode cM_isBits 6 = .ok (.lload_n 0, 1) := by decide +kernel
theorem dM_isBits_7 : decode cM_isBits 7 = .ok (.ldc2_w 46, 3) := by decide +kernel
theorem dM_isBits_10 : decode cM_isBits 10 = .ok (.lcmp, 1) := by decide +kernel
theorem dM_isBits_11 : decode cM_isBits 11 = .ok (.ifCond .gt 7, 3) := by decide +kernel
theorem dM_isBits_14 : decode cM_isBits 14 = .ok (.iconst 1, 1) := by decide +kernel
theorem dM_isBits_15 : decode cM_isBits 15 = .ok (.goto 4, 3) := by decide +kernel
theorem dM_isBits_18 : decode cM_isBits 18 = .ok (.iconst 0, 1) := by decide +kernel
theorem dM_isBits_19 : decode cM_isBits 19 = .ok (.ireturn, 1) := by decide +kernel
theorem dM_fault_0 : decode cM_fault 0 = .ok (.lload_n 1, 1) := by decide +kernel
theorem dM_fault_1 : decode cM_fault 1 = .ok (.invokestatic 84, 3) := by decide +kernel
theorem dM_fault_4 : decode cM_fault 4 = .ok (.ifCond .ne 5, 3) := by decide +kernel
theorem dM_fault_7 : decode cM_fault 7 = .ok (.iconst (-1), 1) := by decide +kernel
theorem dM_fault_8 : decode cM_fault 8 = .ok (.ireturn, 1) := by decide +kernel
theorem dM_fault_9 : decode cM_fault 9 = .ok (.lload_n 1, 1) := by decide +kernel
theorem dM_fault_10 : decode cM_fault 10 = .ok (.bipush 24, 2) := by decide +kernel
theorem dM_fault_12 : decode cM_fault 12 = .ok (.lshr, 1) := by decide +kernel
theorem dM_fault_13 : decode cM_fault 13 = .ok (.l2i, 1) := by decide +kernel
theorem dM_fault_14 : decode cM_fault 14 = .ok (.istore_n 3, 1) := by decide +kernel
theorem dM_fault_15 : decode cM_fault 15 = .ok (.lload_n 1, 1) := by decide +kernel
theorem dM_fault_16 : decode cM_fault 16 = .ok (.ldc2_w 68, 3) := by decide +kernel
theorem dM_fault_19 : decode cM_fault 19 = .ok (.land, 1) := by decide +kernel
theorem dM_fault_20 : decode cM_fault 20 = .ok (.lstore 4, 2) := by decide +kernel
theorem dM_fault_22 : decode cM_fault 22 = .ok (.lload_n 1, 1) := by decide +kernel
theorem dM_fault_23 : decode cM_fault 23 = .ok (.bipush 23, 2) := by decide +kernel
theorem dM_fault_25 : decode cM_fault 25 = .ok (.lshr, 1) := by decide +kernel
theorem dM_fault_26 : decode cM_fault 26 = .ok (.lconst 1, 1) := by decide +kernel
theorem dM_fault_27 : decode cM_fault 27 = .ok (.land, 1) := by decide +kernel
theorem dM_fault_28 : decode cM_fault 28 = .ok (.lconst 1, 1) := by decide +kernel
theorem dM_fault_29 : decode cM_fault 29 = .ok (.lcmp, 1) := by decide +kernel
theorem dM_fault_30 : decode cM_fault 30 = .ok (.ifCond .ne 12, 3) := by decide +kernel
theorem dM_fault_33 : decode cM_fault 33 = .ok (.lload 4, 2) := by decide +kernel
theorem dM_fault_35 : decode cM_fault 35 = .ok (.lconst 0, 1) := by decide +kernel
theorem dM_fault_36 : decode cM_fault 36 = .ok (.lcmp, 1) := by decide +kernel
theorem dM_fault_37 : decode cM_fault 37 = .ok (.ifCond .le 5, 3) := by decide +kernel
theorem dM_fault_40 : decode cM_fault 40 = .ok (.iconst 1, 1) := by decide +kernel
theorem dM_fault_41 : decode cM_fault 41 = .ok (.ireturn, 1) := by decide +kernel
theorem dM_fault_42 : decode cM_fault 42 = .ok (.lload 4, 2) := by decide +kernel
theorem dM_fault_44 : decode cM_fault 44 = .ok (.lconst 0, 1) := by decide +kernel
theorem dM_fault_45 : decode cM_fault 45 = .ok (.lcmp, 1) := by decide +kernel
theorem dM_fault_46 : decode cM_fault 46 = .ok (.ifCond .ne 7, 3) := by decide +kernel
theorem dM_fault_49 : decode cM_fault 49 = .ok (.iconst 0, 1) := by decide +kernel
theorem dM_fault_50 : decode cM_fault 50 = .ok (.goto 30, 3) := by decide +kernel
theorem dM_fault_53 : decode cM_fault 53 = .ok (.lload 4, 2) := by decide +kernel
theorem dM_fault_55 : decode cM_fault 55 = .ok (.ldc2_w 76, 3) := by decide +kernel
theorem dM_fault_58 : decode cM_fault 58 = .ok (.lcmp, 1) := by decide +kernel
theorem dM_fault_59 : decode cM_fault 59 = .ok (.ifCond .ge 7, 3) := by decide +kernel
theorem dM_fault_62 : decode cM_fault 62 = .ok (.iconst 1, 1) := by decide +kernel
theorem dM_fault_63 : decode cM_fault 63 = .ok (.goto 17, 3) := by decide +kernel
theorem dM_fault_66 : decode cM_fault 66 = .ok (.lload 4, 2) := by decide +kernel
theorem dM_fault_68 : decode cM_fault 68 = .ok (.ldc2_w 88, 3) := by decide +kernel
theorem dM_fault_71 : decode cM_fault 71 = .ok (.lcmp, 1) := by decide +kernel
theorem dM_fault_72 : decode cM_fault 72 = .ok (.ifCond .ge 7, 3) := by decide +kernel
theorem dM_fault_75 : decode cM_fault 75 = .ok (.iconst 2, 1) := by decide +kernel
theorem dM_fault_76 : decode cM_fault 76 = .ok (.goto 4, 3) := by decide +kernel
theorem dM_fault_79 : decode cM_fault 79 = .ok (.iconst 3, 1) := by decide +kernel
theorem dM_fault_80 : decode cM_fault 80 = .ok (.istore 6, 2) := by decide +kernel
theorem dM_fault_82 : decode cM_fault 82 = .ok (.iload 6, 2) := by decide +kernel
theorem dM_fault_84 : decode cM_fault 84 = .ok (.iload_n 3, 1) := by decide +kernel
theorem dM_fault_85 : decode cM_fault 85 = .ok (.iadd, 1) := by decide +kernel
theorem dM_fault_86 : decode cM_fault 86 = .ok (.iconst 3, 1) := by decide +kernel
theorem dM_fault_87 : decode cM_fault 87 = .ok (.isub, 1) := by decide +kernel
theorem dM_fault_88 : decode cM_fault 88 = .ok (.ifCond .le 8, 3) := by decide +kernel
theorem dM_fault_91 : decode cM_fault 91 = .ok (.iload 6, 2) := by decide +kernel
theorem dM_fault_93 : decode cM_fault 93 = .ok (.ifCond .ne 5, 3) := by decide +kernel
theorem dM_fault_96 : decode cM_fault 96 = .ok (.iconst 2, 1) := by decide +kernel
theorem dM_fault_97 : decode cM_fault 97 = .ok (.ireturn, 1) := by decide +kernel
theorem dM_fault_98 : decode cM_fault 98 = .ok (.iload 6, 2) := by decide +kernel
theorem dM_fault_100 : decode cM_fault 100 = .ok (.iload_n 3, 1) := by decide +kernel
theorem dM_fault_101 : decode cM_fault 101 = .ok (.iadd, 1) := by decide +kernel
theorem dM_fault_102 : decode cM_fault 102 = .ok (.iconst 3, 1) := by decide +kernel
theorem dM_fault_103 : decode cM_fault 103 = .ok (.isub, 1) := by decide +kernel
theorem dM_fault_104 : decode cM_fault 104 = .ok (.bipush 32, 2) := by decide +kernel
theorem dM_fault_106 : decode cM_fault 106 = .ok (.if_icmp .le 5, 3) := by decide +kernel
theorem dM_fault_109 : decode cM_fault 109 = .ok (.iconst 3, 1) := by decide +kernel
theorem dM_fault_110 : decode cM_fault 110 = .ok (.ireturn, 1) := by decide +kernel
theorem dM_fault_111 : decode cM_fault 111 = .ok (.lload_n 1, 1) := by decide +kernel
theorem dM_fault_112 : decode cM_fault 112 = .ok (.aload_n 0, 1) := by decide +kernel
theorem dM_fault_113 : decode cM_fault 113 = .ok (.getfield 30, 3) := by decide +kernel
theorem dM_fault_116 : decode cM_fault 116 = .ok (.invokestatic 57, 3) := by decide +kernel
theorem dM_fault_119 : decode cM_fault 119 = .ok (.ldc2_w 48, 3) := by decide +kernel
theorem dM_fault_122 : decode cM_fault 122 = .ok (.aload_n 0, 1) := by decide +kernel
theorem dM_fault_123 : decode cM_fault 123 = .ok (.getfield 33, 3) := by decide +kernel
theorem dM_fault_126 : decode cM_fault 126 = .ok (.invokestatic 57, 3) := by decide +kernel
theorem dM_fault_129 : decode cM_fault 129 = .ok (.aload_n 0, 1) := by decide +kernel
theorem dM_fault_130 : decode cM_fault 130 = .ok (.getfield 30, 3) := by decide +kernel
theorem dM_fault_133 : decode cM_fault 133 = .ok (.aload_n 0, 1) := by decide +kernel
theorem dM_fault_134 : decode cM_fault 134 = .ok (.getfield 33, 3) := by decide +kernel
theorem dM_fault_137 : decode cM_fault 137 = .ok (.invokestatic 72, 3) := by decide +kernel
theorem dM_fault_140 : decode cM_fault 140 = .ok (.ifCond .le 7, 3) := by decide +kernel
theorem dM_fault_143 : decode cM_fault 143 = .ok (.iconst 4, 1) := by decide +kernel
theorem dM_fault_144 : decode cM_fault 144 = .ok (.goto 4, 3) := by decide +kernel
theorem dM_fault_147 : decode cM_fault 147 = .ok (.iconst 0, 1) := by decide +kernel
theorem dM_fault_148 : decode cM_fault 148 = .ok (.ireturn, 1) := by decide +kernel
theorem dM_longOf_0 : decode cM_longOf 0 = .ok (.lconst 0, 1) := by decide +kernel
theorem dM_longOf_1 : decode cM_longOf 1 = .ok (.lstore_n 3, 1) := by decide +kernel
theorem dM_longOf_2 : decode cM_longOf 2 = .ok (.bipush 7, 2) := by decide +kernel
theorem dM_longOf_4 : decode cM_longOf 4 = .ok (.istore 5, 2) := by decide +kernel
theorem dM_longOf_6 : decode cM_longOf 6 = .ok (.iload 5, 2) := by decide +kernel
theorem dM_longOf_8 : decode cM_longOf 8 = .ok (.ifCond .lt 29, 3) := by decide +kernel
theorem dM_longOf_11 : decode cM_longOf 11 = .ok (.lload_n 3, 1) := by decide +kernel
theorem dM_longOf_12 : decode cM_longOf 12 = .ok (.bipush 8, 2) := by decide +kernel
theorem dM_longOf_14 : decode cM_longOf 14 = .ok (.lshl, 1) := by decide +kernel
theorem dM_longOf_15 : decode cM_longOf 15 = .ok (.aload_n 0, 1) := by decide +kernel
theorem dM_longOf_16 : decode cM_longOf 16 = .ok (.iload_n 1, 1) := by decide +kernel
theorem dM_longOf_17 : decode cM_longOf 17 = .ok (.bipush 8, 2) := by decide +kernel
theorem dM_longOf_19 : decode cM_longOf 19 = .ok (.iconst 3, 1) := by decide +kernel
theorem dM_longOf_20 : decode cM_longOf 20 = .ok (.iload_n 2, 1) := by decide +kernel
theorem dM_longOf_21 : decode cM_longOf 21 = .ok (.isub, 1) := by decide +kernel
theorem dM_longOf_22 : decode cM_longOf 22 = .ok (.imul, 1) := by decide +kernel
theorem dM_longOf_23 : decode cM_longOf 23 = .ok (.iadd, 1) := by decide +kernel
theorem dM_longOf_24 : decode cM_longOf 24 = .ok (.iload 5, 2) := by decide +kernel
theorem dM_longOf_26 : decode cM_longOf 26 = .ok (.iadd, 1) := by decide +kernel
theorem dM_longOf_27 : decode cM_longOf 27 = .ok (.iaload, 1) := by decide +kernel
theorem dM_longOf_28 : decode cM_longOf 28 = .ok (.i2l, 1) := by decide +kernel
theorem dM_longOf_29 : decode cM_longOf 29 = .ok (.lor, 1) := by decide +kernel
theorem dM_longOf_30 : decode cM_longOf 30 = .ok (.lstore_n 3, 1) := by decide +kernel
theorem dM_longOf_31 : decode cM_longOf 31 = .ok (.iinc 5 (-1), 3) := by decide +kernel
theorem dM_longOf_34 : decode cM_longOf 34 = .ok (.goto (-28), 3) := by decide +kernel
theorem dM_longOf_37 : decode cM_longOf 37 = .ok (.lload_n 3, 1) := by decide +kernel
theorem dM_longOf_38 : decode cM_longOf 38 = .ok (.lreturn, 1) := by decide +kernel
theorem dM_target_0 : decode cM_target 0 = .ok (.aload_n 0, 1) := by decide +kernel
theorem dM_target_1 : decode cM_target 1 = .ok (.lload_n 1, 1) := by decide +kernel
theorem dM_target_2 : decode cM_target 2 = .ok (.invokevirtual 90, 3) := by decide +kernel
theorem dM_target_5 : decode cM_target 5 = .ok (.istore 4, 2) := by decide +kernel
theorem dM_target_7 : decode cM_target 7 = .ok (.iload 4, 2) := by decide +kernel
theorem dM_target_9 : decode cM_target 9 = .ok (.ifCond .eq 9, 3) := by decide +kernel
theorem dM_target_12 : decode cM_target 12 = .ok (.iload 4, 2) := by decide +kernel
theorem dM_target_14 : decode cM_target 14 = .ok (.iconst 4, 1) := by decide +kernel
theorem dM_target_15 : decode cM_target 15 = .ok (.if_icmp .ne 12, 3) := by decide +kernel
theorem dM_target_18 : decode cM_target 18 = .ok (.iload_n 3, 1) := by decide +kernel
theorem dM_target_19 : decode cM_target 19 = .ok (.ifCond .lt 8, 3) := by decide +kernel
theorem dM_target_22 : decode cM_target 22 = .ok (.iload_n 3, 1) := by decide +kernel
theorem dM_target_23 : decode cM_target 23 = .ok (.iconst 3, 1) := by decide +kernel
theorem dM_target_24 : decode cM_target 24 = .ok (.if_icmp .le 5, 3) := by decide +kernel
theorem dM_target_27 : decode cM_target 27 = .ok (.lconst 0, 1) := by decide +kernel
theorem dM_target_28 : decode cM_target 28 = .ok (.lreturn, 1) := by decide +kernel
theorem dM_target_29 : decode cM_target 29 = .ok (.lload_n 1, 1) := by decide +kernel
theorem dM_target_30 : decode cM_target 30 = .ok (.aload_n 0, 1) := by decide +kernel
theorem dM_target_31 : decode cM_target 31 = .ok (.getfield 30, 3) := by decide +kernel
theorem dM_target_34 : decode cM_target 34 = .ok (.invokestatic 57, 3) := by decide +kernel
theorem dM_target_37 : decode cM_target 37 = .ok (.aload_n 0, 1) := by decide +kernel
theorem dM_target_38 : decode cM_target 38 = .ok (.getfield 30, 3) := by decide +kernel
theorem dM_target_41 : decode cM_target 41 = .ok (.iconst 0, 1) := by decide +kernel
theorem dM_target_42 : decode cM_target 42 = .ok (.iload_n 3, 1) := by decide +kernel
theorem dM_target_43 : decode cM_target 43 = .ok (.invokestatic 94, 3) := by decide +kernel
theorem dM_target_46 : decode cM_target 46 = .ok (.lreturn, 1) := by decide +kernel
theorem dM_compact_0 : decode cM_compact 0 = .ok (.aload_n 0, 1) := by decide +kernel
theorem dM_compact_1 : decode cM_compact 1 = .ok (.getfield 30, 3) := by decide +kernel
theorem dM_compact_4 : decode cM_compact 4 = .ok (.invokestatic 64, 3) := by decide +kernel
theorem dM_compact_7 : decode cM_compact 7 = .ok (.iconst 0, 1) := by decide +kernel
theorem dM_compact_8 : decode cM_compact 8 = .ok (.istore 9, 2) := by decide +kernel
theorem dM_compact_10 : decode cM_compact 10 = .ok (.iload 9, 2) := by decide +kernel
theorem dM_compact_12 : decode cM_compact 12 = .ok (.bipush 32, 2) := by decide +kernel
theorem dM_compact_14 : decode cM_compact 14 = .ok (.if_icmp .ge 70, 3) := by decide +kernel
theorem dM_compact_17 : decode cM_compact 17 = .ok (.iload 9, 2) := by decide +kernel
theorem dM_compact_19 : decode cM_compact 19 = .ok (.bipush 8, 2) := by decide +kernel
theorem dM_compact_21 : decode cM_compact 21 = .ok (.if_icmp .ge 8, 3) := by decide +kernel
theorem dM_compact_24 : decode cM_compact 24 = .ok (.lload 7, 2) := by decide +kernel
theorem dM_compact_26 : decode cM_compact 26 = .ok (.goto 27, 3) := by decide +kernel
theorem dM_compact_29 : decode cM_compact 29 = .ok (.iload 9, 2) := by decide +kernel
theorem dM_compact_31 : decode cM_compact 31 = .ok (.bipush 16, 2) := by decide +kernel
theorem dM_compact_33 : decode cM_compact 33 = .ok (.if_icmp .ge 8, 3) := by decide +kernel
theorem dM_compact_36 : decode cM_compact 36 = .ok (.lload 5, 2) := by decide +kernel
theorem dM_compact_38 : decode cM_compact 38 = .ok (.goto 15, 3) := by decide +kernel
theorem dM_compact_41 : decode cM_compact 41 = .ok (.iload 9, 2) := by decide +kernel
theorem dM_compact_43 : decode cM_compact 43 = .ok (.bipush 24, 2) := by decide +kernel
theorem dM_compact_45 : decode cM_compact 45 = .ok (.if_icmp .ge 7, 3) := by decide +kernel
theorem dM_compact_48 : decode cM_compact 48 = .ok (.lload_n 3, 1) := by decide +kernel
theorem dM_compact_49 : decode cM_compact 49 = .ok (.goto 4, 3) := by decide +kernel
theorem dM_compact_52 : decode cM_compact 52 = .ok (.lload_n 1, 1) := by decide +kernel
theorem dM_compact_53 : decode cM_compact 53 = .ok (.lstore 10, 2) := by decide +kernel
theorem dM_compact_55 : decode cM_compact 55 = .ok (.aload_n 0, 1) := by decide +kernel
theorem dM_compact_56 : decode cM_compact 56 = .ok (.getfield 30, 3) := by decide +kernel
theorem dM_compact_59 : decode cM_compact 59 = .ok (.iload 9, 2) := by decide +kernel
theorem dM_compact_61 : decode cM_compact 61 = .ok (.lload 10, 2) := by decide +kernel
theorem dM_compact_63 : decode cM_compact 63 = .ok (.bipush 8, 2) := by decide +kernel
theorem dM_compact_65 : decode cM_compact 65 = .ok (.iload 9, 2) := by decide +kernel
theorem dM_compact_67 : decode cM_compact 67 = .ok (.bipush 8, 2) := by decide +kernel
theorem dM_compact_69 : decode cM_compact 69 = .ok (.irem, 1) := by decide +kernel
theorem dM_compact_70 : decode cM_compact 70 = .ok (.imul, 1) := by decide +kernel
theorem dM_compact_71 : decode cM_compact 71 = .ok (.lshr, 1) := by decide +kernel
theorem dM_compact_72 : decode cM_compact 72 = .ok (.ldc2_w 70, 3) := by decide +kernel
theorem dM_compact_75 : decode cM_compact 75 = .ok (.land, 1) := by decide +kernel
theorem dM_compact_76 : decode cM_compact 76 = .ok (.l2i, 1) := by decide +kernel
theorem dM_compact_77 : decode cM_compact 77 = .ok (.iastore, 1) := by decide +kernel
theorem dM_compact_78 : decode cM_compact 78 = .ok (.iinc 9 1, 3) := by decide +kernel
theorem dM_compact_81 : decode cM_compact 81 = .ok (.goto (-71), 3) := by decide +kernel
theorem dM_compact_84 : decode cM_compact 84 = .ok (.aload_n 0, 1) := by decide +kernel
theorem dM_compact_85 : decode cM_compact 85 = .ok (.getfield 30, 3) := by decide +kernel
theorem dM_compact_88 : decode cM_compact 88 = .ok (.invokestatic 98, 3) := by decide +kernel
theorem dM_compact_91 : decode cM_compact 91 = .ok (.lreturn, 1) := by decide +kernel
theorem dM_isBlock_0 : decode cM_isBlock 0 = .ok (.iload_n 1, 1) := by decide +kernel
theorem dM_isBlock_1 : decode cM_isBlock 1 = .ok (.ifCond .lt 15, 3) := by decide +kernel
theorem dM_isBlock_4 : decode cM_isBlock 4 = .ok (.iload_n 1, 1) := by decide +kernel
theorem dM_isBlock_5 : decode cM_isBlock 5 = .ok (.aload_n 0, 1) := by decide +kernel
theorem dM_isBlock_6 : decode cM_isBlock 6 = .ok (.getfield 54, 3) := by decide +kernel
theorem dM_isBlock_9 : decode cM_isBlock 9 = .ok (.if_icmp .ge 7, 3) := by decide +kernel
theorem dM_isBlock_12 : decode cM_isBlock 12 = .ok (.iconst 1, 1) := by decide +kernel
theorem dM_isBlock_13 : decode cM_isBlock 13 = .ok (.goto 4, 3) := by decide +kernel
theorem dM_isBlock_16 : decode cM_isBlock 16 = .ok (.iconst 0, 1) := by decide +kernel
theorem dM_isBlock_17 : decode cM_isBlock 17 = .ok (.ireturn, 1) := by decide +kernel
theorem dM_below_0 : decode cM_below 0 = .ok (.aload_n 0, 1) := by decide +kernel
theorem dM_below_1 : decode cM_below 1 = .ok (.iload_n 1, 1) := by decide +kernel
theorem dM_below_2 : decode cM_below 2 = .ok (.invokevirtual 102, 3) := by decide +kernel
theorem dM_below_5 : decode cM_below 5 = .ok (.ifCond .eq 17, 3) := by decide +kernel
theorem dM_below_8 : decode cM_below 8 = .ok (.iload_n 2, 1) := by decide +kernel
theorem dM_below_9 : decode cM_below 9 = .ok (.ifCond .lt 13, 3) := by decide +kernel
theorem dM_below_12 : decode cM_below 12 = .ok (.iload_n 2, 1) := by decide +kernel
theorem dM_below_13 : decode cM_below 13 = .ok (.aload_n 0, 1) := by decide +kernel
theorem dM_below_14 : decode cM_below 14 = .ok (.getfield 13, 3) := by decide +kernel
theorem dM_below_17 : decode cM_below 17 = .ok (.iload_n 1, 1) := by decide +kernel
theorem dM_below_18 : decode cM_below 18 = .ok (.iaload, 1) := by decide +kernel
theorem dM_below_19 : decode cM_below 19 = .ok (.if_icmp .le 5, 3) := by decide +kernel
theorem dM_below_22 : decode cM_below 22 = .ok (.iconst (-1), 1) := by decide +kernel
theorem dM_below_23 : decode cM_below 23 = .ok (.ireturn, 1) := by decide +kernel
theorem dM_below_24 : decode cM_below 24 = .ok (.iload_n 1, 1) := by decide +kernel
theorem dM_below_25 : decode cM_below 25 = .ok (.istore_n 3, 1) := by decide +kernel
theorem dM_below_26 : decode cM_below 26 = .ok (.aload_n 0, 1) := by decide +kernel
theorem dM_below_27 : decode cM_below 27 = .ok (.getfield 13, 3) := by decide +kernel
theorem dM_below_30 : decode cM_below 30 = .ok (.iload_n 3, 1) := by decide +kernel
theorem dM_below_31 : decode cM_below 31 = .ok (.iaload, 1) := by decide +kernel
theorem dM_below_32 : decode cM_below 32 = .ok (.iload_n 2, 1) := by decide +kernel
theorem dM_below_33 : decode cM_below 33 = .ok (.if_icmp .le 13, 3) := by decide +kernel
theorem dM_below_36 : decode cM_below 36 = .ok (.aload_n 0, 1) := by decide +kernel
theorem dM_below_37 : decode cM_below 37 = .ok (.getfield 7, 3) := by decide +kernel
theorem dM_below_40 : decode cM_below 40 = .ok (.iload_n 3, 1) := by decide +kernel
theorem dM_below_41 : decode cM_below 41 = .ok (.iaload, 1) := by decide +kernel
theorem dM_below_42 : decode cM_below 42 = .ok (.istore_n 3, 1) := by decide +kernel
theorem dM_below_43 : decode cM_below 43 = .ok (.goto (-17), 3) := by decide +kernel
theorem dM_below_46 : decode cM_below 46 = .ok (.iload_n 3, 1) := by decide +kernel
theorem dM_below_47 : decode cM_below 47 = .ok (.ireturn, 1) := by decide +kernel
theorem dM_must_0 : decode cM_must 0 = .ok (.aload_n 0, 1) := by decide +kernel
theorem dM_must_1 : decode cM_must 1 = .ok (.iload_n 1, 1) := by decide +kernel
theorem dM_must_2 : decode cM_must 2 = .ok (.invokevirtual 102, 3) := by decide +kernel
theorem dM_must_5 : decode cM_must 5 = .ok (.ifCond .ne 7, 3) := by decide +kernel
theorem dM_must_8 : decode cM_must 8 = .ok (.ldc2_w 106, 3) := by decide +kernel
theorem dM_must_11 : decode cM_must 11 = .ok (.lreturn, 1) := by decide +kernel
theorem dM_must_12 : decode cM_must 12 = .ok (.aload_n 0, 1) := by decide +kernel
theorem dM_must_13 : decode cM_must 13 = .ok (.getfield 13, 3) := by decide +kernel
theorem dM_must_16 : decode cM_must 16 = .ok (.iload_n 1, 1) := by decide +kernel
theorem dM_must_17 : decode cM_must 17 = .ok (.iaload, 1) := by decide +kernel
theorem dM_must_18 : decode cM_must 18 = .ok (.iconst 1, 1) := by decide +kernel
theorem dM_must_19 : decode cM_must 19 = .ok (.iadd, 1) := by decide +kernel
theorem dM_must_20 : decode cM_must 20 = .ok (.bipush 8, 2) := by decide +kernel
theorem dM_must_22 : decode cM_must 22 = .ok (.irem, 1) := by decide +kernel
theorem dM_must_23 : decode cM_must 23 = .ok (.ifCond .eq 10, 3) := by decide +kernel
theorem dM_must_26 : decode cM_must 26 = .ok (.aload_n 0, 1) := by decide +kernel
theorem dM_must_27 : decode cM_must 27 = .ok (.getfield 20, 3) := by decide +kernel
theorem dM_must_30 : decode cM_must 30 = .ok (.iload_n 1, 1) := by decide +kernel
theorem dM_must_31 : decode cM_must 31 = .ok (.laload, 1) := by decide +kernel
theorem dM_must_32 : decode cM_must 32 = .ok (.lreturn, 1) := by decide +kernel
theorem dM_must_33 : decode cM_must 33 = .ok (.aload_n 0, 1) := by decide +kernel
theorem dM_must_34 : decode cM_must 34 = .ok (.getfield 16, 3) := by decide +kernel
theorem dM_must_37 : decode cM_must 37 = .ok (.iload_n 1, 1) := by decide +kernel
theorem dM_must_38 : decode cM_must 38 = .ok (.laload, 1) := by decide +kernel
theorem dM_must_39 : decode cM_must 39 = .ok (.aload_n 0, 1) := by decide +kernel
theorem dM_must_40 : decode cM_must 40 = .ok (.getfield 16, 3) := by decide +kernel
theorem dM_must_43 : decode cM_must 43 = .ok (.aload_n 0, 1) := by decide +kernel
theorem dM_must_44 : decode cM_must 44 = .ok (.iload_n 1, 1) := by decide +kernel
theorem dM_must_45 : decode cM_must 45 = .ok (.aload_n 0, 1) := by decide +kernel
theorem dM_must_46 : decode cM_must 46 = .ok (.getfield 13, 3) := by decide +kernel
theorem dM_must_49 : decode cM_must 49 = .ok (.iload_n 1, 1) := by decide +kernel
theorem dM_must_50 : decode cM_must 50 = .ok (.iaload, 1) := by decide +kernel
theorem dM_must_51 : decode cM_must 51 = .ok (.bipush 7, 2) := by decide +kernel
theorem dM_must_53 : decode cM_must 53 = .ok (.isub, 1) := by decide +kernel
theorem dM_must_54 : decode cM_must 54 = .ok (.invokevirtual 108, 3) := by decide +kernel
theorem dM_must_57 : decode cM_must 57 = .ok (.laload, 1) := by decide +kernel
theorem dM_must_58 : decode cM_must 58 = .ok (.lsub, 1) := by decide +kernel
theorem dM_must_59 : decode cM_must 59 = .ok (.lstore_n 2, 1) := by decide +kernel
theorem dM_must_60 : decode cM_must 60 = .ok (.lload_n 2, 1) := by decide +kernel
theorem dM_must_61 : decode cM_must 61 = .ok (.ldc2_w 112, 3) := by decide +kernel
theorem dM_must_64 : decode cM_must 64 = .ok (.lcmp, 1) := by decide +kernel
theorem dM_must_65 : decode cM_must 65 = .ok (.ifCond .ge 9, 3) := by decide +kernel
theorem dM_must_68 : decode cM_must 68 = .ok (.ldc2_w 112, 3) := by decide +kernel
theorem dM_must_71 : decode cM_must 71 = .ok (.goto 18, 3) := by decide +kernel
theorem dM_must_74 : decode cM_must 74 = .ok (.lload_n 2, 1) := by decide +kernel
theorem dM_must_75 : decode cM_must 75 = .ok (.ldc2_w 114, 3) := by decide +kernel
theorem dM_must_78 : decode cM_must 78 = .ok (.lcmp, 1) := by decide +kernel
theorem dM_must_79 : decode cM_must 79 = .ok (.ifCond .le 9, 3) := by decide +kernel
theorem dM_must_82 : decode cM_must 82 = .ok (.ldc2_w 114, 3) := by decide +kernel
theorem dM_must_85 : decode cM_must 85 = .ok (.goto 4, 3) := by decide +kernel
theorem dM_must_88 : decode cM_must 88 = .ok (.lload_n 2, 1) := by decide +kernel
theorem dM_must_89 : decode cM_must 89 = .ok (.lstore_n 2, 1) := by decide +kernel
theorem dM_must_90 : decode cM_must 90 = .ok (.aload_n 0, 1) := by decide +kernel
theorem dM_must_91 : decode cM_must 91 = .ok (.getfield 20, 3) := by decide +kernel
theorem dM_must_94 : decode cM_must 94 = .ok (.iload_n 1, 1) := by decide +kernel
theorem dM_must_95 : decode cM_must 95 = .ok (.laload, 1) := by decide +kernel
theorem dM_must_96 : decode cM_must 96 = .ok (.aload_n 0, 1) := by decide +kernel
theorem dM_must_97 : decode cM_must 97 = .ok (.getfield 30, 3) := by decide +kernel
theorem dM_must_100 : decode cM_must 100 = .ok (.invokestatic 57, 3) := by decide +kernel
theorem dM_must_103 : decode cM_must 103 = .ok (.aload_n 0, 1) := by decide +kernel
theorem dM_must_104 : decode cM_must 104 = .ok (.lload_n 2, 1) := by decide +kernel
theorem dM_must_105 : decode cM_must 105 = .ok (.ldc2_w 116, 3) := by decide +kernel
theorem dM_must_108 : decode cM_must 108 = .ok (.invokevirtual 118, 3) := by decide +kernel
theorem dM_must_111 : decode cM_must 111 = .ok (.ldc2_w 48, 3) := by decide +kernel
theorem dM_must_114 : decode cM_must 114 = .ok (.aload_n 0, 1) := by decide +kernel
theorem dM_must_115 : decode cM_must 115 = .ok (.getfield 33, 3) := by decide +kernel
theorem dM_must_118 : decode cM_must 118 = .ok (.invokestatic 57, 3) := by decide +kernel
theorem dM_must_121 : decode cM_must 121 = .ok (.aload_n 0, 1) := by decide +kernel
theorem dM_must_122 : decode cM_must 122 = .ok (.getfield 30, 3) := by decide +kernel
theorem dM_must_125 : decode cM_must 125 = .ok (.aload_n 0, 1) := by decide +kernel
theorem dM_must_126 : decode cM_must 126 = .ok (.getfield 33, 3) := by decide +kernel
theorem dM_must_129 : decode cM_must 129 = .ok (.invokestatic 72, 3) := by decide +kernel
theorem dM_must_132 : decode cM_must 132 = .ok (.ifCond .le 13, 3) := by decide +kernel
theorem dM_must_135 : decode cM_must 135 = .ok (.aload_n 0, 1) := by decide +kernel
theorem dM_must_136 : decode cM_must 136 = .ok (.getfield 33, 3) := by decide +kernel
theorem dM_must_139 : decode cM_must 139 = .ok (.invokestatic 98, 3) := by decide +kernel
theorem dM_must_142 : decode cM_must 142 = .ok (.goto 10, 3) := by decide +kernel
theorem dM_must_145 : decode cM_must 145 = .ok (.aload_n 0, 1) := by decide +kernel
theorem dM_must_146 : decode cM_must 146 = .ok (.getfield 30, 3) := by decide +kernel
theorem dM_must_149 : decode cM_must 149 = .ok (.invokestatic 98, 3) := by decide +kernel
theorem dM_must_152 : decode cM_must 152 = .ok (.lreturn, 1) := by decide +kernel
theorem dM_median_0 : decode cM_median 0 = .ok (.aload_n 0, 1) := by decide +kernel
theorem dM_median_1 : decode cM_median 1 = .ok (.iload_n 1, 1) := by decide +kernel
theorem dM_median_2 : decode cM_median 2 = .ok (.invokevirtual 102, 3) := by decide +kernel
theorem dM_median_5 : decode cM_median 5 = .ok (.ifCond .ne 7, 3) := by decide +kernel
theorem dM_median_8 : decode cM_median 8 = .ok (.ldc2_w 106, 3) := by decide +kernel
theorem dM_median_11 : decode cM_median 11 = .ok (.lreturn, 1) := by decide +kernel
theorem dM_median_12 : decode cM_median 12 = .ok (.iconst 0, 1) := by decide +kernel
theorem dM_median_13 : decode cM_median 13 = .ok (.istore_n 2, 1) := by decide +kernel
theorem dM_median_14 : decode cM_median 14 = .ok (.iload_n 1, 1) := by decide +kernel
theorem dM_median_15 : decode cM_median 15 = .ok (.istore_n 3, 1) := by decide +kernel
theorem dM_median_16 : decode cM_median 16 = .ok (.iload_n 3, 1) := by decide +kernel
theorem dM_median_17 : decode cM_median 17 = .ok (.ifCond .lt 84, 3) := by decide +kernel
theorem dM_median_20 : decode cM_median 20 = .ok (.iload_n 2, 1) := by decide +kernel
theorem dM_median_21 : decode cM_median 21 = .ok (.bipush 11, 2) := by decide +kernel
theorem dM_median_23 : decode cM_median 23 = .ok (.if_icmp .ge 78, 3) := by decide +kernel
theorem dM_median_26 : decode cM_median 26 = .ok (.iload_n 2, 1) := by decide +kernel
theorem dM_median_27 : decode cM_median 27 = .ok (.istore 4, 2) := by decide +kernel
theorem dM_median_29 : decode cM_median 29 = .ok (.iload 4, 2) := by decide +kernel
theorem dM_median_31 : decode cM_median 31 = .ok (.ifCond .le 44, 3) := by decide +kernel
theorem dM_median_34 : decode cM_median 34 = .ok (.aload_n 0, 1) := by decide +kernel
theorem dM_median_35 : decode cM_median 35 = .ok (.getfield 39, 3) := by decide +kernel
theorem dM_median_38 : decode cM_median 38 = .ok (.iload 4, 2) := by decide +kernel
theorem dM_median_40 : decode cM_median 40 = .ok (.iconst 1, 1) := by decide +kernel
theorem dM_median_41 : decode cM_median 41 = .ok (.isub, 1) := by decide +kernel
theorem dM_median_42 : decode cM_median 42 = .ok (.laload, 1) := by decide +kernel
theorem dM_median_43 : decode cM_median 43 = .ok (.aload_n 0, 1) := by decide +kernel
theorem dM_median_44 : decode cM_median 44 = .ok (.getfield 16, 3) := by decide +kernel
theorem dM_median_47 : decode cM_median 47 = .ok (.iload_n 3, 1) := by decide +kernel
theorem dM_median_48 : decode cM_median 48 = .ok (.laload, 1) := by decide +kernel
theorem dM_median_49 : decode cM_median 49 = .ok (.lcmp, 1) := by decide +kernel
theorem dM_median_50 : decode cM_median 50 = .ok (.ifCond .le 25, 3) := by decide +kernel
theorem dM_median_53 : decode cM_median 53 = .ok (.aload_n 0, 1) := by decide +kernel
theorem dM_median_54 : decode cM_median 54 = .ok (.getfield 39, 3) := by decide +kernel
theorem dM_median_57 : decode cM_median 57 = .ok (.iload 4, 2) := by decide +kernel
theorem dM_median_59 : decode cM_median 59 = .ok (.aload_n 0, 1) := by decide +kernel
theorem dM_median_60 : decode cM_median 60 = .ok (.getfield 39, 3) := by decide +kernel
theorem dM_median_63 : decode cM_median 63 = .ok (.iload 4, 2) := by decide +kernel
theorem dM_median_65 : decode cM_median 65 = .ok (.iconst 1, 1) := by decide +kernel
theorem dM_median_66 : decode cM_median 66 = .ok (.isub, 1) := by decide +kernel
theorem dM_median_67 : decode cM_median 67 = .ok (.laload, 1) := by decide +kernel
theorem dM_median_68 : decode cM_median 68 = .ok (.lastore, 1) := by decide +kernel
theorem dM_median_69 : decode cM_median 69 = .ok (.iinc 4 (-1), 3) := by decide +kernel
theorem dM_median_72 : decode cM_median 72 = .ok (.goto (-43), 3) := by decide +kernel
theorem dM_median_75 : decode cM_median 75 = .ok (.aload_n 0, 1) := by decide +kernel
theorem dM_median_76 : decode cM_median 76 = .ok (.getfield 39, 3) := by decide +kernel
theorem dM_median_79 : decode cM_median 79 = .ok (.iload 4, 2) := by decide +kernel
theorem dM_median_81 : decode cM_median 81 = .ok (.aload_n 0, 1) := by decide +kernel
theorem dM_median_82 : decode cM_median 82 = .ok (.getfield 16, 3) := by decide +kernel
theorem dM_median_85 : decode cM_median 85 = .ok (.iload_n 3, 1) := by decide +kernel
theorem dM_median_86 : decode cM_median 86 = .ok (.laload, 1) := by decide +kernel
theorem dM_median_87 : decode cM_median 87 = .ok (.lastore, 1) := by decide +kernel
theorem dM_median_88 : decode cM_median 88 = .ok (.iinc 2 1, 3) := by decide +kernel
theorem dM_median_91 : decode cM_median 91 = .ok (.aload_n 0, 1) := by decide +kernel
theorem dM_median_92 : decode cM_median 92 = .ok (.getfield 7, 3) := by decide +kernel
theorem dM_median_95 : decode cM_median 95 = .ok (.iload_n 3, 1) := by decide +kernel
theorem dM_median_96 : decode cM_median 96 = .ok (.iaload, 1) := by decide +kernel
theorem dM_median_97 : decode cM_median 97 = .ok (.istore_n 3, 1) := by decide +kernel
theorem dM_median_98 : decode cM_median 98 = .ok (.goto (-82), 3) := by decide +kernel
theorem dM_median_101 : decode cM_median 101 = .ok (.aload_n 0, 1) := by decide +kernel
theorem dM_median_102 : decode cM_median 102 = .ok (.getfield 39, 3) := by decide +kernel
theorem dM_median_105 : decode cM_median 105 = .ok (.iload_n 2, 1) := by decide +kernel
theorem dM_median_106 : decode cM_median 106 = .ok (.iconst 2, 1) := by decide +kernel
theorem dM_median_107 : decode cM_median 107 = .ok (.idiv, 1) := by decide +kernel
theorem dM_median_108 : decode cM_median 108 = .ok (.laload, 1) := by decide +kernel
theorem dM_median_109 : decode cM_median 109 = .ok (.lreturn, 1) := by decide +kernel
theorem dM_add_0 : decode cM_add 0 = .ok (.aload_n 0, 1) := by decide +kernel
theorem dM_add_1 : decode cM_add 1 = .ok (.iload_n 1, 1) := by decide +kernel
theorem dM_add_2 : decode cM_add 2 = .ok (.invokevirtual 102, 3) := by decide +kernel
theorem dM_add_5 : decode cM_add 5 = .ok (.ifCond .ne 5, 3) := by decide +kernel
theorem dM_add_8 : decode cM_add 8 = .ok (.iconst (-1), 1) := by decide +kernel
theorem dM_add_9 : decode cM_add 9 = .ok (.ireturn, 1) := by decide +kernel
theorem dM_add_10 : decode cM_add 10 = .ok (.aload_n 0, 1) := by decide +kernel
theorem dM_add_11 : decode cM_add 11 = .ok (.getfield 23, 3) := by decide +kernel
theorem dM_add_14 : decode cM_add 14 = .ok (.iload_n 1, 1) := by decide +kernel
theorem dM_add_15 : decode cM_add 15 = .ok (.baload, 1) := by decide +kernel
theorem dM_add_16 : decode cM_add 16 = .ok (.ifCond .eq 6, 3) := by decide +kernel
theorem dM_add_19 : decode cM_add 19 = .ok (.bipush (-2), 2) := by decide +kernel
theorem dM_add_21 : decode cM_add 21 = .ok (.ireturn, 1) := by decide +kernel
theorem dM_add_22 : decode cM_add 22 = .ok (.lload 4, 2) := by decide +kernel
theorem dM_add_24 : decode cM_add 24 = .ok (.aload_n 0, 1) := by decide +kernel
theorem dM_add_25 : decode cM_add 25 = .ok (.iload_n 1, 1) := by decide +kernel
theorem dM_add_26 : decode cM_add 26 = .ok (.invokevirtual 122, 3) := by decide +kernel
theorem dM_add_29 : decode cM_add 29 = .ok (.lcmp, 1) := by decide +kernel
theorem dM_add_30 : decode cM_add 30 = .ok (.ifCond .eq 6, 3) := by decide +kernel
theorem dM_add_33 : decode cM_add 33 = .ok (.bipush (-3), 2) := by decide +kernel
theorem dM_add_35 : decode cM_add 35 = .ok (.ireturn, 1) := by decide +kernel
theorem dM_add_36 : decode cM_add 36 = .ok (.lload_n 2, 1) := by decide +kernel
theorem dM_add_37 : decode cM_add 37 = .ok (.ldc2_w 46, 3) := by decide +kernel
theorem dM_add_40 : decode cM_add 40 = .ok (.lcmp, 1) := by decide +kernel
theorem dM_add_41 : decode cM_add 41 = .ok (.ifCond .gt 13, 3) := by decide +kernel
theorem dM_add_44 : decode cM_add 44 = .ok (.lload_n 2, 1) := by decide +kernel
theorem dM_add_45 : decode cM_add 45 = .ok (.aload_n 0, 1) := by decide +kernel
theorem dM_add_46 : decode cM_add 46 = .ok (.iload_n 1, 1) := by decide +kernel
theorem dM_add_47 : decode cM_add 47 = .ok (.invokevirtual 126, 3) := by decide +kernel
theorem dM_add_50 : decode cM_add 50 = .ok (.lcmp, 1) := by decide +kernel
theorem dM_add_51 : decode cM_add 51 = .ok (.ifCond .gt 6, 3) := by decide +kernel
theorem dM_add_54 : decode cM_add 54 = .ok (.bipush (-4), 2) := by decide +kernel
theorem dM_add_56 : decode cM_add 56 = .ok (.ireturn, 1) := by decide +kernel
theorem dM_add_57 : decode cM_add 57 = .ok (.aload_n 0, 1) := by decide +kernel
theorem dM_add_58 : decode cM_add 58 = .ok (.getfield 54, 3) := by decide +kernel
theorem dM_add_61 : decode cM_add 61 = .ok (.aload_n 0, 1) := by decide +kernel
theorem dM_add_62 : decode cM_add 62 = .ok (.getfield 42, 3) := by decide +kernel
theorem dM_add_65 : decode cM_add 65 = .ok (.if_icmp .ne 6, 3) := by decide +kernel
theorem dM_add_68 : decode cM_add 68 = .ok (.bipush (-5), 2) := by decide +kernel
theorem dM_add_70 : decode cM_add 70 = .ok (.ireturn, 1) := by decide +kernel
theorem dM_add_71 : decode cM_add 71 = .ok (.aload_n 0, 1) := by decide +kernel
theorem dM_add_72 : decode cM_add 72 = .ok (.iload_n 1, 1) := by decide +kernel
theorem dM_add_73 : decode cM_add 73 = .ok (.lload_n 2, 1) := by decide +kernel
theorem dM_add_74 : decode cM_add 74 = .ok (.lload 4, 2) := by decide +kernel
theorem dM_add_76 : decode cM_add 76 = .ok (.invokevirtual 50, 3) := by decide +kernel
theorem dM_add_79 : decode cM_add 79 = .ok (.aload_n 0, 1) := by decide +kernel
theorem dM_add_80 : decode cM_add 80 = .ok (.getfield 54, 3) := by decide +kernel
theorem dM_add_83 : decode cM_add 83 = .ok (.iconst 1, 1) := by decide +kernel
theorem dM_add_84 : decode cM_add 84 = .ok (.isub, 1) := by decide +kernel
theorem dM_add_85 : decode cM_add 85 = .ok (.ireturn, 1) := by decide +kernel
theorem dM_spoil_0 : decode cM_spoil 0 = .ok (.aload_n 0, 1) := by decide +kernel
theorem dM_spoil_1 : decode cM_spoil 1 = .ok (.iload_n 1, 1) := by decide +kernel
theorem dM_spoil_2 : decode cM_spoil 2 = .ok (.invokevirtual 102, 3) := by decide +kernel
theorem dM_spoil_5 : decode cM_spoil 5 = .ok (.ifCond .eq 16, 3) := by decide +kernel
theorem dM_spoil_8 : decode cM_spoil 8 = .ok (.iload_n 1, 1) := by decide +kernel
theorem dM_spoil_9 : decode cM_spoil 9 = .ok (.ifCond .eq 12, 3) := by decide +kernel
theorem dM_spoil_12 : decode cM_spoil 12 = .ok (.aload_n 0, 1) := by decide +kernel
theorem dM_spoil_13 : decode cM_spoil 13 = .ok (.getfield 23, 3) := by decide +kernel
theorem dM_spoil_16 : decode cM_spoil 16 = .ok (.iload_n 1, 1) := by decide +kernel
theorem dM_spoil_17 : decode cM_spoil 17 = .ok (.baload, 1) := by decide +kernel
theorem dM_spoil_18 : decode cM_spoil 18 = .ok (.ifCond .eq 5, 3) := by decide +kernel
theorem dM_spoil_21 : decode cM_spoil 21 = .ok (.iconst 0, 1) := by decide +kernel
theorem dM_spoil_22 : decode cM_spoil 22 = .ok (.ireturn, 1) := by decide +kernel
theorem dM_spoil_23 : decode cM_spoil 23 = .ok (.iconst 0, 1) := by decide +kernel
theorem dM_spoil_24 : decode cM_spoil 24 = .ok (.istore_n 2, 1) := by decide +kernel
theorem dM_spoil_25 : decode cM_spoil 25 = .ok (.iconst 0, 1) := by decide +kernel
theorem dM_spoil_26 : decode cM_spoil 26 = .ok (.istore_n 3, 1) := by decide +kernel
theorem dM_spoil_27 : decode cM_spoil 27 = .ok (.iload_n 3, 1) := by decide +kernel
theorem dM_spoil_28 : decode cM_spoil 28 = .ok (.aload_n 0, 1) := by decide +kernel
theorem dM_spoil_29 : decode cM_spoil 29 = .ok (.getfield 54, 3) := by decide +kernel
theorem dM_spoil_32 : decode cM_spoil 32 = .ok (.if_icmp .ge 43, 3) := by decide +kernel
theorem dM_spoil_35 : decode cM_spoil 35 = .ok (.aload_n 0, 1) := by decide +kernel
theorem dM_spoil_36 : decode cM_spoil 36 = .ok (.getfield 23, 3) := by decide +kernel
theorem dM_spoil_39 : decode cM_spoil 39 = .ok (.iload_n 3, 1) := by decide +kernel
theorem dM_spoil_40 : decode cM_spoil 40 = .ok (.baload, 1) := by decide +kernel
theorem dM_spoil_41 : decode cM_spoil 41 = .ok (.ifCond .ne 28, 3) := by decide +kernel
theorem dM_spoil_44 : decode cM_spoil 44 = .ok (.aload_n 0, 1) := by decide +kernel
theorem dM_spoil_45 : decode cM_spoil 45 = .ok (.iload_n 3, 1) := by decide +kernel
theorem dM_spoil_46 : decode cM_spoil 46 = .ok (.aload_n 0, 1) := by decide +kernel
theorem dM_spoil_47 : decode cM_spoil 47 = .ok (.getfield 13, 3) := by decide +kernel
theorem dM_spoil_50 : decode cM_spoil 50 = .ok (.iload_n 1, 1) := by decide +kernel
theorem dM_spoil_51 : decode cM_spoil 51 = .ok (.iaload, 1) := by decide +kernel
theorem dM_spoil_52 : decode cM_spoil 52 = .ok (.invokevirtual 108, 3) := by decide +kernel
theorem dM_spoil_55 : decode cM_spoil 55 = .ok (.iload_n 1, 1) := by decide +kernel
theorem dM_spoil_56 : decode cM_spoil 56 = .ok (.if_icmp .ne 13, 3) := by decide +kernel
theorem dM_spoil_59 : decode cM_spoil 59 = .ok (.aload_n 0, 1) := by decide +kernel
theorem dM_spoil_60 : decode cM_spoil 60 = .ok (.getfield 23, 3) := by decide +kernel
theorem dM_spoil_63 : decode cM_spoil 63 = .ok (.iload_n 3, 1) := by decide +kernel
theorem dM_spoil_64 : decode cM_spoil 64 = .ok (.iconst 1, 1) := by decide +kernel
theorem dM_spoil_65 : decode cM_spoil 65 = .ok (.bastore, 1) := by decide +kernel
theorem dM_spoil_66 : decode cM_spoil 66 = .ok (.iinc 2 1, 3) := by decide +kernel
theorem dM_spoil_69 : decode cM_spoil 69 = .ok (.iinc 3 1, 3) := by decide +kernel
theorem dM_spoil_72 : decode cM_spoil 72 = .ok (.goto (-45), 3) := by decide +kernel
theorem dM_spoil_75 : decode cM_spoil 75 = .ok (.iload_n 2, 1) := by decide +kernel
theorem dM_spoil_76 : decode cM_spoil 76 = .ok (.ireturn, 1) := by decide +kernel
theorem dM_look_0 : decode cM_look 0 = .ok (.aload_n 0, 1) := by decide +kernel
theorem dM_look_1 : decode cM_look 1 = .ok (.iload_n 1, 1) := by decide +kernel
theorem dM_look_2 : decode cM_look 2 = .ok (.invokevirtual 102, 3) := by decide +kernel
theorem dM_look_5 : decode cM_look 5 = .ok (.ifCond .ne 7, 3) := by decide +kernel
theorem dM_look_8 : decode cM_look 8 = .ok (.ldc2_w 106, 3) := by decide +kernel
theorem dM_look_11 : decode cM_look 11 = .ok (.lreturn, 1) := by decide +kernel
theorem dM_look_12 : decode cM_look 12 = .ok (.iconst 0, 1) := by decide +kernel
theorem dM_look_13 : decode cM_look 13 = .ok (.istore_n 3, 1) := by decide +kernel
theorem dM_look_14 : decode cM_look 14 = .ok (.iconst 0, 1) := by decide +kernel
theorem dM_look_15 : decode cM_look 15 = .ok (.istore 4, 2) := by decide +kernel
theorem dM_look_17 : decode cM_look 17 = .ok (.iload 4, 2) := by decide +kernel
theorem dM_look_19 : decode cM_look 19 = .ok (.aload_n 0, 1) := by decide +kernel
theorem dM_look_20 : decode cM_look 20 = .ok (.getfield 54, 3) := by decide +kernel
theorem dM_look_23 : decode cM_look 23 = .ok (.if_icmp .ge 28, 3) := by decide +kernel
theorem dM_look_26 : decode cM_look 26 = .ok (.aload_n 0, 1) := by decide +kernel
theorem dM_look_27 : decode cM_look 27 = .ok (.getfield 7, 3) := by decide +kernel
theorem dM_look_30 : decode cM_look 30 = .ok (.iload 4, 2) := by decide +kernel
theorem dM_look_32 : decode cM_look 32 = .ok (.iaload, 1) := by decide +kernel
theorem dM_look_33 : decode cM_look 33 = .ok (.iload_n 1, 1) := by decide +kernel
theorem dM_look_34 : decode cM_look 34 = .ok (.if_icmp .ne 9, 3) := by decide +kernel
theorem dM_look_37 : decode cM_look 37 = .ok (.iload_n 3, 1) := by decide +kernel
theorem dM_look_38 : decode cM_look 38 = .ok (.iconst 1, 1) := by decide +kernel
theorem dM_look_39 : decode cM_look 39 = .ok (.iadd, 1) := by decide +kernel
theorem dM_look_40 : decode cM_look 40 = .ok (.goto 4, 3) := by decide +kernel
theorem dM_look_43 : decode cM_look 43 = .ok (.iload_n 3, 1) := by decide +kernel
theorem dM_look_44 : decode cM_look 44 = .ok (.istore_n 3, 1) := by decide +kernel
theorem dM_look_45 : decode cM_look 45 = .ok (.iinc 4 1, 3) := by decide +kernel
theorem dM_look_48 : decode cM_look 48 = .ok (.goto (-31), 3) := by decide +kernel
theorem dM_look_51 : decode cM_look 51 = .ok (.iload_n 2, 1) := by decide +kernel
theorem dM_look_52 : decode cM_look 52 = .ok (.ifCond .ne 13, 3) := by decide +kernel
theorem dM_look_55 : decode cM_look 55 = .ok (.aload_n 0, 1) := by decide +kernel
theorem dM_look_56 : decode cM_look 56 = .ok (.getfield 7, 3) := by decide +kernel
theorem dM_look_59 : decode cM_look 59 = .ok (.iload_n 1, 1) := by decide +kernel
theorem dM_look_60 : decode cM_look 60 = .ok (.iaload, 1) := by decide +kernel
theorem dM_look_61 : decode cM_look 61 = .ok (.i2l, 1) := by decide +kernel
theorem dM_look_62 : decode cM_look 62 = .ok (.goto 81, 3) := by decide +kernel
theorem dM_look_65 : decode cM_look 65 = .ok (.iload_n 2, 1) := by decide +kernel
theorem dM_look_66 : decode cM_look 66 = .ok (.iconst 1, 1) := by decide +kernel
theorem dM_look_67 : decode cM_look 67 = .ok (.if_icmp .ne 13, 3) := by decide +kernel
theorem dM_look_70 : decode cM_look 70 = .ok (.aload_n 0, 1) := by decide +kernel
theorem dM_look_71 : decode cM_look 71 = .ok (.getfield 13, 3) := by decide +kernel
theorem dM_look_74 : decode cM_look 74 = .ok (.iload_n 1, 1) := by decide +kernel
theorem dM_look_75 : decode cM_look 75 = .ok (.iaload, 1) := by decide +kernel
theorem dM_look_76 : decode cM_look 76 = .ok (.i2l, 1) := by decide +kernel
theorem dM_look_77 : decode cM_look 77 = .ok (.goto 66, 3) := by decide +kernel
theorem dM_look_80 : decode cM_look 80 = .ok (.iload_n 2, 1) := by decide +kernel
theorem dM_look_81 : decode cM_look 81 = .ok (.iconst 2, 1) := by decide +kernel
theorem dM_look_82 : decode cM_look 82 = .ok (.if_icmp .ne 12, 3) := by decide +kernel
theorem dM_look_85 : decode cM_look 85 = .ok (.aload_n 0, 1) := by decide +kernel
theorem dM_look_86 : decode cM_look 86 = .ok (.getfield 16, 3) := by decide +kernel
theorem dM_look_89 : decode cM_look 89 = .ok (.iload_n 1, 1) := by decide +kernel
theorem dM_look_90 : decode cM_look 90 = .ok (.laload, 1) := by decide +kernel
theorem dM_look_91 : decode cM_look 91 = .ok (.goto 52, 3) := by decide +kernel
theorem dM_look_94 : decode cM_look 94 = .ok (.iload_n 2, 1) := by decide +kernel
theorem dM_look_95 : decode cM_look 95 = .ok (.iconst 3, 1) := by decide +kernel
theorem dM_look_96 : decode cM_look 96 = .ok (.if_icmp .ne 12, 3) := by decide +kernel
theorem dM_look_99 : decode cM_look 99 = .ok (.aload_n 0, 1) := by decide +kernel
theorem dM_look_100 : decode cM_look 100 = .ok (.getfield 20, 3) := by decide +kernel
theorem dM_look_103 : decode cM_look 103 = .ok (.iload_n 1, 1) := by decide +kernel
theorem dM_look_104 : decode cM_look 104 = .ok (.laload, 1) := by decide +kernel
theorem dM_look_105 : decode cM_look 105 = .ok (.goto 38, 3) := by decide +kernel
theorem dM_look_108 : decode cM_look 108 = .ok (.iload_n 2, 1) := by decide +kernel
theorem dM_look_109 : decode cM_look 109 = .ok (.iconst 4, 1) := by decide +kernel
theorem dM_look_110 : decode cM_look 110 = .ok (.if_icmp .ne 20, 3) := by decide +kernel
theorem dM_look_113 : decode cM_look 113 = .ok (.aload_n 0, 1) := by decide +kernel
theorem dM_look_114 : decode cM_look 114 = .ok (.getfield 23, 3) := by decide +kernel
theorem dM_look_117 : decode cM_look 117 = .ok (.iload_n 1, 1) := by decide +kernel
theorem dM_look_118 : decode cM_look 118 = .ok (.baload, 1) := by decide +kernel
theorem dM_look_119 : decode cM_look 119 = .ok (.ifCond .eq 7, 3) := by decide +kernel
theorem dM_look_122 : decode cM_look 122 = .ok (.lconst 1, 1) := by decide +kernel
theorem dM_look_123 : decode cM_look 123 = .ok (.goto 20, 3) := by decide +kernel
theorem dM_look_126 : decode cM_look 126 = .ok (.lconst 0, 1) := by decide +kernel
theorem dM_look_127 : decode cM_look 127 = .ok (.goto 16, 3) := by decide +kernel
theorem dM_look_130 : decode cM_look 130 = .ok (.iload_n 2, 1) := by decide +kernel
theorem dM_look_131 : decode cM_look 131 = .ok (.iconst 5, 1) := by decide +kernel
theorem dM_look_132 : decode cM_look 132 = .ok (.if_icmp .ne 8, 3) := by decide +kernel
theorem dM_look_135 : decode cM_look 135 = .ok (.iload_n 3, 1) := by decide +kernel
theorem dM_look_136 : decode cM_look 136 = .ok (.i2l, 1) := by decide +kernel
theorem dM_look_137 : decode cM_look 137 = .ok (.goto 6, 3) := by decide +kernel
theorem dM_look_140 : decode cM_look 140 = .ok (.ldc2_w 106, 3) := by decide +kernel
theorem dM_look_143 : decode cM_look 143 = .ok (.lreturn, 1) := by decide +kernel
theorem dM_work_0 : decode cM_work 0 = .ok (.aload_n 0, 1) := by decide +kernel
theorem dM_work_1 : decode cM_work 1 = .ok (.iload_n 1, 1) := by decide +kernel
theorem dM_work_2 : decode cM_work 2 = .ok (.invokevirtual 102, 3) := by decide +kernel
theorem dM_work_5 : decode cM_work 5 = .ok (.ifCond .eq 27, 3) := by decide +kernel
theorem dM_work_8 : decode cM_work 8 = .ok (.iload_n 2, 1) := by decide +kernel
theorem dM_work_9 : decode cM_work 9 = .ok (.ifCond .lt 23, 3) := by decide +kernel
theorem dM_work_12 : decode cM_work 12 = .ok (.iload_n 2, 1) := by decide +kernel
theorem dM_work_13 : decode cM_work 13 = .ok (.iconst 3, 1) := by decide +kernel
theorem dM_work_14 : decode cM_work 14 = .ok (.if_icmp .gt 18, 3) := by decide +kernel
theorem dM_work_17 : decode cM_work 17 = .ok (.aload_n 0, 1) := by decide +kernel
theorem dM_work_18 : decode cM_work 18 = .ok (.getfield 27, 3) := by decide +kernel
theorem dM_work_21 : decode cM_work 21 = .ok (.bipush 40, 2) := by decide +kernel
theorem dM_work_23 : decode cM_work 23 = .ok (.iload_n 1, 1) := by decide +kernel
theorem dM_work_24 : decode cM_work 24 = .ok (.imul, 1) := by decide +kernel
theorem dM_work_25 : decode cM_work 25 = .ok (.iload_n 2, 1) := by decide +kernel
theorem dM_work_26 : decode cM_work 26 = .ok (.invokestatic 94, 3) := by decide +kernel
theorem dM_work_29 : decode cM_work 29 = .ok (.goto 4, 3) := by decide +kernel
theorem dM_work_32 : decode cM_work 32 = .ok (.lconst 0, 1) := by decide +kernel
theorem dM_work_33 : decode cM_work 33 = .ok (.lreturn, 1) := by decide +kernel
theorem dM_compare_0 : decode cM_compare 0 = .ok (.aload_n 0, 1) := by decide +kernel
theorem dM_compare_1 : decode cM_compare 1 = .ok (.iload_n 1, 1) := by decide +kernel
theorem dM_compare_2 : decode cM_compare 2 = .ok (.invokevirtual 102, 3) := by decide +kernel
theorem dM_compare_5 : decode cM_compare 5 = .ok (.ifCond .eq 11, 3) := by decide +kernel
theorem dM_compare_8 : decode cM_compare 8 = .ok (.aload_n 0, 1) := by decide +kernel
theorem dM_compare_9 : decode cM_compare 9 = .ok (.iload_n 2, 1) := by decide +kernel
theorem dM_compare_10 : decode cM_compare 10 = .ok (.invokevirtual 102, 3) := by decide +kernel
theorem dM_compare_13 : decode cM_compare 13 = .ok (.ifCond .ne 6, 3) := by decide +kernel
theorem dM_compare_16 : decode cM_compare 16 = .ok (.bipush (-2), 2) := by decide +kernel
theorem dM_compare_18 : decode cM_compare 18 = .ok (.ireturn, 1) := by decide +kernel
theorem dM_compare_19 : decode cM_compare 19 = .ok (.iconst 0, 1) := by decide +kernel
theorem dM_compare_20 : decode cM_compare 20 = .ok (.istore_n 3, 1) := by decide +kernel
theorem dM_compare_21 : decode cM_compare 21 = .ok (.iconst 0, 1) := by decide +kernel
theorem dM_compare_22 : decode cM_compare 22 = .ok (.istore 4, 2) := by decide +kernel
theorem dM_compare_24 : decode cM_compare 24 = .ok (.iload 4, 2) := by decide +kernel
theorem dM_compare_26 : decode cM_compare 26 = .ok (.bipush 40, 2) := by decide +kernel
theorem dM_compare_28 : decode cM_compare 28 = .ok (.if_icmp .ge 61, 3) := by decide +kernel
theorem dM_compare_31 : decode cM_compare 31 = .ok (.aload_n 0, 1) := by decide +kernel
theorem dM_compare_32 : decode cM_compare 32 = .ok (.getfield 27, 3) := by decide +kernel
theorem dM_compare_35 : decode cM_compare 35 = .ok (.bipush 40, 2) := by decide +kernel
theorem dM_compare_37 : decode cM_compare 37 = .ok (.iload_n 1, 1) := by decide +kernel
theorem dM_compare_38 : decode cM_compare 38 = .ok (.imul, 1) := by decide +kernel
theorem dM_compare_39 : decode cM_compare 39 = .ok (.iload 4, 2) := by decide +kernel
theorem dM_compare_41 : decode cM_compare 41 = .ok (.iadd, 1) := by decide +kernel
theorem dM_compare_42 : decode cM_compare 42 = .ok (.iaload, 1) := by decide +kernel
theorem dM_compare_43 : decode cM_compare 43 = .ok (.istore 5, 2) := by decide +kernel
theorem dM_compare_45 : decode cM_compare 45 = .ok (.aload_n 0, 1) := by decide +kernel
theorem dM_compare_46 : decode cM_compare 46 = .ok (.getfield 27, 3) := by decide +kernel
theorem dM_compare_49 : decode cM_compare 49 = .ok (.bipush 40, 2) := by decide +kernel
theorem dM_compare_51 : decode cM_compare 51 = .ok (.iload_n 2, 1) := by decide +kernel
theorem dM_compare_52 : decode cM_compare 52 = .ok (.imul, 1) := by decide +kernel
theorem dM_compare_53 : decode cM_compare 53 = .ok (.iload 4, 2) := by decide +kernel
theorem dM_compare_55 : decode cM_compare 55 = .ok (.iadd, 1) := by decide +kernel
theorem dM_compare_56 : decode cM_compare 56 = .ok (.iaload, 1) := by decide +kernel
theorem dM_compare_57 : decode cM_compare 57 = .ok (.istore 6, 2) := by decide +kernel
theorem dM_compare_59 : decode cM_compare 59 = .ok (.iload 5, 2) := by decide +kernel
theorem dM_compare_61 : decode cM_compare 61 = .ok (.iload 6, 2) := by decide +kernel
theorem dM_compare_63 : decode cM_compare 63 = .ok (.if_icmp .ge 7, 3) := by decide +kernel
theorem dM_compare_66 : decode cM_compare 66 = .ok (.iconst (-1), 1) := by decide +kernel
theorem dM_compare_67 : decode cM_compare 67 = .ok (.goto 15, 3) := by decide +kernel
theorem dM_compare_70 : decode cM_compare 70 = .ok (.iload 5, 2) := by decide +kernel
theorem dM_compare_72 : decode cM_compare 72 = .ok (.iload 6, 2) := by decide +kernel
theorem dM_compare_74 : decode cM_compare 74 = .ok (.if_icmp .le 7, 3) := by decide +kernel
theorem dM_compare_77 : decode cM_compare 77 = .ok (.iconst 1, 1) := by decide +kernel
theorem dM_compare_78 : decode cM_compare 78 = .ok (.goto 4, 3) := by decide +kernel
theorem dM_compare_81 : decode cM_compare 81 = .ok (.iload_n 3, 1) := by decide +kernel
theorem dM_compare_82 : decode cM_compare 82 = .ok (.istore_n 3, 1) := by decide +kernel
theorem dM_compare_83 : decode cM_compare 83 = .ok (.iinc 4 1, 3) := by decide +kernel
theorem dM_compare_86 : decode cM_compare 86 = .ok (.goto (-62), 3) := by decide +kernel
theorem dM_compare_89 : decode cM_compare 89 = .ok (.iload_n 3, 1) := by decide +kernel
theorem dM_compare_90 : decode cM_compare 90 = .ok (.ireturn, 1) := by decide +kernel
theorem dM_tip_0 : decode cM_tip 0 = .ok (.iconst 0, 1) := by decide +kernel
theorem dM_tip_1 : decode cM_tip 1 = .ok (.istore_n 1, 1) := by decide +kernel
theorem dM_tip_2 : decode cM_tip 2 = .ok (.iconst 1, 1) := by decide +kernel
theorem dM_tip_3 : decode cM_tip 3 = .ok (.istore_n 2, 1) := by decide +kernel
theorem dM_tip_4 : decode cM_tip 4 = .ok (.iload_n 2, 1) := by decide +kernel
theorem dM_tip_5 : decode cM_tip 5 = .ok (.aload_n 0, 1) := by decide +kernel
theorem dM_tip_6 : decode cM_tip 6 = .ok (.getfield 54, 3) := by decide +kernel
theorem dM_tip_9 : decode cM_tip 9 = .ok (.if_icmp .ge 33, 3) := by decide +kernel
theorem dM_tip_12 : decode cM_tip 12 = .ok (.aload_n 0, 1) := by decide +kernel
theorem dM_tip_13 : decode cM_tip 13 = .ok (.getfield 23, 3) := by decide +kernel
theorem dM_tip_16 : decode cM_tip 16 = .ok (.iload_n 2, 1) := by decide +kernel
theorem dM_tip_17 : decode cM_tip 17 = .ok (.baload, 1) := by decide +kernel
theorem dM_tip_18 : decode cM_tip 18 = .ok (.ifCond .ne 16, 3) := by decide +kernel
theorem dM_tip_21 : decode cM_tip 21 = .ok (.aload_n 0, 1) := by decide +kernel
theorem dM_tip_22 : decode cM_tip 22 = .ok (.iload_n 2, 1) := by decide +kernel
theorem dM_tip_23 : decode cM_tip 23 = .ok (.iload_n 1, 1) := by decide +kernel
theorem dM_tip_24 : decode cM_tip 24 = .ok (.invokevirtual 129, 3) := by decide +kernel
theorem dM_tip_27 : decode cM_tip 27 = .ok (.ifCond .le 7, 3) := by decide +kernel
theorem dM_tip_30 : decode cM_tip 30 = .ok (.iload_n 2, 1) := by decide +kernel
theorem dM_tip_31 : decode cM_tip 31 = .ok (.goto 4, 3) := by decide +kernel
theorem dM_tip_34 : decode cM_tip 34 = .ok (.iload_n 1, 1) := by decide +kernel
theorem dM_tip_35 : decode cM_tip 35 = .ok (.istore_n 1, 1) := by decide +kernel
theorem dM_tip_36 : decode cM_tip 36 = .ok (.iinc 2 1, 3) := by decide +kernel
theorem dM_tip_39 : decode cM_tip 39 = .ok (.goto (-35), 3) := by decide +kernel
theorem dM_tip_42 : decode cM_tip 42 = .ok (.iload_n 1, 1) := by decide +kernel
theorem dM_tip_43 : decode cM_tip 43 = .ok (.ireturn, 1) := by decide +kernel
theorem dM_size_0 : decode cM_size 0 = .ok (.aload_n 0, 1) := by decide +kernel
theorem dM_size_1 : decode cM_size 1 = .ok (.getfield 54, 3) := by decide +kernel
theorem dM_size_4 : decode cM_size 4 = .ok (.ireturn, 1) := by decide +kernel
theorem dM_fork_0 : decode cM_fork 0 = .ok (.aload_n 0, 1) := by decide +kernel
theorem dM_fork_1 : decode cM_fork 1 = .ok (.iload_n 1, 1) := by decide +kernel
theorem dM_fork_2 : decode cM_fork 2 = .ok (.invokevirtual 102, 3) := by decide +kernel
theorem dM_fork_5 : decode cM_fork 5 = .ok (.ifCond .eq 11, 3) := by decide +kernel
theorem dM_fork_8 : decode cM_fork 8 = .ok (.aload_n 0, 1) := by decide +kernel
theorem dM_fork_9 : decode cM_fork 9 = .ok (.iload_n 2, 1) := by decide +kernel
theorem dM_fork_10 : decode cM_fork 10 = .ok (.invokevirtual 102, 3) := by decide +kernel
theorem dM_fork_13 : decode cM_fork 13 = .ok (.ifCond .ne 5, 3) := by decide +kernel
theorem dM_fork_16 : decode cM_fork 16 = .ok (.iconst (-1), 1) := by decide +kernel
theorem dM_fork_17 : decode cM_fork 17 = .ok (.ireturn, 1) := by decide +kernel
theorem dM_fork_18 : decode cM_fork 18 = .ok (.iload_n 1, 1) := by decide +kernel
theorem dM_fork_19 : decode cM_fork 19 = .ok (.istore_n 3, 1) := by decide +kernel
theorem dM_fork_20 : decode cM_fork 20 = .ok (.aload_n 0, 1) := by decide +kernel
theorem dM_fork_21 : decode cM_fork 21 = .ok (.iload_n 2, 1) := by decide +kernel
theorem dM_fork_22 : decode cM_fork 22 = .ok (.aload_n 0, 1) := by decide +kernel
theorem dM_fork_23 : decode cM_fork 23 = .ok (.getfield 13, 3) := by decide +kernel
theorem dM_fork_26 : decode cM_fork 26 = .ok (.iload_n 3, 1) := by decide +kernel
theorem dM_fork_27 : decode cM_fork 27 = .ok (.iaload, 1) := by decide +kernel
theorem dM_fork_28 : decode cM_fork 28 = .ok (.invokevirtual 108, 3) := by decide +kernel
theorem dM_fork_31 : decode cM_fork 31 = .ok (.iload_n 3, 1) := by decide +kernel
theorem dM_fork_32 : decode cM_fork 32 = .ok (.if_icmp .eq 13, 3) := by decide +kernel
theorem dM_fork_35 : decode cM_fork 35 = .ok (.aload_n 0, 1) := by decide +kernel
theorem dM_fork_36 : decode cM_fork 36 = .ok (.getfield 7, 3) := by decide +kernel
theorem dM_fork_39 : decode cM_fork 39 = .ok (.iload_n 3, 1) := by decide +kernel
theorem dM_fork_40 : decode cM_fork 40 = .ok (.iaload, 1) := by decide +kernel
theorem dM_fork_41 : decode cM_fork 41 = .ok (.istore_n 3, 1) := by decide +kernel
theorem dM_fork_42 : decode cM_fork 42 = .ok (.goto (-22), 3) := by decide +kernel
theorem dM_fork_45 : decode cM_fork 45 = .ok (.iload_n 3, 1) := by decide +kernel
theorem dM_fork_46 : decode cM_fork 46 = .ok (.ireturn, 1) := by decide +kernel
theorem dM_row_0 : decode cM_row 0 = .ok (.aload_n 0, 1) := by decide +kernel
theorem dM_row_1 : decode cM_row 1 = .ok (.iload_n 1, 1) := by decide +kernel
theorem dM_row_2 : decode cM_row 2 = .ok (.invokevirtual 102, 3) := by decide +kernel
theorem dM_row_5 : decode cM_row 5 = .ok (.ifCond .eq 7, 3) := by decide +kernel
theorem dM_row_8 : decode cM_row 8 = .ok (.iload_n 2, 1) := by decide +kernel
theorem dM_row_9 : decode cM_row 9 = .ok (.ifCond .ge 5, 3) := by decide +kernel
theorem dM_row_12 : decode cM_row 12 = .ok (.iconst (-1), 1) := by decide +kernel
theorem dM_row_13 : decode cM_row 13 = .ok (.ireturn, 1) := by decide +kernel
theorem dM_row_14 : decode cM_row 14 = .ok (.aload_n 0, 1) := by decide +kernel
theorem dM_row_15 : decode cM_row 15 = .ok (.getfield 13, 3) := by decide +kernel
theorem dM_row_18 : decode cM_row 18 = .ok (.iload_n 1, 1) := by decide +kernel
theorem dM_row_19 : decode cM_row 19 = .ok (.iaload, 1) := by decide +kernel
theorem dM_row_20 : decode cM_row 20 = .ok (.istore_n 3, 1) := by decide +kernel
theorem dM_row_21 : decode cM_row 21 = .ok (.iconst 1, 1) := by decide +kernel
theorem dM_row_22 : decode cM_row 22 = .ok (.istore 4, 2) := by decide +kernel
theorem dM_row_24 : decode cM_row 24 = .ok (.iconst 0, 1) := by decide +kernel
theorem dM_row_25 : decode cM_row 25 = .ok (.istore 5, 2) := by decide +kernel
theorem dM_row_27 : decode cM_row 27 = .ok (.iload 5, 2) := by decide +kernel
theorem dM_row_29 : decode cM_row 29 = .ok (.iload_n 2, 1) := by decide +kernel
theorem dM_row_30 : decode cM_row 30 = .ok (.if_icmp .ge 48, 3) := by decide +kernel
theorem dM_row_33 : decode cM_row 33 = .ok (.iload_n 3, 1) := by decide +kernel
theorem dM_row_34 : decode cM_row 34 = .ok (.ifCond .ne 5, 3) := by decide +kernel
theorem dM_row_37 : decode cM_row 37 = .ok (.iconst (-1), 1) := by decide +kernel
theorem dM_row_38 : decode cM_row 38 = .ok (.ireturn, 1) := by decide +kernel
theorem dM_row_39 : decode cM_row 39 = .ok (.iload 5, 2) := by decide +kernel
theorem dM_row_41 : decode cM_row 41 = .ok (.bipush 9, 2) := by decide +kernel
theorem dM_row_43 : decode cM_row 43 = .ok (.if_icmp .ge 7, 3) := by decide +kernel
theorem dM_row_46 : decode cM_row 46 = .ok (.iconst 1, 1) := by decide +kernel
theorem dM_row_47 : decode cM_row 47 = .ok (.goto 7, 3) := by decide +kernel
theorem dM_row_50 : decode cM_row 50 = .ok (.iconst 2, 1) := by decide +kernel
theorem dM_row_51 : decode cM_row 51 = .ok (.iload 4, 2) := by decide +kernel
theorem dM_row_53 : decode cM_row 53 = .ok (.imul, 1) := by decide +kernel
theorem dM_row_54 : decode cM_row 54 = .ok (.istore 4, 2) := by decide +kernel
theorem dM_row_56 : decode cM_row 56 = .ok (.iload_n 3, 1) := by decide +kernel
theorem dM_row_57 : decode cM_row 57 = .ok (.iload 4, 2) := by decide +kernel
theorem dM_row_59 : decode cM_row 59 = .ok (.isub, 1) := by decide +kernel
theorem dM_row_60 : decode cM_row 60 = .ok (.ifCond .ge 7, 3) := by decide +kernel
theorem dM_row_63 : decode cM_row 63 = .ok (.iconst 0, 1) := by decide +kernel
theorem dM_row_64 : decode cM_row 64 = .ok (.goto 7, 3) := by decide +kernel
theorem dM_row_67 : decode cM_row 67 = .ok (.iload_n 3, 1) := by decide +kernel
theorem dM_row_68 : decode cM_row 68 = .ok (.iload 4, 2) := by decide +kernel
theorem dM_row_70 : decode cM_row 70 = .ok (.isub, 1) := by decide +kernel
theorem dM_row_71 : decode cM_row 71 = .ok (.istore_n 3, 1) := by decide +kernel
theorem dM_row_72 : decode cM_row 72 = .ok (.iinc 5 1, 3) := by decide +kernel
theorem dM_row_75 : decode cM_row 75 = .ok (.goto (-48), 3) := by decide +kernel
theorem dM_row_78 : decode cM_row 78 = .ok (.aload_n 0, 1) := by decide +kernel
theorem dM_row_79 : decode cM_row 79 = .ok (.iload_n 1, 1) := by decide +kernel
theorem dM_row_80 : decode cM_row 80 = .ok (.iload_n 3, 1) := by decide +kernel
theorem dM_row_81 : decode cM_row 81 = .ok (.invokevirtual 108, 3) := by decide +kernel
theorem dM_row_84 : decode cM_row 84 = .ok (.ireturn, 1) := by decide +kernel
