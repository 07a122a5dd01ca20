theorem iT_init_R : ∀ w ∈ uR, w ∈ wT_init := by decide +kernel
theorem iT_init_W : ∀ w ∈ uW, w ∈ wT_init := by decide +kernel
theorem iT_init_T : ∀ w ∈ uT, w ∈ wT_init := by decide +kernel
set_option maxRecDepth 20000 in
theorem ggT_init_R_init : GoodIn wT_init wR_init := goodIn_q _ [37, 38, 2, 3, 9, 39, 104] (by decide +kernel) (by decide +kernel)
set_option maxRecDepth 20000 in
theorem ggT_init_W_init : GoodIn wT_init wW_init := goodIn_q _ [40, 41, 2, 3, 9, 42, 43, 44, 45, 46, 105, 106, 107, 108] (by decide +kernel) (by decide +kernel)
set_option maxRecDepth 20000 in
theorem ggT_init_W_ofBits : GoodIn wT_init wW_ofBits := goodIn_q _ [47, 46, 48, 49, 50, 23, 51, 52, 53, 44, 54, 55, 56, 57, 42, 58, 59, 60, 61, 62, 63, 64, 65, 66, 67, 68, 43, 69, 70, 71, 72, 73, 74, 75, 76, 77, 78, 79, 80, 81, 82, 83, 84, 85, 86, 87, 88, 89, 90, 91, 92, 93, 94, 95, 96, 97, 98, 99, 100, 101, 102, 103, 105, 106, 107, 108] (by decide +kernel) (by decide +kernel)
set_option maxRecDepth 20000 in
theorem gT_init_W_ofBits_60 : GoodIn wT_init (wsV RT 60 RW yW_ofBits wW_ofBits) := goodIn_pp (goodIn_of _ (by decide +kernel)) ggT_init_W_ofBits
theorem iT_isBlock_T : ∀ w ∈ uT, w ∈ wT_isBlock := by decide +kernel
theorem iT_ancestor_T : ∀ w ∈ uT, w ∈ wT_ancestor := by decide +kernel
theorem iT_must_R : ∀ w ∈ uR, w ∈ wT_must := by decide +kernel
theorem iT_must_T : ∀ w ∈ uT, w ∈ wT_must := by decide +kernel
set_option maxRecDepth 20000 in
theorem ggT_must_T_isBlock : GoodIn wT_must wT_isBlock := goodIn_q _ [17, 18, 68, 69, 70, 71, 72, 73, 74, 75, 76, 77, 78, 79, 80] (by decide +kernel) (by decide +kernel)
set_option maxRecDepth 20000 in
theorem gT_must_T_isBlock_76 : GoodIn wT_must (wsV RT 76 RT yT_isBlock wT_isBlock) := goodIn_pp (goodIn_of _ (by decide +kernel)) ggT_must_T_isBlock
set_option maxRecDepth 20000 in
theorem ggT_must_T_ancestor : GoodIn wT_must wT_ancestor := goodIn_q _ [19, 6, 20, 68, 69, 70, 71, 72, 73, 74, 75, 76, 77, 78, 79, 80] (by decide +kernel) (by decide +kernel)
set_option maxRecDepth 20000 in
theorem gT_must_T_ancestor_101 : GoodIn wT_must (wsV RT 101 RT yT_ancestor wT_ancestor) := goodIn_pp (goodIn_of _ (by decide +kernel)) ggT_must_T_ancestor
set_option maxRecDepth 20000 in
theorem ggT_must_R_next : GoodIn wT_must wR_next := goodIn_q _ [21, 22, 23, 24, 25, 26, 27, 28, 29, 30, 31, 32, 33, 16, 34, 35, 36, 37, 38, 39, 40, 41, 42, 43, 44, 45, 46, 47, 48, 49, 50, 51, 52, 53, 54, 55, 56, 57, 58, 59, 60, 61, 62, 63, 64, 65, 66, 67] (by decide +kernel) (by decide +kernel)
set_option maxRecDepth 20000 in
theorem gT_must_R_next_105 : GoodIn wT_must (wsV RT 105 RR yR_next wR_next) := goodIn_pp (goodIn_of _ (by decide +kernel)) ggT_must_R_next
theorem iT_rank_T : ∀ w ∈ uT, w ∈ wT_rank := by decide +kernel
theorem iT_median_T : ∀ w ∈ uT, w ∈ wT_median := by decide +kernel
set_option maxRecDepth 20000 in
theorem ggT_median_T_isBlock : GoodIn wT_median wT_isBlock := goodIn_q _ [12, 13, 15, 16, 17, 18, 19, 20, 21, 22, 23, 24, 25, 26, 27] (by decide +kernel) (by decide +kernel)
set_option maxRecDepth 20000 in
theorem gT_median_T_isBlock_76 : GoodIn wT_median (wsV RT 76 RT yT_isBlock wT_isBlock) := goodIn_pp (goodIn_of _ (by decide +kernel)) ggT_median_T_isBlock
set_option maxRecDepth 20000 in
theorem ggT_median_T_rank : GoodIn wT_median wT_rank := goodIn_q _ [14, 11, 15, 16, 17, 18, 19, 20, 21, 22, 23, 24, 25, 26, 27] (by decide +kernel) (by decide +kernel)
set_option maxRecDepth 20000 in
theorem gT_median_T_rank_109 : GoodIn wT_median (wsV RT 109 RT yT_rank wT_rank) := goodIn_pp (goodIn_of _ (by decide +kernel)) ggT_median_T_rank
theorem iT_sumWork_T : ∀ w ∈ uT, w ∈ wT_sumWork := by decide +kernel
theorem iT_compareWorks_T : ∀ w ∈ uT, w ∈ wT_compareWorks := by decide +kernel
theorem iT_append_W : ∀ w ∈ uW, w ∈ wT_append := by decide +kernel
theorem iT_append_T : ∀ w ∈ uT, w ∈ wT_append := by decide +kernel
set_option maxRecDepth 20000 in
theorem ggT_append_W_ofBits : GoodIn wT_append wW_ofBits := goodIn_q _ [20, 21, 22, 23, 24, 11, 25, 26, 27, 28, 29, 30, 31, 32, 33, 34, 35, 36, 37, 38, 39, 40, 41, 42, 43, 44, 45, 46, 47, 48, 49, 50, 51, 52, 53, 54, 55, 56, 57, 58, 59, 60, 61, 62, 63, 64, 65, 66, 67, 68, 69, 70, 71, 72, 73, 74, 75, 76, 77, 78, 79, 80, 85, 86, 87, 88] (by decide +kernel) (by decide +kernel)
set_option maxRecDepth 20000 in
theorem gT_append_W_ofBits_60 : GoodIn wT_append (wsV RT 60 RW yW_ofBits wW_ofBits) := goodIn_pp (goodIn_of _ (by decide +kernel)) ggT_append_W_ofBits
set_option maxRecDepth 20000 in
theorem ggT_append_T_sumWork : GoodIn wT_append wT_sumWork := goodIn_q _ [81, 82, 83, 89, 90, 91, 92, 93, 94, 95, 96, 97, 98, 99, 100, 101] (by decide +kernel) (by decide +kernel)
set_option maxRecDepth 20000 in
theorem gT_append_T_sumWork_136 : GoodIn wT_append (wsV RT 136 RT yT_sumWork wT_sumWork) := goodIn_pp (goodIn_of _ (by decide +kernel)) ggT_append_T_sumWork
set_option maxRecDepth 20000 in
theorem ggT_append_T_compareWorks : GoodIn wT_append wT_compareWorks := goodIn_q _ [84, 82, 89, 90, 91, 92, 93, 94, 95, 96, 97, 98, 99, 100, 101] (by decide +kernel) (by decide +kernel)
set_option maxRecDepth 20000 in
theorem gT_append_T_compareWorks_116 : GoodIn wT_append (wsV RT 116 RT yT_compareWorks wT_compareWorks) := goodIn_pp (goodIn_of _ (by decide +kernel)) ggT_append_T_compareWorks
theorem iT_add_R : ∀ w ∈ uR, w ∈ wT_add := by decide +kernel
theorem iT_add_W : ∀ w ∈ uW, w ∈ wT_add := by decide +kernel
theorem iT_add_T : ∀ w ∈ uT, w ∈ wT_add := by decide +kernel
set_option maxRecDepth 20000 in
theorem ggT_add_T_isBlock : GoodIn wT_add wT_isBlock := goodIn_q _ [18, 13, 157, 158, 159, 160, 161, 162, 163, 164, 165, 166, 167, 168, 169] (by decide +kernel) (by decide +kernel)
set_option maxRecDepth 20000 in
theorem gT_add_T_isBlock_76 : GoodIn wT_add (wsV RT 76 RT yT_isBlock wT_isBlock) := goodIn_pp (goodIn_of _ (by decide +kernel)) ggT_add_T_isBlock
set_option maxRecDepth 20000 in
theorem ggT_add_T_must : GoodIn wT_add wT_must := goodIn_q _ [19, 1, 2, 3, 4, 20, 21, 22, 23, 24, 25, 26, 27, 28, 29, 30, 31, 18, 13, 32, 33, 34, 35, 36, 37, 38, 39, 40, 41, 42, 43, 44, 45, 46, 47, 48, 49, 50, 51, 52, 53, 54, 55, 56, 57, 58, 59, 60, 61, 62, 63, 64, 65, 66, 67, 68, 69, 70, 71, 72, 73, 74, 75, 76, 77, 78, 79, 152, 157, 158, 159, 160, 161, 162, 163, 164, 165, 166, 167, 168, 169] (by decide +kernel) (by decide +kernel)
set_option maxRecDepth 20000 in
theorem gT_add_T_must_80 : GoodIn wT_add (wsV RT 80 RT yT_must wT_must) := goodIn_pp (goodIn_of _ (by decide +kernel)) ggT_add_T_must
set_option maxRecDepth 20000 in
theorem ggT_add_T_median : GoodIn wT_add wT_median := goodIn_q _ [80, 1, 2, 3, 4, 20, 27, 81, 82, 83, 33, 84, 18, 13, 85, 157, 158, 159, 160, 161, 162, 163, 164, 165, 166, 167, 168, 169] (by decide +kernel) (by decide +kernel)
set_option maxRecDepth 20000 in
theorem gT_add_T_median_84 : GoodIn wT_add (wsV RT 84 RT yT_median wT_median) := goodIn_pp (goodIn_of _ (by decide +kernel)) ggT_add_T_median
set_option maxRecDepth 20000 in
theorem ggT_add_T_append : GoodIn wT_add wT_append := goodIn_q _ [86, 13, 33, 21, 27, 22, 87, 88, 89, 90, 91, 92, 93, 94, 95, 4, 96, 97, 98, 99, 100, 101, 102, 103, 104, 105, 106, 107, 108, 109, 110, 60, 53, 111, 112, 62, 63, 64, 65, 66, 67, 68, 69, 70, 113, 114, 115, 116, 117, 118, 119, 120, 121, 122, 39, 123, 124, 125, 126, 127, 128, 129, 130, 131, 132, 133, 134, 135, 136, 137, 138, 139, 140, 141, 142, 143, 144, 145, 146, 147, 148, 149, 150, 12, 151, 153, 154, 155, 156, 157, 158, 159, 160, 161, 162, 163, 164, 165, 166, 167, 168, 169] (by decide +kernel) (by decide +kernel)
set_option maxRecDepth 20000 in
theorem gT_add_T_append_87 : GoodIn wT_add (wsV RT 87 RT yT_append wT_append) := goodIn_pp (goodIn_of _ (by decide +kernel)) ggT_add_T_append
theorem iT_spoilBehind_T : ∀ w ∈ uT, w ∈ wT_spoilBehind := by decide +kernel
theorem iT_findBest_T : ∀ w ∈ uT, w ∈ wT_findBest := by decide +kernel
set_option maxRecDepth 20000 in
theorem ggT_findBest_T_compareWorks : GoodIn wT_findBest wT_compareWorks := goodIn_q _ [7, 8, 9, 10, 11, 12, 13, 14, 15, 16, 17, 18, 19, 20, 21] (by decide +kernel) (by decide +kernel)
set_option maxRecDepth 20000 in
theorem gT_findBest_T_compareWorks_116 : GoodIn wT_findBest (wsV RT 116 RT yT_compareWorks wT_compareWorks) := goodIn_pp (goodIn_of _ (by decide +kernel)) ggT_findBest_T_compareWorks
theorem iT_spoil_T : ∀ w ∈ uT, w ∈ wT_spoil := by decide +kernel
set_option maxRecDepth 20000 in
theorem ggT_spoil_T_isBlock : GoodIn wT_spoil wT_isBlock := goodIn_q _ [13, 14, 23, 24, 25, 26, 27, 28, 29, 30, 31, 32, 33, 34, 35] (by decide +kernel) (by decide +kernel)
set_option maxRecDepth 20000 in
theorem gT_spoil_T_isBlock_76 : GoodIn wT_spoil (wsV RT 76 RT yT_isBlock wT_isBlock) := goodIn_pp (goodIn_of _ (by decide +kernel)) ggT_spoil_T_isBlock
set_option maxRecDepth 20000 in
theorem ggT_spoil_T_spoilBehind : GoodIn wT_spoil wT_spoilBehind := goodIn_q _ [15, 14, 5, 16, 23, 24, 25, 26, 27, 28, 29, 30, 31, 32, 33, 34, 35] (by decide +kernel) (by decide +kernel)
set_option maxRecDepth 20000 in
theorem gT_spoil_T_spoilBehind_91 : GoodIn wT_spoil (wsV RT 91 RT yT_spoilBehind wT_spoilBehind) := goodIn_pp (goodIn_of _ (by decide +kernel)) ggT_spoil_T_spoilBehind
set_option maxRecDepth 20000 in
theorem ggT_spoil_T_findBest : GoodIn wT_spoil wT_findBest := goodIn_q _ [17, 14, 5, 18, 19, 20, 4, 21, 22, 23, 24, 25, 26, 27, 28, 29, 30, 31, 32, 33, 34, 35] (by decide +kernel) (by decide +kernel)
set_option maxRecDepth 20000 in
theorem gT_spoil_T_findBest_95 : GoodIn wT_spoil (wsV RT 95 RT yT_findBest wT_findBest) := goodIn_pp (goodIn_of _ (by decide +kernel)) ggT_spoil_T_findBest
theorem iT_look_T : ∀ w ∈ uT, w ∈ wT_look := by decide +kernel
set_option maxRecDepth 20000 in
theorem ggT_look_T_isBlock : GoodIn wT_look wT_isBlock := goodIn_q _ [12, 13, 14, 15, 16, 17, 18, 19, 20, 21, 22, 23, 24, 25, 26] (by decide +kernel) (by decide +kernel)
set_option maxRecDepth 20000 in
theorem gT_look_T_isBlock_76 : GoodIn wT_look (wsV RT 76 RT yT_isBlock wT_isBlock) := goodIn_pp (goodIn_of _ (by decide +kernel)) ggT_look_T_isBlock
theorem iT_work_T : ∀ w ∈ uT, w ∈ wT_work := by decide +kernel
set_option maxRecDepth 20000 in
theorem ggT_work_T_isBlock : GoodIn wT_work wT_isBlock := goodIn_q _ [9, 10, 12, 13, 14, 15, 16, 17, 18, 19, 20, 21, 22, 23, 24] (by decide +kernel) (by decide +kernel)
set_option maxRecDepth 20000 in
theorem gT_work_T_isBlock_76 : GoodIn wT_work (wsV RT 76 RT yT_isBlock wT_isBlock) := goodIn_pp (goodIn_of _ (by decide +kernel)) ggT_work_T_isBlock
set_option maxRecDepth 20000 in
theorem ggT_work_B_join : GoodIn wT_work wB_join := goodIn_q _ [11] (by decide +kernel) (by decide +kernel)
set_option maxRecDepth 20000 in
theorem gT_work_B_join_113 : GoodIn wT_work (va_wsS RT 113 yB_join wB_join) := goodIn_pp (goodIn_of _ (by decide +kernel)) ggT_work_B_join
theorem iT_compare_T : ∀ w ∈ uT, w ∈ wT_compare := by decide +kernel
set_option maxRecDepth 20000 in
theorem ggT_compare_T_isBlock : GoodIn wT_compare wT_isBlock := goodIn_q _ [8, 9, 12, 13, 14, 15, 16, 17, 18, 19, 20, 21, 22, 23, 24] (by decide +kernel) (by decide +kernel)
set_option maxRecDepth 20000 in
theorem gT_compare_T_isBlock_76 : GoodIn wT_compare (wsV RT 76 RT yT_isBlock wT_isBlock) := goodIn_pp (goodIn_of _ (by decide +kernel)) ggT_compare_T_isBlock
set_option maxRecDepth 20000 in
theorem ggT_compare_T_compareWorks : GoodIn wT_compare wT_compareWorks := goodIn_q _ [10, 11, 12, 13, 14, 15, 16, 17, 18, 19, 20, 21, 22, 23, 24] (by decide +kernel) (by decide +kernel)
set_option maxRecDepth 20000 in
theorem gT_compare_T_compareWorks_116 : GoodIn wT_compare (wsV RT 116 RT yT_compareWorks wT_compareWorks) := goodIn_pp (goodIn_of _ (by decide +kernel)) ggT_compare_T_compareWorks
theorem iT_tip_T : ∀ w ∈ uT, w ∈ wT_tip := by decide +kernel
theorem iT_size_T : ∀ w ∈ uT, w ∈ wT_size := by decide +kernel
theorem iT_below_T : ∀ w ∈ uT, w ∈ wT_below := by decide +kernel
set_option maxRecDepth 20000 in
theorem ggT_below_T_isBlock : GoodIn wT_below wT_isBlock := goodIn_q _ [9, 10, 13, 14, 15, 16, 17, 18, 19, 20, 21, 22, 23, 24, 25] (by decide +kernel) (by decide +kernel)
set_option maxRecDepth 20000 in
theorem gT_below_T_isBlock_76 : GoodIn wT_below (wsV RT 76 RT yT_isBlock wT_isBlock) := goodIn_pp (goodIn_of _ (by decide +kernel)) ggT_below_T_isBlock
set_option maxRecDepth 20000 in
theorem ggT_below_T_ancestor : GoodIn wT_below wT_ancestor := goodIn_q _ [11, 5, 12, 13, 14, 15, 16, 17, 18, 19, 20, 21, 22, 23, 24, 25] (by decide +kernel) (by decide +kernel)
set_option maxRecDepth 20000 in
theorem gT_below_T_ancestor_101 : GoodIn wT_below (wsV RT 101 RT yT_ancestor wT_ancestor) := goodIn_pp (goodIn_of _ (by decide +kernel)) ggT_below_T_ancestor
theorem iT_fork_T : ∀ w ∈ uT, w ∈ wT_fork := by decide +kernel
set_option maxRecDepth 20000 in
theorem ggT_fork_T_isBlock : GoodIn wT_fork wT_isBlock := goodIn_q _ [7, 5, 8, 9, 10, 11, 12, 13, 14, 15, 16, 17, 18, 19, 20] (by decide +kernel) (by decide +kernel)
set_option maxRecDepth 20000 in
theorem gT_fork_T_isBlock_76 : GoodIn wT_fork (wsV RT 76 RT yT_isBlock wT_isBlock) := goodIn_pp (goodIn_of _ (by decide +kernel)) ggT_fork_T_isBlock
theorem iT_row_T : ∀ w ∈ uT, w ∈ wT_row := by decide +kernel
set_option maxRecDepth 20000 in
theorem ggT_row_T_isBlock : GoodIn wT_row wT_isBlock := goodIn_q _ [13, 14, 17, 18, 19, 20, 21, 22, 23, 24, 25, 26, 27, 28, 29] (by decide +kernel) (by decide +kernel)
set_option maxRecDepth 20000 in
theorem gT_row_T_isBlock_76 : GoodIn wT_row (wsV RT 76 RT yT_isBlock wT_isBlock) := goodIn_pp (goodIn_of _ (by decide +kernel)) ggT_row_T_isBlock
set_option maxRecDepth 20000 in
theorem ggT_row_T_ancestor : GoodIn wT_row wT_ancestor := goodIn_q _ [15, 5, 16, 17, 18, 19, 20, 21, 22, 23, 24, 25, 26, 27, 28, 29] (by decide +kernel) (by decide +kernel)
set_option maxRecDepth 20000 in
theorem gT_row_T_ancestor_101 : GoodIn wT_row (wsV RT 101 RT yT_ancestor wT_ancestor) := goodIn_pp (goodIn_of _ (by decide +kernel)) ggT_row_T_ancestor
set_option maxRecDepth 20000 in
theorem ggT_fault_B_faultOf : GoodIn wT_fault wB_faultOf := goodIn_q _ [4, 5, 6, 7, 8, 9, 3, 10, 11, 12, 13, 14, 15, 16, 17, 18, 19, 20, 21, 22, 23, 24, 25, 26] (by decide +kernel) (by decide +kernel)
set_option maxRecDepth 20000 in
theorem gT_fault_B_faultOf_124 : GoodIn wT_fault (va_wsS RT 124 yB_faultOf wB_faultOf) := goodIn_pp (goodIn_of _ (by decide +kernel)) ggT_fault_B_faultOf
set_option maxRecDepth 20000 in
theorem ggT_target_B_faultOf : GoodIn wT_target wB_faultOf := goodIn_q _ [6, 7, 8, 9, 10, 11, 3, 12, 13, 14, 5, 15, 16, 17, 18, 19, 20, 21, 22, 23, 24, 25, 26, 27] (by decide +kernel) (by decide +kernel)
set_option maxRecDepth 20000 in
theorem gT_target_B_faultOf_124 : GoodIn wT_target (va_wsS RT 124 yB_faultOf wB_faultOf) := goodIn_pp (goodIn_of _ (by decide +kernel)) ggT_target_B_faultOf
set_option maxRecDepth 20000 in
theorem ggT_target_B_targetPart : GoodIn wT_target wB_targetPart := goodIn_q _ [27, 8, 10, 11, 3, 16] (by decide +kernel) (by decide +kernel)
set_option maxRecDepth 20000 in
theorem gT_target_B_targetPart_128 : GoodIn wT_target (va_wsS RT 128 yB_targetPart wB_targetPart) := goodIn_pp (goodIn_of _ (by decide +kernel)) ggT_target_B_targetPart
set_option maxRecDepth 20000 in
theorem ggT_compact_B_shorten : GoodIn wT_compact wB_shorten := goodIn_q _ [4, 5, 6, 3, 7, 8, 9] (by decide +kernel) (by decide +kernel)
set_option maxRecDepth 20000 in
theorem gT_compact_B_shorten_132 : GoodIn wT_compact (va_wsS RT 132 yB_shorten wB_shorten) := goodIn_pp (goodIn_of _ (by decide +kernel)) ggT_compact_B_shorten
theorem dT_init_0 : decode cT_init 0 = .ok (.aload_n 0, 1) := by decide +kernel
theorem dT_init_1 : decode cT_init 1 = .ok (.invokespecial 1, 3) := by decide +kernel
theorem dT_init_4 : decode cT_init 4 = .ok (.aload_n 0, 1) := by decide +kernel
theorem dT_init_5 : decode cT_init 5 = .ok (.iload_n 1, 1) := by decide +kernel
theorem dT_init_6 : decode cT_init 6 = .ok (.iconst 2, 1) := by decide +kernel
theorem dT_init_7 : decode cT_init 7 = .ok (.if_icmp .lt 14, 3) := by decide +kernel
theorem dT_init_10 : decode cT_init 10 = .ok (.iload_n 1, 1) := by decide +kernel
theorem dT_init_11 : decode cT_init 11 = .ok (.sipush 300, 3) := by decide +kernel
theorem dT_init_14 : decode cT_init 14 = .ok (.if_icmp .gt 7, 3) := by decide +kernel
theorem dT_init_17 : decode cT_init 17 = .ok (.iload_n 1, 1) := by decide +kernel
theorem dT_init_18 : decode cT_init 18 = .ok (.goto 5, 3) := by decide +kernel
theorem dT_init_21 : decode cT_init 21 = .ok (.bipush 100, 2) := by decide +kernel
theorem dT_init_23 : decode cT_init 23 = .ok (.putfield 9, 3) := by decide +kernel
theorem dT_init_26 : decode cT_init 26 = .ok (.aload_n 0, 1) := by decide +kernel
theorem dT_init_27 : decode cT_init 27 = .ok (.aload_n 0, 1) := by decide +kernel
theorem dT_init_28 : decode cT_init 28 = .ok (.getfield 9, 3) := by decide +kernel
theorem dT_init_31 : decode cT_init 31 = .ok (.newarray .int, 2) := by decide +kernel
theorem dT_init_33 : decode cT_init 33 = .ok (.putfield 13, 3) := by decide +kernel
theorem dT_init_36 : decode cT_init 36 = .ok (.aload_n 0, 1) := by decide +kernel
theorem dT_init_37 : decode cT_init 37 = .ok (.aload_n 0, 1) := by decide +kernel
theorem dT_init_38 : decode cT_init 38 = .ok (.getfield 9, 3) := by decide +kernel
theorem dT_init_41 : decode cT_init 41 = .ok (.newarray .int, 2) := by decide +kernel
theorem dT_init_43 : decode cT_init 43 = .ok (.putfield 17, 3) := by decide +kernel
theorem dT_init_46 : decode cT_init 46 = .ok (.aload_n 0, 1) := by decide +kernel
theorem dT_init_47 : decode cT_init 47 = .ok (.aload_n 0, 1) := by decide +kernel
theorem dT_init_48 : decode cT_init 48 = .ok (.getfield 9, 3) := by decide +kernel
theorem dT_init_51 : decode cT_init 51 = .ok (.newarray .int, 2) := by decide +kernel
theorem dT_init_53 : decode cT_init 53 = .ok (.putfield 20, 3) := by decide +kernel
theorem dT_init_56 : decode cT_init 56 = .ok (.aload_n 0, 1) := by decide +kernel
theorem dT_init_57 : decode cT_init 57 = .ok (.aload_n 0, 1) := by decide +kernel
theorem dT_init_58 : decode cT_init 58 = .ok (.getfield 9, 3) := by decide +kernel
theorem dT_init_61 : decode cT_init 61 = .ok (.newarray .long, 2) := by decide +kernel
theorem dT_init_63 : decode cT_init 63 = .ok (.putfield 23, 3) := by decide +kernel
theorem dT_init_66 : decode cT_init 66 = .ok (.aload_n 0, 1) := by decide +kernel
theorem dT_init_67 : decode cT_init 67 = .ok (.aload_n 0, 1) := by decide +kernel
theorem dT_init_68 : decode cT_init 68 = .ok (.getfield 9, 3) := by decide +kernel
theorem dT_init_71 : decode cT_init 71 = .ok (.newarray .long, 2) := by decide +kernel
theorem dT_init_73 : decode cT_init 73 = .ok (.putfield 27, 3) := by decide +kernel
theorem dT_init_76 : decode cT_init 76 = .ok (.aload_n 0, 1) := by decide +kernel
theorem dT_init_77 : decode cT_init 77 = .ok (.aload_n 0, 1) := by decide +kernel
theorem dT_init_78 : decode cT_init 78 = .ok (.getfield 9, 3) := by decide +kernel
theorem dT_init_81 : decode cT_init 81 = .ok (.newarray .boolean, 2) := by decide +kernel
theorem dT_init_83 : decode cT_init 83 = .ok (.putfield 30, 3) := by decide +kernel
theorem dT_init_86 : decode cT_init 86 = .ok (.aload_n 0, 1) := by decide +kernel
theorem dT_init_87 : decode cT_init 87 = .ok (.aload_n 0, 1) := by decide +kernel
theorem dT_init_88 : decode cT_init 88 = .ok (.getfield 9, 3) := by decide +kernel
theorem dT_init_91 : decode cT_init 91 = .ok (.bipush 8, 2) := by decide +kernel
theorem dT_init_93 : decode cT_init 93 = .ok (.imul, 1) := by decide +kernel
theorem dT_init_94 : decode cT_init 94 = .ok (.newarray .long, 2) := by decide +kernel
theorem dT_init_96 : decode cT_init 96 = .ok (.putfield 36, 3) := by decide +kernel
theorem dT_init_99 : decode cT_init 99 = .ok (.aload_n 0, 1) := by decide +kernel
theorem dT_init_100 : decode cT_init 100 = .ok (.bipush 11, 2) := by decide +kernel
theorem dT_init_102 : decode cT_init 102 = .ok (.newarray .long, 2) := by decide +kernel
theorem dT_init_104 : decode cT_init 104 = .ok (.putfield 39, 3) := by decide +kernel
theorem dT_init_107 : decode cT_init 107 = .ok (.aload_n 0, 1) := by decide +kernel
theorem dT_init_108 : decode cT_init 108 = .ok (.new 42, 3) := by decide +kernel
theorem dT_init_111 : decode cT_init 111 = .ok (.dup, 1) := by decide +kernel
theorem dT_init_112 : decode cT_init 112 = .ok (.invokespecial 44, 3) := by decide +kernel
theorem dT_init_115 : decode cT_init 115 = .ok (.putfield 45, 3) := by decide +kernel
theorem dT_init_118 : decode cT_init 118 = .ok (.aload_n 0, 1) := by decide +kernel
theorem dT_init_119 : decode cT_init 119 = .ok (.new 49, 3) := by decide +kernel
theorem dT_init_122 : decode cT_init 122 = .ok (.dup, 1) := by decide +kernel
theorem dT_init_123 : decode cT_init 123 = .ok (.invokespecial 51, 3) := by decide +kernel
theorem dT_init_126 : decode cT_init 126 = .ok (.putfield 52, 3) := by decide +kernel
theorem dT_init_129 : decode cT_init 129 = .ok (.aload_n 0, 1) := by decide +kernel
theorem dT_init_130 : decode cT_init 130 = .ok (.getfield 13, 3) := by decide +kernel
theorem dT_init_133 : decode cT_init 133 = .ok (.iconst 0, 1) := by decide +kernel
theorem dT_init_134 : decode cT_init 134 = .ok (.iconst (-1), 1) := by decide +kernel
theorem dT_init_135 : decode cT_init 135 = .ok (.iastore, 1) := by decide +kernel
theorem dT_init_136 : decode cT_init 136 = .ok (.aload_n 0, 1) := by decide +kernel
theorem dT_init_137 : decode cT_init 137 = .ok (.getfield 23, 3) := by decide +kernel
theorem dT_init_140 : decode cT_init 140 = .ok (.iconst 0, 1) := by decide +kernel
theorem dT_init_141 : decode cT_init 141 = .ok (.iload_n 2, 1) := by decide +kernel
theorem dT_init_142 : decode cT_init 142 = .ok (.i2l, 1) := by decide +kernel
theorem dT_init_143 : decode cT_init 143 = .ok (.ldc2_w 56, 3) := by decide +kernel
theorem dT_init_146 : decode cT_init 146 = .ok (.land, 1) := by decide +kernel
theorem dT_init_147 : decode cT_init 147 = .ok (.lastore, 1) := by decide +kernel
theorem dT_init_148 : decode cT_init 148 = .ok (.aload_n 0, 1) := by decide +kernel
theorem dT_init_149 : decode cT_init 149 = .ok (.getfield 27, 3) := by decide +kernel
theorem dT_init_152 : decode cT_init 152 = .ok (.iconst 0, 1) := by decide +kernel
theorem dT_init_153 : decode cT_init 153 = .ok (.ldc2_w 58, 3) := by decide +kernel
theorem dT_init_156 : decode cT_init 156 = .ok (.lastore, 1) := by decide +kernel
theorem dT_init_157 : decode cT_init 157 = .ok (.aload_n 0, 1) := by decide +kernel
theorem dT_init_158 : decode cT_init 158 = .ok (.getfield 52, 3) := by decide +kernel
theorem dT_init_161 : decode cT_init 161 = .ok (.ldc2_w 58, 3) := by decide +kernel
theorem dT_init_164 : decode cT_init 164 = .ok (.invokevirtual 60, 3) := by decide +kernel
theorem dT_init_167 : decode cT_init 167 = .ok (.iconst 0, 1) := by decide +kernel
theorem dT_init_168 : decode cT_init 168 = .ok (.aload_n 0, 1) := by decide +kernel
theorem dT_init_169 : decode cT_init 169 = .ok (.getfield 36, 3) := by decide +kernel
theorem dT_init_172 : decode cT_init 172 = .ok (.iconst 0, 1) := by decide +kernel
theorem dT_init_173 : decode cT_init 173 = .ok (.bipush 8, 2) := by decide +kernel
theorem dT_init_175 : decode cT_init 175 = .ok (.invokestatic 64, 3) := by decide +kernel
theorem dT_init_178 : decode cT_init 178 = .ok (.aload_n 0, 1) := by decide +kernel
theorem dT_init_179 : decode cT_init 179 = .ok (.iconst 1, 1) := by decide +kernel
theorem dT_init_180 : decode cT_init 180 = .ok (.putfield 70, 3) := by decide +kernel
theorem dT_init_183 : decode cT_init 183 = .ok (.aload_n 0, 1) := by decide +kernel
theorem dT_init_184 : decode cT_init 184 = .ok (.iconst 0, 1) := by decide +kernel
theorem dT_init_185 : decode cT_init 185 = .ok (.putfield 73, 3) := by decide +kernel
theorem dT_init_188 : decode cT_init 188 = .ok (.return_, 1) := by decide +kernel
theorem dT_isBlock_0 : decode cT_isBlock 0 = .ok (.iload_n 1, 1) := by decide +kernel
theorem dT_isBlock_1 : decode cT_isBlock 1 = .ok (.ifCond .lt 15, 3) := by decide +kernel
theorem dT_isBlock_4 : decode cT_isBlock 4 = .ok (.iload_n 1, 1) := by decide +kernel
theorem dT_isBlock_5 : decode cT_isBlock 5 = .ok (.aload_n 0, 1) := by decide +kernel
theorem dT_isBlock_6 : decode cT_isBlock 6 = .ok (.getfield 70, 3) := by decide +kernel
theorem dT_isBlock_9 : decode cT_isBlock 9 = .ok (.if_icmp .ge 7, 3) := by decide +kernel
theorem dT_isBlock_12 : decode cT_isBlock 12 = .ok (.iconst 1, 1) := by decide +kernel
theorem dT_isBlock_13 : decode cT_isBlock 13 = .ok (.goto 4, 3) := by decide +kernel
theorem dT_isBlock_16 : decode cT_isBlock 16 = .ok (.iconst 0, 1) := by decide +kernel
theorem dT_isBlock_17 : decode cT_isBlock 17 = .ok (.ireturn, 1) := by decide +kernel
theorem dT_ancestor_0 : decode cT_ancestor 0 = .ok (.iload_n 1, 1) := by decide +kernel
theorem dT_ancestor_1 : decode cT_ancestor 1 = .ok (.istore_n 3, 1) := by decide +kernel
theorem dT_ancestor_2 : decode cT_ancestor 2 = .ok (.aload_n 0, 1) := by decide +kernel
theorem dT_ancestor_3 : decode cT_ancestor 3 = .ok (.getfield 17, 3) := by decide +kernel
theorem dT_ancestor_6 : decode cT_ancestor 6 = .ok (.iload_n 1, 1) := by decide +kernel
theorem dT_ancestor_7 : decode cT_ancestor 7 = .ok (.iaload, 1) := by decide +kernel
theorem dT_ancestor_8 : decode cT_ancestor 8 = .ok (.iload_n 2, 1) := by decide +kernel
theorem dT_ancestor_9 : decode cT_ancestor 9 = .ok (.isub, 1) := by decide +kernel
theorem dT_ancestor_10 : decode cT_ancestor 10 = .ok (.istore 4, 2) := by decide +kernel
theorem dT_ancestor_12 : decode cT_ancestor 12 = .ok (.iload 4, 2) := by decide +kernel
theorem dT_ancestor_14 : decode cT_ancestor 14 = .ok (.ifCond .le 20, 3) := by decide +kernel
theorem dT_ancestor_17 : decode cT_ancestor 17 = .ok (.iload_n 3, 1) := by decide +kernel
theorem dT_ancestor_18 : decode cT_ancestor 18 = .ok (.ifCond .le 16, 3) := by decide +kernel
theorem dT_ancestor_21 : decode cT_ancestor 21 = .ok (.aload_n 0, 1) := by decide +kernel
theorem dT_ancestor_22 : decode cT_ancestor 22 = .ok (.getfield 13, 3) := by decide +kernel
theorem dT_ancestor_25 : decode cT_ancestor 25 = .ok (.iload_n 3, 1) := by decide +kernel
theorem dT_ancestor_26 : decode cT_ancestor 26 = .ok (.iaload, 1) := by decide +kernel
theorem dT_ancestor_27 : decode cT_ancestor 27 = .ok (.istore_n 3, 1) := by decide +kernel
theorem dT_ancestor_28 : decode cT_ancestor 28 = .ok (.iinc 4 (-1), 3) := by decide +kernel
theorem dT_ancestor_31 : decode cT_ancestor 31 = .ok (.goto (-19), 3) := by decide +kernel
theorem dT_ancestor_34 : decode cT_ancestor 34 = .ok (.iload_n 3, 1) := by decide +kernel
theorem dT_ancestor_35 : decode cT_ancestor 35 = .ok (.ireturn, 1) := by decide +kernel
theorem dT_must_0 : decode cT_must 0 = .ok (.aload_n 0, 1) := by decide +kernel
theorem dT_must_1 : decode cT_must 1 = .ok (.iload_n 1, 1) := by decide +kernel
theorem dT_must_2 : decode cT_must 2 = .ok (.invokevirtual 76, 3) := by decide +kernel
theorem dT_must_5 : decode cT_must 5 = .ok (.ifCond .ne 7, 3) := by decide +kernel
theorem dT_must_8 : decode cT_must 8 = .ok (.ldc2_w 99, 3) := by decide +kernel
theorem dT_must_11 : decode cT_must 11 = .ok (.lreturn, 1) := by decide +kernel
theorem dT_must_12 : decode cT_must 12 = .ok (.aload_n 0, 1) := by decide +kernel
theorem dT_must_13 : decode cT_must 13 = .ok (.getfield 17, 3) := by decide +kernel
theorem dT_must_16 : decode cT_must 16 = .ok (.iload_n 1, 1) := by decide +kernel
theorem dT_must_17 : decode cT_must 17 = .ok (.iaload, 1) := by decide +kernel
theorem dT_must_18 : decode cT_must 18 = .ok (.istore_n 2, 1) := by decide +kernel
theorem dT_must_19 : decode cT_must 19 = .ok (.iload_n 2, 1) := by decide +kernel
theorem dT_must_20 : decode cT_must 20 = .ok (.iconst 1, 1) := by decide +kernel
theorem dT_must_21 : decode cT_must 21 = .ok (.iadd, 1) := by decide +kernel
theorem dT_must_22 : decode cT_must 22 = .ok (.bipush 8, 2) := by decide +kernel
theorem dT_must_24 : decode cT_must 24 = .ok (.irem, 1) := by decide +kernel
theorem dT_must_25 : decode cT_must 25 = .ok (.ifCond .eq 10, 3) := by decide +kernel
theorem dT_must_28 : decode cT_must 28 = .ok (.aload_n 0, 1) := by decide +kernel
theorem dT_must_29 : decode cT_must 29 = .ok (.getfield 27, 3) := by decide +kernel
theorem dT_must_32 : decode cT_must 32 = .ok (.iload_n 1, 1) := by decide +kernel
theorem dT_must_33 : decode cT_must 33 = .ok (.laload, 1) := by decide +kernel
theorem dT_must_34 : decode cT_must 34 = .ok (.lreturn, 1) := by decide +kernel
theorem dT_must_35 : decode cT_must 35 = .ok (.aload_n 0, 1) := by decide +kernel
theorem dT_must_36 : decode cT_must 36 = .ok (.iload_n 1, 1) := by decide +kernel
theorem dT_must_37 : decode cT_must 37 = .ok (.iload_n 2, 1) := by decide +kernel
theorem dT_must_38 : decode cT_must 38 = .ok (.bipush 7, 2) := by decide +kernel
theorem dT_must_40 : decode cT_must 40 = .ok (.isub, 1) := by decide +kernel
theorem dT_must_41 : decode cT_must 41 = .ok (.invokevirtual 101, 3) := by decide +kernel
theorem dT_must_44 : decode cT_must 44 = .ok (.istore_n 3, 1) := by decide +kernel
theorem dT_must_45 : decode cT_must 45 = .ok (.aload_n 0, 1) := by decide +kernel
theorem dT_must_46 : decode cT_must 46 = .ok (.getfield 45, 3) := by decide +kernel
theorem dT_must_49 : decode cT_must 49 = .ok (.aload_n 0, 1) := by decide +kernel
theorem dT_must_50 : decode cT_must 50 = .ok (.getfield 27, 3) := by decide +kernel
theorem dT_must_53 : decode cT_must 53 = .ok (.iload_n 1, 1) := by decide +kernel
theorem dT_must_54 : decode cT_must 54 = .ok (.laload, 1) := by decide +kernel
theorem dT_must_55 : decode cT_must 55 = .ok (.aload_n 0, 1) := by decide +kernel
theorem dT_must_56 : decode cT_must 56 = .ok (.getfield 23, 3) := by decide +kernel
theorem dT_must_59 : decode cT_must 59 = .ok (.iload_n 1, 1) := by decide +kernel
theorem dT_must_60 : decode cT_must 60 = .ok (.laload, 1) := by decide +kernel
theorem dT_must_61 : decode cT_must 61 = .ok (.aload_n 0, 1) := by decide +kernel
theorem dT_must_62 : decode cT_must 62 = .ok (.getfield 23, 3) := by decide +kernel
theorem dT_must_65 : decode cT_must 65 = .ok (.iload_n 3, 1) := by decide +kernel
theorem dT_must_66 : decode cT_must 66 = .ok (.laload, 1) := by decide +kernel
theorem dT_must_67 : decode cT_must 67 = .ok (.lsub, 1) := by decide +kernel
theorem dT_must_68 : decode cT_must 68 = .ok (.invokevirtual 105, 3) := by decide +kernel
theorem dT_must_71 : decode cT_must 71 = .ok (.lreturn, 1) := by decide +kernel
theorem dT_rank_0 : decode cT_rank 0 = .ok (.iload_n 3, 1) := by decide +kernel
theorem dT_rank_1 : decode cT_rank 1 = .ok (.istore 4, 2) := by decide +kernel
theorem dT_rank_3 : decode cT_rank 3 = .ok (.iload 4, 2) := by decide +kernel
theorem dT_rank_5 : decode cT_rank 5 = .ok (.ifCond .le 39, 3) := by decide +kernel
theorem dT_rank_8 : decode cT_rank 8 = .ok (.aload_n 0, 1) := by decide +kernel
theorem dT_rank_9 : decode cT_rank 9 = .ok (.getfield 39, 3) := by decide +kernel
theorem dT_rank_12 : decode cT_rank 12 = .ok (.iload 4, 2) := by decide +kernel
theorem dT_rank_14 : decode cT_rank 14 = .ok (.iconst 1, 1) := by decide +kernel
theorem dT_rank_15 : decode cT_rank 15 = .ok (.isub, 1) := by decide +kernel
theorem dT_rank_16 : decode cT_rank 16 = .ok (.laload, 1) := by decide +kernel
theorem dT_rank_17 : decode cT_rank 17 = .ok (.lload_n 1, 1) := by decide +kernel
theorem dT_rank_18 : decode cT_rank 18 = .ok (.lcmp, 1) := by decide +kernel
theorem dT_rank_19 : decode cT_rank 19 = .ok (.ifCond .le 25, 3) := by decide +kernel
theorem dT_rank_22 : decode cT_rank 22 = .ok (.aload_n 0, 1) := by decide +kernel
theorem dT_rank_23 : decode cT_rank 23 = .ok (.getfield 39, 3) := by decide +kernel
theorem dT_rank_26 : decode cT_rank 26 = .ok (.iload 4, 2) := by decide +kernel
theorem dT_rank_28 : decode cT_rank 28 = .ok (.aload_n 0, 1) := by decide +kernel
theorem dT_rank_29 : decode cT_rank 29 = .ok (.getfield 39, 3) := by decide +kernel
theorem dT_rank_32 : decode cT_rank 32 = .ok (.iload 4, 2) := by decide +kernel
theorem dT_rank_34 : decode cT_rank 34 = .ok (.iconst 1, 1) := by decide +kernel
theorem dT_rank_35 : decode cT_rank 35 = .ok (.isub, 1) := by decide +kernel
theorem dT_rank_36 : decode cT_rank 36 = .ok (.laload, 1) := by decide +kernel
theorem dT_rank_37 : decode cT_rank 37 = .ok (.lastore, 1) := by decide +kernel
theorem dT_rank_38 : decode cT_rank 38 = .ok (.iinc 4 (-1), 3) := by decide +kernel
theorem dT_rank_41 : decode cT_rank 41 = .ok (.goto (-38), 3) := by decide +kernel
theorem dT_rank_44 : decode cT_rank 44 = .ok (.aload_n 0, 1) := by decide +kernel
theorem dT_rank_45 : decode cT_rank 45 = .ok (.getfield 39, 3) := by decide +kernel
theorem dT_rank_48 : decode cT_rank 48 = .ok (.iload 4, 2) := by decide +kernel
theorem dT_rank_50 : decode cT_rank 50 = .ok (.lload_n 1, 1) := by decide +kernel
theorem dT_rank_51 : decode cT_rank 51 = .ok (.lastore, 1) := by decide +kernel
theorem dT_rank_52 : decode cT_rank 52 = .ok (.return_, 1) := by decide +kernel
theorem dT_median_0 : decode cT_median 0 = .ok (.aload_n 0, 1) := by decide +kernel
theorem dT_median_1 : decode cT_median 1 = .ok (.iload_n 1, 1) := by decide +kernel
theorem dT_median_2 : decode cT_median 2 = .ok (.invokevirtual 76, 3) := by decide +kernel
theorem dT_median_5 : decode cT_median 5 = .ok (.ifCond .ne 7, 3) := by decide +kernel
theorem dT_median_8 : decode cT_median 8 = .ok (.ldc2_w 99, 3) := by decide +kernel
theorem dT_median_11 : decode cT_median 11 = .ok (.lreturn, 1) := by decide +kernel
theorem dT_median_12 : decode cT_median 12 = .ok (.iconst 0, 1) := by decide +kernel
theorem dT_median_13 : decode cT_median 13 = .ok (.istore_n 2, 1) := by decide +kernel
theorem dT_median_14 : decode cT_median 14 = .ok (.iload_n 1, 1) := by decide +kernel
theorem dT_median_15 : decode cT_median 15 = .ok (.istore_n 3, 1) := by decide +kernel
theorem dT_median_16 : decode cT_median 16 = .ok (.iload_n 2, 1) := by decide +kernel
theorem dT_median_17 : decode cT_median 17 = .ok (.bipush 11, 2) := by decide +kernel
theorem dT_median_19 : decode cT_median 19 = .ok (.if_icmp .ge 31, 3) := by decide +kernel
theorem dT_median_22 : decode cT_median 22 = .ok (.iload_n 3, 1) := by decide +kernel
theorem dT_median_23 : decode cT_median 23 = .ok (.ifCond .lt 27, 3) := by decide +kernel
theorem dT_median_26 : decode cT_median 26 = .ok (.aload_n 0, 1) := by decide +kernel
theorem dT_median_27 : decode cT_median 27 = .ok (.aload_n 0, 1) := by decide +kernel
theorem dT_median_28 : decode cT_median 28 = .ok (.getfield 23, 3) := by decide +kernel
theorem dT_median_31 : decode cT_median 31 = .ok (.iload_n 3, 1) := by decide +kernel
theorem dT_median_32 : decode cT_median 32 = .ok (.laload, 1) := by decide +kernel
theorem dT_median_33 : decode cT_median 33 = .ok (.iload_n 2, 1) := by decide +kernel
theorem dT_median_34 : decode cT_median 34 = .ok (.invokevirtual 109, 3) := by decide +kernel
theorem dT_median_37 : decode cT_median 37 = .ok (.iinc 2 1, 3) := by decide +kernel
theorem dT_median_40 : decode cT_median 40 = .ok (.aload_n 0, 1) := by decide +kernel
theorem dT_median_41 : decode cT_median 41 = .ok (.getfield 13, 3) := by decide +kernel
theorem dT_median_44 : decode cT_median 44 = .ok (.iload_n 3, 1) := by decide +kernel
theorem dT_median_45 : decode cT_median 45 = .ok (.iaload, 1) := by decide +kernel
theorem dT_median_46 : decode cT_median 46 = .ok (.istore_n 3, 1) := by decide +kernel
theorem dT_median_47 : decode cT_median 47 = .ok (.goto (-31), 3) := by decide +kernel
theorem dT_median_50 : decode cT_median 50 = .ok (.aload_n 0, 1) := by decide +kernel
theorem dT_median_51 : decode cT_median 51 = .ok (.getfield 39, 3) := by decide +kernel
theorem dT_median_54 : decode cT_median 54 = .ok (.iload_n 2, 1) := by decide +kernel
theorem dT_median_55 : decode cT_median 55 = .ok (.iconst 2, 1) := by decide +kernel
theorem dT_median_56 : decode cT_median 56 = .ok (.idiv, 1) := by decide +kernel
theorem dT_median_57 : decode cT_median 57 = .ok (.laload, 1) := by decide +kernel
theorem dT_median_58 : decode cT_median 58 = .ok (.lreturn, 1) := by decide +kernel
theorem dT_sumWork_0 : decode cT_sumWork 0 = .ok (.lconst 0, 1) := by decide +kernel
theorem dT_sumWork_1 : decode cT_sumWork 1 = .ok (.lstore 4, 2) := by decide +kernel
theorem dT_sumWork_3 : decode cT_sumWork 3 = .ok (.bipush 7, 2) := by decide +kernel
theorem dT_sumWork_5 : decode cT_sumWork 5 = .ok (.istore 6, 2) := by decide +kernel
theorem dT_sumWork_7 : decode cT_sumWork 7 = .ok (.iload 6, 2) := by decide +kernel
theorem dT_sumWork_9 : decode cT_sumWork 9 = .ok (.ifCond .lt 56, 3) := by decide +kernel
theorem dT_sumWork_12 : decode cT_sumWork 12 = .ok (.aload_n 0, 1) := by decide +kernel
theorem dT_sumWork_13 : decode cT_sumWork 13 = .ok (.getfield 36, 3) := by decide +kernel
theorem dT_sumWork_16 : decode cT_sumWork 16 = .ok (.iload_n 2, 1) := by decide +kernel
theorem dT_sumWork_17 : decode cT_sumWork 17 = .ok (.bipush 8, 2) := by decide +kernel
theorem dT_sumWork_19 : decode cT_sumWork 19 = .ok (.imul, 1) := by decide +kernel
theorem dT_sumWork_20 : decode cT_sumWork 20 = .ok (.iload 6, 2) := by decide +kernel
theorem dT_sumWork_22 : decode cT_sumWork 22 = .ok (.iadd, 1) := by decide +kernel
theorem dT_sumWork_23 : decode cT_sumWork 23 = .ok (.laload, 1) := by decide +kernel
theorem dT_sumWork_24 : decode cT_sumWork 24 = .ok (.aload_n 3, 1) := by decide +kernel
theorem dT_sumWork_25 : decode cT_sumWork 25 = .ok (.iload 6, 2) := by decide +kernel
theorem dT_sumWork_27 : decode cT_sumWork 27 = .ok (.laload, 1) := by decide +kernel
theorem dT_sumWork_28 : decode cT_sumWork 28 = .ok (.ladd, 1) := by decide +kernel
theorem dT_sumWork_29 : decode cT_sumWork 29 = .ok (.lload 4, 2) := by decide +kernel
theorem dT_sumWork_31 : decode cT_sumWork 31 = .ok (.ladd, 1) := by decide +kernel
theorem dT_sumWork_32 : decode cT_sumWork 32 = .ok (.lstore 7, 2) := by decide +kernel
theorem dT_sumWork_34 : decode cT_sumWork 34 = .ok (.aload_n 0, 1) := by decide +kernel
theorem dT_sumWork_35 : decode cT_sumWork 35 = .ok (.getfield 36, 3) := by decide +kernel
theorem dT_sumWork_38 : decode cT_sumWork 38 = .ok (.iload_n 1, 1) := by decide +kernel
theorem dT_sumWork_39 : decode cT_sumWork 39 = .ok (.bipush 8, 2) := by decide +kernel
theorem dT_sumWork_41 : decode cT_sumWork 41 = .ok (.imul, 1) := by decide +kernel
theorem dT_sumWork_42 : decode cT_sumWork 42 = .ok (.iload 6, 2) := by decide +kernel
theorem dT_sumWork_44 : decode cT_sumWork 44 = .ok (.iadd, 1) := by decide +kernel
theorem dT_sumWork_45 : decode cT_sumWork 45 = .ok (.lload 7, 2) := by decide +kernel
theorem dT_sumWork_47 : decode cT_sumWork 47 = .ok (.ldc2_w 56, 3) := by decide +kernel
theorem dT_sumWork_50 : decode cT_sumWork 50 = .ok (.land, 1) := by decide +kernel
theorem dT_sumWork_51 : decode cT_sumWork 51 = .ok (.lastore, 1) := by decide +kernel
theorem dT_sumWork_52 : decode cT_sumWork 52 = .ok (.lload 7, 2) := by decide +kernel
theorem dT_sumWork_54 : decode cT_sumWork 54 = .ok (.bipush 32, 2) := by decide +kernel
theorem dT_sumWork_56 : decode cT_sumWork 56 = .ok (.lushr, 1) := by decide +kernel
theorem dT_sumWork_57 : decode cT_sumWork 57 = .ok (.lstore 4, 2) := by decide +kernel
theorem dT_sumWork_59 : decode cT_sumWork 59 = .ok (.iinc 6 (-1), 3) := by decide +kernel
theorem dT_sumWork_62 : decode cT_sumWork 62 = .ok (.goto (-55), 3) := by decide +kernel
theorem dT_sumWork_65 : decode cT_sumWork 65 = .ok (.return_, 1) := by decide +kernel
theorem dT_compareWorks_0 : decode cT_compareWorks 0 = .ok (.iconst 0, 1) := by decide +kernel
theorem dT_compareWorks_1 : decode cT_compareWorks 1 = .ok (.istore_n 3, 1) := by decide +kernel
theorem dT_compareWorks_2 : decode cT_compareWorks 2 = .ok (.iload_n 3, 1) := by decide +kernel
theorem dT_compareWorks_3 : decode cT_compareWorks 3 = .ok (.bipush 8, 2) := by decide +kernel
theorem dT_compareWorks_5 : decode cT_compareWorks 5 = .ok (.if_icmp .ge 57, 3) := by decide +kernel
theorem dT_compareWorks_8 : decode cT_compareWorks 8 = .ok (.aload_n 0, 1) := by decide +kernel
theorem dT_compareWorks_9 : decode cT_compareWorks 9 = .ok (.getfield 36, 3) := by decide +kernel
theorem dT_compareWorks_12 : decode cT_compareWorks 12 = .ok (.iload_n 1, 1) := by decide +kernel
theorem dT_compareWorks_13 : decode cT_compareWorks 13 = .ok (.bipush 8, 2) := by decide +kernel
theorem dT_compareWorks_15 : decode cT_compareWorks 15 = .ok (.imul, 1) := by decide +kernel
theorem dT_compareWorks_16 : decode cT_compareWorks 16 = .ok (.iload_n 3, 1) := by decide +kernel
theorem dT_compareWorks_17 : decode cT_compareWorks 17 = .ok (.iadd, 1) := by decide +kernel
theorem dT_compareWorks_18 : decode cT_compareWorks 18 = .ok (.laload, 1) := by decide +kernel
theorem dT_compareWorks_19 : decode cT_compareWorks 19 = .ok (.lstore 4, 2) := by decide +kernel
theorem dT_compareWorks_21 : decode cT_compareWorks 21 = .ok (.aload_n 0, 1) := by decide +kernel
theorem dT_compareWorks_22 : decode cT_compareWorks 22 = .ok (.getfield 36, 3) := by decide +kernel
theorem dT_compareWorks_25 : decode cT_compareWorks 25 = .ok (.iload_n 2, 1) := by decide +kernel
theorem dT_compareWorks_26 : decode cT_compareWorks 26 = .ok (.bipush 8, 2) := by decide +kernel
theorem dT_compareWorks_28 : decode cT_compareWorks 28 = .ok (.imul, 1) := by decide +kernel
theorem dT_compareWorks_29 : decode cT_compareWorks 29 = .ok (.iload_n 3, 1) := by decide +kernel
theorem dT_compareWorks_30 : decode cT_compareWorks 30 = .ok (.iadd, 1) := by decide +kernel
theorem dT_compareWorks_31 : decode cT_compareWorks 31 = .ok (.laload, 1) := by decide +kernel
theorem dT_compareWorks_32 : decode cT_compareWorks 32 = .ok (.lstore 6, 2) := by decide +kernel
theorem dT_compareWorks_34 : decode cT_compareWorks 34 = .ok (.lload 4, 2) := by decide +kernel
theorem dT_compareWorks_36 : decode cT_compareWorks 36 = .ok (.lload 6, 2) := by decide +kernel
theorem dT_compareWorks_38 : decode cT_compareWorks 38 = .ok (.lcmp, 1) := by decide +kernel
theorem dT_compareWorks_39 : decode cT_compareWorks 39 = .ok (.ifCond .eq 17, 3) := by decide +kernel
theorem dT_compareWorks_42 : decode cT_compareWorks 42 = .ok (.lload 4, 2) := by decide +kernel
theorem dT_compareWorks_44 : decode cT_compareWorks 44 = .ok (.lload 6, 2) := by decide +kernel
theorem dT_compareWorks_46 : decode cT_compareWorks 46 = .ok (.lcmp, 1) := by decide +kernel
theorem dT_compareWorks_47 : decode cT_compareWorks 47 = .ok (.ifCond .ge 7, 3) := by decide +kernel
theorem dT_compareWorks_50 : decode cT_compareWorks 50 = .ok (.iconst (-1), 1) := by decide +kernel
theorem dT_compareWorks_51 : decode cT_compareWorks 51 = .ok (.goto 4, 3) := by decide +kernel
theorem dT_compareWorks_54 : decode cT_compareWorks 54 = .ok (.iconst 1, 1) := by decide +kernel
theorem dT_compareWorks_55 : decode cT_compareWorks 55 = .ok (.ireturn, 1) := by decide +kernel
theorem dT_compareWorks_56 : decode cT_compareWorks 56 = .ok (.iinc 3 1, 3) := by decide +kernel
theorem dT_compareWorks_59 : decode cT_compareWorks 59 = .ok (.goto (-57), 3) := by decide +kernel
theorem dT_compareWorks_62 : decode cT_compareWorks 62 = .ok (.iconst 0, 1) := by decide +kernel
theorem dT_compareWorks_63 : decode cT_compareWorks 63 = .ok (.ireturn, 1) := by decide +kernel
theorem dT_append_0 : decode cT_append 0 = .ok (.aload_n 0, 1) := by decide +kernel
theorem dT_append_1 : decode cT_append 1 = .ok (.getfield 70, 3) := by decide +kernel
theorem dT_append_4 : decode cT_append 4 = .ok (.istore 6, 2) := by decide +kernel
theorem dT_append_6 : decode cT_append 6 = .ok (.aload_n 0, 1) := by decide +kernel
theorem dT_append_7 : decode cT_append 7 = .ok (.getfield 13, 3) := by decide +kernel
theorem dT_append_10 : decode cT_append 10 = .ok (.iload 6, 2) := by decide +kernel
theorem dT_append_12 : decode cT_append 12 = .ok (.iload_n 1, 1) := by decide +kernel
theorem dT_append_13 : decode cT_append 13 = .ok (.iastore, 1) := by decide +kernel
theorem dT_append_14 : decode cT_append 14 = .ok (.aload_n 0, 1) := by decide +kernel
theorem dT_append_15 : decode cT_append 15 = .ok (.getfield 17, 3) := by decide +kernel
theorem dT_append_18 : decode cT_append 18 = .ok (.iload 6, 2) := by decide +kernel
theorem dT_append_20 : decode cT_append 20 = .ok (.aload_n 0, 1) := by decide +kernel
theorem dT_append_21 : decode cT_append 21 = .ok (.getfield 17, 3) := by decide +kernel
theorem dT_append_24 : decode cT_append 24 = .ok (.iload_n 1, 1) := by decide +kernel
theorem dT_append_25 : decode cT_append 25 = .ok (.iaload, 1) := by decide +kernel
theorem dT_append_26 : decode cT_append 26 = .ok (.iconst 1, 1) := by decide +kernel
theorem dT_append_27 : decode cT_append 27 = .ok (.iadd, 1) := by decide +kernel
theorem dT_append_28 : decode cT_append 28 = .ok (.iastore, 1) := by decide +kernel
theorem dT_append_29 : decode cT_append 29 = .ok (.aload_n 0, 1) := by decide +kernel
theorem dT_append_30 : decode cT_append 30 = .ok (.getfield 23, 3) := by decide +kernel
theorem dT_append_33 : decode cT_append 33 = .ok (.iload 6, 2) := by decide +kernel
theorem dT_append_35 : decode cT_append 35 = .ok (.lload_n 2, 1) := by decide +kernel
theorem dT_append_36 : decode cT_append 36 = .ok (.lastore, 1) := by decide +kernel
theorem dT_append_37 : decode cT_append 37 = .ok (.aload_n 0, 1) := by decide +kernel
theorem dT_append_38 : decode cT_append 38 = .ok (.getfield 27, 3) := by decide +kernel
theorem dT_append_41 : decode cT_append 41 = .ok (.iload 6, 2) := by decide +kernel
theorem dT_append_43 : decode cT_append 43 = .ok (.lload 4, 2) := by decide +kernel
theorem dT_append_45 : decode cT_append 45 = .ok (.lastore, 1) := by decide +kernel
theorem dT_append_46 : decode cT_append 46 = .ok (.aload_n 0, 1) := by decide +kernel
theorem dT_append_47 : decode cT_append 47 = .ok (.getfield 20, 3) := by decide +kernel
theorem dT_append_50 : decode cT_append 50 = .ok (.iload_n 1, 1) := by decide +kernel
theorem dT_append_51 : decode cT_append 51 = .ok (.dup2, 1) := by decide +kernel
theorem dT_append_52 : decode cT_append 52 = .ok (.iaload, 1) := by decide +kernel
theorem dT_append_53 : decode cT_append 53 = .ok (.iconst 1, 1) := by decide +kernel
theorem dT_append_54 : decode cT_append 54 = .ok (.iadd, 1) := by decide +kernel
theorem dT_append_55 : decode cT_append 55 = .ok (.iastore, 1) := by decide +kernel
theorem dT_append_56 : decode cT_append 56 = .ok (.aload_n 0, 1) := by decide +kernel
theorem dT_append_57 : decode cT_append 57 = .ok (.iload 6, 2) := by decide +kernel
theorem dT_append_59 : decode cT_append 59 = .ok (.iload_n 1, 1) := by decide +kernel
theorem dT_append_60 : decode cT_append 60 = .ok (.aload_n 0, 1) := by decide +kernel
theorem dT_append_61 : decode cT_append 61 = .ok (.getfield 52, 3) := by decide +kernel
theorem dT_append_64 : decode cT_append 64 = .ok (.lload 4, 2) := by decide +kernel
theorem dT_append_66 : decode cT_append 66 = .ok (.invokevirtual 60, 3) := by decide +kernel
theorem dT_append_69 : decode cT_append 69 = .ok (.invokevirtual 136, 3) := by decide +kernel
theorem dT_append_72 : decode cT_append 72 = .ok (.aload_n 0, 1) := by decide +kernel
theorem dT_append_73 : decode cT_append 73 = .ok (.dup, 1) := by decide +kernel
theorem dT_append_74 : decode cT_append 74 = .ok (.getfield 70, 3) := by decide +kernel
theorem dT_append_77 : decode cT_append 77 = .ok (.iconst 1, 1) := by decide +kernel
theorem dT_append_78 : decode cT_append 78 = .ok (.iadd, 1) := by decide +kernel
theorem dT_append_79 : decode cT_append 79 = .ok (.putfield 70, 3) := by decide +kernel
theorem dT_append_82 : decode cT_append 82 = .ok (.aload_n 0, 1) := by decide +kernel
theorem dT_append_83 : decode cT_append 83 = .ok (.iload 6, 2) := by decide +kernel
theorem dT_append_85 : decode cT_append 85 = .ok (.aload_n 0, 1) := by decide +kernel
theorem dT_append_86 : decode cT_append 86 = .ok (.getfield 73, 3) := by decide +kernel
theorem dT_append_89 : decode cT_append 89 = .ok (.invokevirtual 116, 3) := by decide +kernel
theorem dT_append_92 : decode cT_append 92 = .ok (.ifCond .le 9, 3) := by decide +kernel
theorem dT_append_95 : decode cT_append 95 = .ok (.aload_n 0, 1) := by decide +kernel
theorem dT_append_96 : decode cT_append 96 = .ok (.iload 6, 2) := by decide +kernel
theorem dT_append_98 : decode cT_append 98 = .ok (.putfield 73, 3) := by decide +kernel
theorem dT_append_101 : decode cT_append 101 = .ok (.iload 6, 2) := by decide +kernel
theorem dT_append_103 : decode cT_append 103 = .ok (.ireturn, 1) := by decide +kernel
theorem dT_add_0 : decode cT_add 0 = .ok (.aload_n 0, 1) := by decide +kernel
theorem dT_add_1 : decode cT_add 1 = .ok (.iload_n 1, 1) := by decide +kernel
theorem dT_add_2 : decode cT_add 2 = .ok (.invokevirtual 76, 3) := by decide +kernel
theorem dT_add_5 : decode cT_add 5 = .ok (.ifCond .ne 5, 3) := by decide +kernel
theorem dT_add_8 : decode cT_add 8 = .ok (.iconst (-1), 1) := by decide +kernel
theorem dT_add_9 : decode cT_add 9 = .ok (.ireturn, 1) := by decide +kernel
theorem dT_add_10 : decode cT_add 10 = .ok (.aload_n 0, 1) := by decide +kernel
theorem dT_add_11 : decode cT_add 11 = .ok (.getfield 30, 3) := by decide +kernel
theorem dT_add_14 : decode cT_add 14 = .ok (.iload_n 1, 1) := by decide +kernel
theorem dT_add_15 : decode cT_add 15 = .ok (.baload, 1) := by decide +kernel
theorem dT_add_16 : decode cT_add 16 = .ok (.ifCond .eq 6, 3) := by decide +kernel
theorem dT_add_19 : decode cT_add 19 = .ok (.bipush (-2), 2) := by decide +kernel
theorem dT_add_21 : decode cT_add 21 = .ok (.ireturn, 1) := by decide +kernel
theorem dT_add_22 : decode cT_add 22 = .ok (.lload 4, 2) := by decide +kernel
theorem dT_add_24 : decode cT_add 24 = .ok (.aload_n 0, 1) := by decide +kernel
theorem dT_add_25 : decode cT_add 25 = .ok (.iload_n 1, 1) := by decide +kernel
theorem dT_add_26 : decode cT_add 26 = .ok (.invokevirtual 80, 3) := by decide +kernel
theorem dT_add_29 : decode cT_add 29 = .ok (.lcmp, 1) := by decide +kernel
theorem dT_add_30 : decode cT_add 30 = .ok (.ifCond .eq 6, 3) := by decide +kernel
theorem dT_add_33 : decode cT_add 33 = .ok (.bipush (-3), 2) := by decide +kernel
theorem dT_add_35 : decode cT_add 35 = .ok (.ireturn, 1) := by decide +kernel
theorem dT_add_36 : decode cT_add 36 = .ok (.lload_n 2, 1) := by decide +kernel
theorem dT_add_37 : decode cT_add 37 = .ok (.aload_n 0, 1) := by decide +kernel
theorem dT_add_38 : decode cT_add 38 = .ok (.iload_n 1, 1) := by decide +kernel
theorem dT_add_39 : decode cT_add 39 = .ok (.invokevirtual 84, 3) := by decide +kernel
theorem dT_add_42 : decode cT_add 42 = .ok (.lcmp, 1) := by decide +kernel
theorem dT_add_43 : decode cT_add 43 = .ok (.ifCond .le 11, 3) := by decide +kernel
theorem dT_add_46 : decode cT_add 46 = .ok (.lload_n 2, 1) := by decide +kernel
theorem dT_add_47 : decode cT_add 47 = .ok (.ldc2_w 56, 3) := by decide +kernel
theorem dT_add_50 : decode cT_add 50 = .ok (.lcmp, 1) := by decide +kernel
theorem dT_add_51 : decode cT_add 51 = .ok (.ifCond .le 6, 3) := by decide +kernel
theorem dT_add_54 : decode cT_add 54 = .ok (.bipush (-4), 2) := by decide +kernel
theorem dT_add_56 : decode cT_add 56 = .ok (.ireturn, 1) := by decide +kernel
theorem dT_add_57 : decode cT_add 57 = .ok (.aload_n 0, 1) := by decide +kernel
theorem dT_add_58 : decode cT_add 58 = .ok (.getfield 70, 3) := by decide +kernel
theorem dT_add_61 : decode cT_add 61 = .ok (.aload_n 0, 1) := by decide +kernel
theorem dT_add_62 : decode cT_add 62 = .ok (.getfield 9, 3) := by decide +kernel
theorem dT_add_65 : decode cT_add 65 = .ok (.if_icmp .lt 6, 3) := by decide +kernel
theorem dT_add_68 : decode cT_add 68 = .ok (.bipush (-5), 2) := by decide +kernel
theorem dT_add_70 : decode cT_add 70 = .ok (.ireturn, 1) := by decide +kernel
theorem dT_add_71 : decode cT_add 71 = .ok (.aload_n 0, 1) := by decide +kernel
theorem dT_add_72 : decode cT_add 72 = .ok (.iload_n 1, 1) := by decide +kernel
theorem dT_add_73 : decode cT_add 73 = .ok (.lload_n 2, 1) := by decide +kernel
theorem dT_add_74 : decode cT_add 74 = .ok (.lload 4, 2) := by decide +kernel
theorem dT_add_76 : decode cT_add 76 = .ok (.invokevirtual 87, 3) := by decide +kernel
theorem dT_add_79 : decode cT_add 79 = .ok (.ireturn, 1) := by decide +kernel
theorem dT_spoilBehind_0 : decode cT_spoilBehind 0 = .ok (.iconst 0, 1) := by decide +kernel
theorem dT_spoilBehind_1 : decode cT_spoilBehind 1 = .ok (.istore_n 2, 1) := by decide +kernel
theorem dT_spoilBehind_2 : decode cT_spoilBehind 2 = .ok (.iload_n 1, 1) := by decide +kernel
theorem dT_spoilBehind_3 : decode cT_spoilBehind 3 = .ok (.iconst 1, 1) := by decide +kernel
theorem dT_spoilBehind_4 : decode cT_spoilBehind 4 = .ok (.iadd, 1) := by decide +kernel
theorem dT_spoilBehind_5 : decode cT_spoilBehind 5 = .ok (.istore_n 3, 1) := by decide +kernel
theorem dT_spoilBehind_6 : decode cT_spoilBehind 6 = .ok (.iload_n 3, 1) := by decide +kernel
theorem dT_spoilBehind_7 : decode cT_spoilBehind 7 = .ok (.aload_n 0, 1) := by decide +kernel
theorem dT_spoilBehind_8 : decode cT_spoilBehind 8 = .ok (.getfield 70, 3) := by decide +kernel
theorem dT_spoilBehind_11 : decode cT_spoilBehind 11 = .ok (.if_icmp .ge 42, 3) := by decide +kernel
theorem dT_spoilBehind_14 : decode cT_spoilBehind 14 = .ok (.aload_n 0, 1) := by decide +kernel
theorem dT_spoilBehind_15 : decode cT_spoilBehind 15 = .ok (.getfield 30, 3) := by decide +kernel
theorem dT_spoilBehind_18 : decode cT_spoilBehind 18 = .ok (.iload_n 3, 1) := by decide +kernel
theorem dT_spoilBehind_19 : decode cT_spoilBehind 19 = .ok (.baload, 1) := by decide +kernel
theorem dT_spoilBehind_20 : decode cT_spoilBehind 20 = .ok (.ifCond .ne 27, 3) := by decide +kernel
theorem dT_spoilBehind_23 : decode cT_spoilBehind 23 = .ok (.aload_n 0, 1) := by decide +kernel
theorem dT_spoilBehind_24 : decode cT_spoilBehind 24 = .ok (.getfield 30, 3) := by decide +kernel
theorem dT_spoilBehind_27 : decode cT_spoilBehind 27 = .ok (.aload_n 0, 1) := by decide +kernel
theorem dT_spoilBehind_28 : decode cT_spoilBehind 28 = .ok (.getfield 13, 3) := by decide +kernel
theorem dT_spoilBehind_31 : decode cT_spoilBehind 31 = .ok (.iload_n 3, 1) := by decide +kernel
theorem dT_spoilBehind_32 : decode cT_spoilBehind 32 = .ok (.iaload, 1) := by decide +kernel
theorem dT_spoilBehind_33 : decode cT_spoilBehind 33 = .ok (.baload, 1) := by decide +kernel
theorem dT_spoilBehind_34 : decode cT_spoilBehind 34 = .ok (.ifCond .eq 13, 3) := by decide +kernel
theorem dT_spoilBehind_37 : decode cT_spoilBehind 37 = .ok (.aload_n 0, 1) := by decide +kernel
theorem dT_spoilBehind_38 : decode cT_spoilBehind 38 = .ok (.getfield 30, 3) := by decide +kernel
theorem dT_spoilBehind_41 : decode cT_spoilBehind 41 = .ok (.iload_n 3, 1) := by decide +kernel
theorem dT_spoilBehind_42 : decode cT_spoilBehind 42 = .ok (.iconst 1, 1) := by decide +kernel
theorem dT_spoilBehind_43 : decode cT_spoilBehind 43 = .ok (.bastore, 1) := by decide +kernel
theorem dT_spoilBehind_44 : decode cT_spoilBehind 44 = .ok (.iinc 2 1, 3) := by decide +kernel
theorem dT_spoilBehind_47 : decode cT_spoilBehind 47 = .ok (.iinc 3 1, 3) := by decide +kernel
theorem dT_spoilBehind_50 : decode cT_spoilBehind 50 = .ok (.goto (-44), 3) := by decide +kernel
theorem dT_spoilBehind_53 : decode cT_spoilBehind 53 = .ok (.iload_n 2, 1) := by decide +kernel
theorem dT_spoilBehind_54 : decode cT_spoilBehind 54 = .ok (.ireturn, 1) := by decide +kernel
theorem dT_findBest_0 : decode cT_findBest 0 = .ok (.iconst 0, 1) := by decide +kernel
theorem dT_findBest_1 : decode cT_findBest 1 = .ok (.istore_n 1, 1) := by decide +kernel
theorem dT_findBest_2 : decode cT_findBest 2 = .ok (.iconst 1, 1) := by decide +kernel
theorem dT_findBest_3 : decode cT_findBest 3 = .ok (.istore_n 2, 1) := by decide +kernel
theorem dT_findBest_4 : decode cT_findBest 4 = .ok (.iload_n 2, 1) := by decide +kernel
theorem dT_findBest_5 : decode cT_findBest 5 = .ok (.aload_n 0, 1) := by decide +kernel
theorem dT_findBest_6 : decode cT_findBest 6 = .ok (.getfield 70, 3) := by decide +kernel
theorem dT_findBest_9 : decode cT_findBest 9 = .ok (.if_icmp .ge 29, 3) := by decide +kernel
theorem dT_findBest_12 : decode cT_findBest 12 = .ok (.aload_n 0, 1) := by decide +kernel
theorem dT_findBest_13 : decode cT_findBest 13 = .ok (.getfield 30, 3) := by decide +kernel
theorem dT_findBest_16 : decode cT_findBest 16 = .ok (.iload_n 2, 1) := by decide +kernel
theorem dT_findBest_17 : decode cT_findBest 17 = .ok (.baload, 1) := by decide +kernel
theorem dT_findBest_18 : decode cT_findBest 18 = .ok (.ifCond .ne 14, 3) := by decide +kernel
theorem dT_findBest_21 : decode cT_findBest 21 = .ok (.aload_n 0, 1) := by decide +kernel
theorem dT_findBest_22 : decode cT_findBest 22 = .ok (.iload_n 2, 1) := by decide +kernel
theorem dT_findBest_23 : decode cT_findBest 23 = .ok (.iload_n 1, 1) := by decide +kernel
theorem dT_findBest_24 : decode cT_findBest 24 = .ok (.invokevirtual 116, 3) := by decide +kernel
theorem dT_findBest_27 : decode cT_findBest 27 = .ok (.ifCond .le 5, 3) := by decide +kernel
theorem dT_findBest_30 : decode cT_findBest 30 = .ok (.iload_n 2, 1) := by decide +kernel
theorem dT_findBest_31 : decode cT_findBest 31 = .ok (.istore_n 1, 1) := by decide +kernel
theorem dT_findBest_32 : decode cT_findBest 32 = .ok (.iinc 2 1, 3) := by decide +kernel
theorem dT_findBest_35 : decode cT_findBest 35 = .ok (.goto (-31), 3) := by decide +kernel
theorem dT_findBest_38 : decode cT_findBest 38 = .ok (.iload_n 1, 1) := by decide +kernel
theorem dT_findBest_39 : decode cT_findBest 39 = .ok (.ireturn, 1) := by decide +kernel
theorem dT_spoil_0 : decode cT_spoil 0 = .ok (.aload_n 0, 1) := by decide +kernel
theorem dT_spoil_1 : decode cT_spoil 1 = .ok (.iload_n 1, 1) := by decide +kernel
theorem dT_spoil_2 : decode cT_spoil 2 = .ok (.invokevirtual 76, 3) := by decide +kernel
theorem dT_spoil_5 : decode cT_spoil 5 = .ok (.ifCond .eq 16, 3) := by decide +kernel
theorem dT_spoil_8 : decode cT_spoil 8 = .ok (.iload_n 1, 1) := by decide +kernel
theorem dT_spoil_9 : decode cT_spoil 9 = .ok (.ifCond .eq 12, 3) := by decide +kernel
theorem dT_spoil_12 : decode cT_spoil 12 = .ok (.aload_n 0, 1) := by decide +kernel
theorem dT_spoil_13 : decode cT_spoil 13 = .ok (.getfield 30, 3) := by decide +kernel
theorem dT_spoil_16 : decode cT_spoil 16 = .ok (.iload_n 1, 1) := by decide +kernel
theorem dT_spoil_17 : decode cT_spoil 17 = .ok (.baload, 1) := by decide +kernel
theorem dT_spoil_18 : decode cT_spoil 18 = .ok (.ifCond .eq 5, 3) := by decide +kernel
theorem dT_spoil_21 : decode cT_spoil 21 = .ok (.iconst 0, 1) := by decide +kernel
theorem dT_spoil_22 : decode cT_spoil 22 = .ok (.ireturn, 1) := by decide +kernel
theorem dT_spoil_23 : decode cT_spoil 23 = .ok (.aload_n 0, 1) := by decide +kernel
theorem dT_spoil_24 : decode cT_spoil 24 = .ok (.getfield 30, 3) := by decide +kernel
theorem dT_spoil_27 : decode cT_spoil 27 = .ok (.iload_n 1, 1) := by decide +kernel
theorem dT_spoil_28 : decode cT_spoil 28 = .ok (.iconst 1, 1) := by decide +kernel
theorem dT_spoil_29 : decode cT_spoil 29 = .ok (.bastore, 1) := by decide +kernel
theorem dT_spoil_30 : decode cT_spoil 30 = .ok (.iconst 1, 1) := by decide +kernel
theorem dT_spoil_31 : decode cT_spoil 31 = .ok (.aload_n 0, 1) := by decide +kernel
theorem dT_spoil_32 : decode cT_spoil 32 = .ok (.iload_n 1, 1) := by decide +kernel
theorem dT_spoil_33 : decode cT_spoil 33 = .ok (.invokevirtual 91, 3) := by decide +kernel
theorem dT_spoil_36 : decode cT_spoil 36 = .ok (.iadd, 1) := by decide +kernel
theorem dT_spoil_37 : decode cT_spoil 37 = .ok (.istore_n 2, 1) := by decide +kernel
theorem dT_spoil_38 : decode cT_spoil 38 = .ok (.aload_n 0, 1) := by decide +kernel
theorem dT_spoil_39 : decode cT_spoil 39 = .ok (.getfield 30, 3) := by decide +kernel
theorem dT_spoil_42 : decode cT_spoil 42 = .ok (.aload_n 0, 1) := by decide +kernel
theorem dT_spoil_43 : decode cT_spoil 43 = .ok (.getfield 73, 3) := by decide +kernel
theorem dT_spoil_46 : decode cT_spoil 46 = .ok (.baload, 1) := by decide +kernel
theorem dT_spoil_47 : decode cT_spoil 47 = .ok (.ifCond .eq 11, 3) := by decide +kernel
theorem dT_spoil_50 : decode cT_spoil 50 = .ok (.aload_n 0, 1) := by decide +kernel
theorem dT_spoil_51 : decode cT_spoil 51 = .ok (.aload_n 0, 1) := by decide +kernel
theorem dT_spoil_52 : decode cT_spoil 52 = .ok (.invokevirtual 95, 3) := by decide +kernel
theorem dT_spoil_55 : decode cT_spoil 55 = .ok (.putfield 73, 3) := by decide +kernel
theorem dT_spoil_58 : decode cT_spoil 58 = .ok (.iload_n 2, 1) := by decide +kernel
theorem dT_spoil_59 : decode cT_spoil 59 = .ok (.ireturn, 1) := by decide +kernel
theorem dT_look_0 : decode cT_look 0 = .ok (.aload_n 0, 1) := by decide +kernel
theorem dT_look_1 : decode cT_look 1 = .ok (.iload_n 1, 1) := by decide +kernel
theorem dT_look_2 : decode cT_look 2 = .ok (.invokevirtual 76, 3) := by decide +kernel
theorem dT_look_5 : decode cT_look 5 = .ok (.ifCond .ne 7, 3) := by decide +kernel
theorem dT_look_8 : decode cT_look 8 = .ok (.ldc2_w 99, 3) := by decide +kernel
theorem dT_look_11 : decode cT_look 11 = .ok (.lreturn, 1) := by decide +kernel
theorem dT_look_12 : decode cT_look 12 = .ok (.iload_n 2, 1) := by decide +kernel
theorem dT_look_13 : decode cT_look 13 = .ok (.tableswitch 92 0 5 #[39, 47, 55, 62, 69, 84], 39) := by decide +kernel
theorem dT_look_52 : decode cT_look 52 = .ok (.aload_n 0, 1) := by decide +kernel
theorem dT_look_53 : decode cT_look 53 = .ok (.getfield 13, 3) := by decide +kernel
theorem dT_look_56 : decode cT_look 56 = .ok (.iload_n 1, 1) := by decide +kernel
theorem dT_look_57 : decode cT_look 57 = .ok (.iaload, 1) := by decide +kernel
theorem dT_look_58 : decode cT_look 58 = .ok (.i2l, 1) := by decide +kernel
theorem dT_look_59 : decode cT_look 59 = .ok (.lreturn, 1) := by decide +kernel
theorem dT_look_60 : decode cT_look 60 = .ok (.aload_n 0, 1) := by decide +kernel
theorem dT_look_61 : decode cT_look 61 = .ok (.getfield 17, 3) := by decide +kernel
theorem dT_look_64 : decode cT_look 64 = .ok (.iload_n 1, 1) := by decide +kernel
theorem dT_look_65 : decode cT_look 65 = .ok (.iaload, 1) := by decide +kernel
theorem dT_look_66 : decode cT_look 66 = .ok (.i2l, 1) := by decide +kernel
theorem dT_look_67 : decode cT_look 67 = .ok (.lreturn, 1) := by decide +kernel
theorem dT_look_68 : decode cT_look 68 = .ok (.aload_n 0, 1) := by decide +kernel
theorem dT_look_69 : decode cT_look 69 = .ok (.getfield 23, 3) := by decide +kernel
theorem dT_look_72 : decode cT_look 72 = .ok (.iload_n 1, 1) := by decide +kernel
theorem dT_look_73 : decode cT_look 73 = .ok (.laload, 1) := by decide +kernel
theorem dT_look_74 : decode cT_look 74 = .ok (.lreturn, 1) := by decide +kernel
theorem dT_look_75 : decode cT_look 75 = .ok (.aload_n 0, 1) := by decide +kernel
theorem dT_look_76 : decode cT_look 76 = .ok (.getfield 27, 3) := by decide +kernel
theorem dT_look_79 : decode cT_look 79 = .ok (.iload_n 1, 1) := by decide +kernel
theorem dT_look_80 : decode cT_look 80 = .ok (.laload, 1) := by decide +kernel
theorem dT_look_81 : decode cT_look 81 = .ok (.lreturn, 1) := by decide +kernel
theorem dT_look_82 : decode cT_look 82 = .ok (.aload_n 0, 1) := by decide +kernel
theorem dT_look_83 : decode cT_look 83 = .ok (.getfield 30, 3) := by decide +kernel
theorem dT_look_86 : decode cT_look 86 = .ok (.iload_n 1, 1) := by decide +kernel
theorem dT_look_87 : decode cT_look 87 = .ok (.baload, 1) := by decide +kernel
theorem dT_look_88 : decode cT_look 88 = .ok (.ifCond .eq 7, 3) := by decide +kernel
theorem dT_look_91 : decode cT_look 91 = .ok (.lconst 1, 1) := by decide +kernel
theorem dT_look_92 : decode cT_look 92 = .ok (.goto 4, 3) := by decide +kernel
theorem dT_look_95 : decode cT_look 95 = .ok (.lconst 0, 1) := by decide +kernel
theorem dT_look_96 : decode cT_look 96 = .ok (.lreturn, 1) := by decide +kernel
theorem dT_look_97 : decode cT_look 97 = .ok (.aload_n 0, 1) := by decide +kernel
theorem dT_look_98 : decode cT_look 98 = .ok (.getfield 20, 3) := by decide +kernel
theorem dT_look_101 : decode cT_look 101 = .ok (.iload_n 1, 1) := by decide +kernel
theorem dT_look_102 : decode cT_look 102 = .ok (.iaload, 1) := by decide +kernel
theorem dT_look_103 : decode cT_look 103 = .ok (.i2l, 1) := by decide +kernel
theorem dT_look_104 : decode cT_look 104 = .ok (.lreturn, 1) := by decide +kernel
theorem dT_look_105 : decode cT_look 105 = .ok (.ldc2_w 99, 3) := by decide +kernel
theorem dT_look_108 : decode cT_look 108 = .ok (.lreturn, 1) := by decide +kernel
theorem dT_work_0 : decode cT_work 0 = .ok (.aload_n 0, 1) := by decide +kernel
theorem dT_work_1 : decode cT_work 1 = .ok (.iload_n 1, 1) := by decide +kernel
theorem dT_work_2 : decode cT_work 2 = .ok (.invokevirtual 76, 3) := by decide +kernel
theorem dT_work_5 : decode cT_work 5 = .ok (.ifCond .eq 12, 3) := by decide +kernel
theorem dT_work_8 : decode cT_work 8 = .ok (.iload_n 2, 1) := by decide +kernel
theorem dT_work_9 : decode cT_work 9 = .ok (.ifCond .lt 8, 3) := by decide +kernel
theorem dT_work_12 : decode cT_work 12 = .ok (.iload_n 2, 1) := by decide +kernel
theorem dT_work_13 : decode cT_work 13 = .ok (.iconst 4, 1) := by decide +kernel
theorem dT_work_14 : decode cT_work 14 = .ok (.if_icmp .lt 5, 3) := by decide +kernel
theorem dT_work_17 : decode cT_work 17 = .ok (.lconst 0, 1) := by decide +kernel
theorem dT_work_18 : decode cT_work 18 = .ok (.lreturn, 1) := by decide +kernel
theorem dT_work_19 : decode cT_work 19 = .ok (.iload_n 1, 1) := by decide +kernel
theorem dT_work_20 : decode cT_work 20 = .ok (.bipush 8, 2) := by decide +kernel
theorem dT_work_22 : decode cT_work 22 = .ok (.imul, 1) := by decide +kernel
theorem dT_work_23 : decode cT_work 23 = .ok (.iconst 2, 1) := by decide +kernel
theorem dT_work_24 : decode cT_work 24 = .ok (.iload_n 2, 1) := by decide +kernel
theorem dT_work_25 : decode cT_work 25 = .ok (.imul, 1) := by decide +kernel
theorem dT_work_26 : decode cT_work 26 = .ok (.iadd, 1) := by decide +kernel
theorem dT_work_27 : decode cT_work 27 = .ok (.istore_n 3, 1) := by decide +kernel
theorem dT_work_28 : decode cT_work 28 = .ok (.aload_n 0, 1) := by decide +kernel
theorem dT_work_29 : decode cT_work 29 = .ok (.getfield 36, 3) := by decide +kernel
theorem dT_work_32 : decode cT_work 32 = .ok (.iload_n 3, 1) := by decide +kernel
theorem dT_work_33 : decode cT_work 33 = .ok (.laload, 1) := by decide +kernel
theorem dT_work_34 : decode cT_work 34 = .ok (.aload_n 0, 1) := by decide +kernel
theorem dT_work_35 : decode cT_work 35 = .ok (.getfield 36, 3) := by decide +kernel
theorem dT_work_38 : decode cT_work 38 = .ok (.iload_n 3, 1) := by decide +kernel
theorem dT_work_39 : decode cT_work 39 = .ok (.iconst 1, 1) := by decide +kernel
theorem dT_work_40 : decode cT_work 40 = .ok (.iadd, 1) := by decide +kernel
theorem dT_work_41 : decode cT_work 41 = .ok (.laload, 1) := by decide +kernel
theorem dT_work_42 : decode cT_work 42 = .ok (.invokestatic 113, 3) := by decide +kernel
theorem dT_work_45 : decode cT_work 45 = .ok (.lreturn, 1) := by decide +kernel
theorem dT_compare_0 : decode cT_compare 0 = .ok (.aload_n 0, 1) := by decide +kernel
theorem dT_compare_1 : decode cT_compare 1 = .ok (.iload_n 1, 1) := by decide +kernel
theorem dT_compare_2 : decode cT_compare 2 = .ok (.invokevirtual 76, 3) := by decide +kernel
theorem dT_compare_5 : decode cT_compare 5 = .ok (.ifCond .eq 11, 3) := by decide +kernel
theorem dT_compare_8 : decode cT_compare 8 = .ok (.aload_n 0, 1) := by decide +kernel
theorem dT_compare_9 : decode cT_compare 9 = .ok (.iload_n 2, 1) := by decide +kernel
theorem dT_compare_10 : decode cT_compare 10 = .ok (.invokevirtual 76, 3) := by decide +kernel
theorem dT_compare_13 : decode cT_compare 13 = .ok (.ifCond .ne 6, 3) := by decide +kernel
theorem dT_compare_16 : decode cT_compare 16 = .ok (.bipush (-2), 2) := by decide +kernel
theorem dT_compare_18 : decode cT_compare 18 = .ok (.ireturn, 1) := by decide +kernel
theorem dT_compare_19 : decode cT_compare 19 = .ok (.aload_n 0, 1) := by decide +kernel
theorem dT_compare_20 : decode cT_compare 20 = .ok (.iload_n 1, 1) := by decide +kernel
theorem dT_compare_21 : decode cT_compare 21 = .ok (.iload_n 2, 1) := by decide +kernel
theorem dT_compare_22 : decode cT_compare 22 = .ok (.invokevirtual 116, 3) := by decide +kernel
theorem dT_compare_25 : decode cT_compare 25 = .ok (.ireturn, 1) := by decide +kernel
theorem dT_tip_0 : decode cT_tip 0 = .ok (.aload_n 0, 1) := by decide +kernel
theorem dT_tip_1 : decode cT_tip 1 = .ok (.getfield 73, 3) := by decide +kernel
theorem dT_tip_4 : decode cT_tip 4 = .ok (.ireturn, 1) := by decide +kernel
theorem dT_size_0 : decode cT_size 0 = .ok (.aload_n 0, 1) := by decide +kernel
theorem dT_size_1 : decode cT_size 1 = .ok (.getfield 70, 3) := by decide +kernel
theorem dT_size_4 : decode cT_size 4 = .ok (.ireturn, 1) := by decide +kernel
theorem dT_below_0 : decode cT_below 0 = .ok (.aload_n 0, 1) := by decide +kernel
theorem dT_below_1 : decode cT_below 1 = .ok (.iload_n 1, 1) := by decide +kernel
theorem dT_below_2 : decode cT_below 2 = .ok (.invokevirtual 76, 3) := by decide +kernel
theorem dT_below_5 : decode cT_below 5 = .ok (.ifCond .eq 17, 3) := by decide +kernel
theorem dT_below_8 : decode cT_below 8 = .ok (.iload_n 2, 1) := by decide +kernel
theorem dT_below_9 : decode cT_below 9 = .ok (.ifCond .lt 13, 3) := by decide +kernel
theorem dT_below_12 : decode cT_below 12 = .ok (.iload_n 2, 1) := by decide +kernel
theorem dT_below_13 : decode cT_below 13 = .ok (.aload_n 0, 1) := by decide +kernel
theorem dT_below_14 : decode cT_below 14 = .ok (.getfield 17, 3) := by decide +kernel
theorem dT_below_17 : decode cT_below 17 = .ok (.iload_n 1, 1) := by decide +kernel
theorem dT_below_18 : decode cT_below 18 = .ok (.iaload, 1) := by decide +kernel
theorem dT_below_19 : decode cT_below 19 = .ok (.if_icmp .le 5, 3) := by decide +kernel
theorem dT_below_22 : decode cT_below 22 = .ok (.iconst (-1), 1) := by decide +kernel
theorem dT_below_23 : decode cT_below 23 = .ok (.ireturn, 1) := by decide +kernel
theorem dT_below_24 : decode cT_below 24 = .ok (.aload_n 0, 1) := by decide +kernel
theorem dT_below_25 : decode cT_below 25 = .ok (.iload_n 1, 1) := by decide +kernel
theorem dT_below_26 : decode cT_below 26 = .ok (.iload_n 2, 1) := by decide +kernel
theorem dT_below_27 : decode cT_below 27 = .ok (.invokevirtual 101, 3) := by decide +kernel
theorem dT_below_30 : decode cT_below 30 = .ok (.ireturn, 1) := by decide +kernel
theorem dT_fork_0 : decode cT_fork 0 = .ok (.aload_n 0, 1) := by decide +kernel
theorem dT_fork_1 : decode cT_fork 1 = .ok (.iload_n 1, 1) := by decide +kernel
theorem dT_fork_2 : decode cT_fork 2 = .ok (.invokevirtual 76, 3) := by decide +kernel
theorem dT_fork_5 : decode cT_fork 5 = .ok (.ifCond .eq 11, 3) := by decide +kernel
theorem dT_fork_8 : decode cT_fork 8 = .ok (.aload_n 0, 1) := by decide +kernel
theorem dT_fork_9 : decode cT_fork 9 = .ok (.iload_n 2, 1) := by decide +kernel
theorem dT_fork_10 : decode cT_fork 10 = .ok (.invokevirtual 76, 3) := by decide +kernel
theorem dT_fork_13 : decode cT_fork 13 = .ok (.ifCond .ne 5, 3) := by decide +kernel
theorem dT_fork_16 : decode cT_fork 16 = .ok (.iconst (-1), 1) := by decide +kernel
theorem dT_fork_17 : decode cT_fork 17 = .ok (.ireturn, 1) := by decide +kernel
theorem dT_fork_18 : decode cT_fork 18 = .ok (.iload_n 1, 1) := by decide +kernel
theorem dT_fork_19 : decode cT_fork 19 = .ok (.istore_n 3, 1) := by decide +kernel
theorem dT_fork_20 : decode cT_fork 20 = .ok (.iload_n 2, 1) := by decide +kernel
theorem dT_fork_21 : decode cT_fork 21 = .ok (.istore 4, 2) := by decide +kernel
theorem dT_fork_23 : decode cT_fork 23 = .ok (.iconst 2, 1) := by decide +kernel
theorem dT_fork_24 : decode cT_fork 24 = .ok (.aload_n 0, 1) := by decide +kernel
theorem dT_fork_25 : decode cT_fork 25 = .ok (.getfield 70, 3) := by decide +kernel
theorem dT_fork_28 : decode cT_fork 28 = .ok (.imul, 1) := by decide +kernel
theorem dT_fork_29 : decode cT_fork 29 = .ok (.istore 5, 2) := by decide +kernel
theorem dT_fork_31 : decode cT_fork 31 = .ok (.iload 5, 2) := by decide +kernel
theorem dT_fork_33 : decode cT_fork 33 = .ok (.ifCond .le 40, 3) := by decide +kernel
theorem dT_fork_36 : decode cT_fork 36 = .ok (.iload_n 3, 1) := by decide +kernel
theorem dT_fork_37 : decode cT_fork 37 = .ok (.iload 4, 2) := by decide +kernel
theorem dT_fork_39 : decode cT_fork 39 = .ok (.if_icmp .eq 34, 3) := by decide +kernel
theorem dT_fork_42 : decode cT_fork 42 = .ok (.iload_n 3, 1) := by decide +kernel
theorem dT_fork_43 : decode cT_fork 43 = .ok (.iload 4, 2) := by decide +kernel
theorem dT_fork_45 : decode cT_fork 45 = .ok (.if_icmp .le 13, 3) := by decide +kernel
theorem dT_fork_48 : decode cT_fork 48 = .ok (.aload_n 0, 1) := by decide +kernel
theorem dT_fork_49 : decode cT_fork 49 = .ok (.getfield 13, 3) := by decide +kernel
theorem dT_fork_52 : decode cT_fork 52 = .ok (.iload_n 3, 1) := by decide +kernel
theorem dT_fork_53 : decode cT_fork 53 = .ok (.iaload, 1) := by decide +kernel
theorem dT_fork_54 : decode cT_fork 54 = .ok (.istore_n 3, 1) := by decide +kernel
theorem dT_fork_55 : decode cT_fork 55 = .ok (.goto 12, 3) := by decide +kernel
theorem dT_fork_58 : decode cT_fork 58 = .ok (.aload_n 0, 1) := by decide +kernel
theorem dT_fork_59 : decode cT_fork 59 = .ok (.getfield 13, 3) := by decide +kernel
theorem dT_fork_62 : decode cT_fork 62 = .ok (.iload 4, 2) := by decide +kernel
theorem dT_fork_64 : decode cT_fork 64 = .ok (.iaload, 1) := by decide +kernel
theorem dT_fork_65 : decode cT_fork 65 = .ok (.istore 4, 2) := by decide +kernel
theorem dT_fork_67 : decode cT_fork 67 = .ok (.iinc 5 (-1), 3) := by decide +kernel
theorem dT_fork_70 : decode cT_fork 70 = .ok (.goto (-39), 3) := by decide +kernel
theorem dT_fork_73 : decode cT_fork 73 = .ok (.iload_n 3, 1) := by decide +kernel
theorem dT_fork_74 : decode cT_fork 74 = .ok (.ireturn, 1) := by decide +kernel
theorem dT_row_0 : decode cT_row 0 = .ok (.aload_n 0, 1) := by decide +kernel
theorem dT_row_1 : decode cT_row 1 = .ok (.iload_n 1, 1) := by decide +kernel
theorem dT_row_2 : decode cT_row 2 = .ok (.invokevirtual 76, 3) := by decide +kernel
theorem dT_row_5 : decode cT_row 5 = .ok (.ifCond .eq 17, 3) := by decide +kernel
theorem dT_row_8 : decode cT_row 8 = .ok (.iload_n 2, 1) := by decide +kernel
theorem dT_row_9 : decode cT_row 9 = .ok (.ifCond .lt 13, 3) := by decide +kernel
theorem dT_row_12 : decode cT_row 12 = .ok (.iload_n 2, 1) := by decide +kernel
theorem dT_row_13 : decode cT_row 13 = .ok (.aload_n 0, 1) := by decide +kernel
theorem dT_row_14 : decode cT_row 14 = .ok (.getfield 17, 3) := by decide +kernel
theorem dT_row_17 : decode cT_row 17 = .ok (.iload_n 1, 1) := by decide +kernel
theorem dT_row_18 : decode cT_row 18 = .ok (.iaload, 1) := by decide +kernel
theorem dT_row_19 : decode cT_row 19 = .ok (.if_icmp .le 5, 3) := by decide +kernel
theorem dT_row_22 : decode cT_row 22 = .ok (.iconst (-1), 1) := by decide +kernel
theorem dT_row_23 : decode cT_row 23 = .ok (.ireturn, 1) := by decide +kernel
theorem dT_row_24 : decode cT_row 24 = .ok (.aload_n 0, 1) := by decide +kernel
theorem dT_row_25 : decode cT_row 25 = .ok (.getfield 17, 3) := by decide +kernel
theorem dT_row_28 : decode cT_row 28 = .ok (.iload_n 1, 1) := by decide +kernel
theorem dT_row_29 : decode cT_row 29 = .ok (.iaload, 1) := by decide +kernel
theorem dT_row_30 : decode cT_row 30 = .ok (.istore_n 3, 1) := by decide +kernel
theorem dT_row_31 : decode cT_row 31 = .ok (.iconst 1, 1) := by decide +kernel
theorem dT_row_32 : decode cT_row 32 = .ok (.istore 4, 2) := by decide +kernel
theorem dT_row_34 : decode cT_row 34 = .ok (.iconst 1, 1) := by decide +kernel
theorem dT_row_35 : decode cT_row 35 = .ok (.istore 5, 2) := by decide +kernel
theorem dT_row_37 : decode cT_row 37 = .ok (.iload 5, 2) := by decide +kernel
theorem dT_row_39 : decode cT_row 39 = .ok (.iload_n 2, 1) := by decide +kernel
theorem dT_row_40 : decode cT_row 40 = .ok (.if_icmp .gt 37, 3) := by decide +kernel
theorem dT_row_43 : decode cT_row 43 = .ok (.iload_n 3, 1) := by decide +kernel
theorem dT_row_44 : decode cT_row 44 = .ok (.ifCond .ne 5, 3) := by decide +kernel
theorem dT_row_47 : decode cT_row 47 = .ok (.iconst (-1), 1) := by decide +kernel
theorem dT_row_48 : decode cT_row 48 = .ok (.ireturn, 1) := by decide +kernel
theorem dT_row_49 : decode cT_row 49 = .ok (.iload 5, 2) := by decide +kernel
theorem dT_row_51 : decode cT_row 51 = .ok (.bipush 9, 2) := by decide +kernel
theorem dT_row_53 : decode cT_row 53 = .ok (.if_icmp .le 9, 3) := by decide +kernel
theorem dT_row_56 : decode cT_row 56 = .ok (.iload 4, 2) := by decide +kernel
theorem dT_row_58 : decode cT_row 58 = .ok (.iconst 2, 1) := by decide +kernel
theorem dT_row_59 : decode cT_row 59 = .ok (.imul, 1) := by decide +kernel
theorem dT_row_60 : decode cT_row 60 = .ok (.istore 4, 2) := by decide +kernel
theorem dT_row_62 : decode cT_row 62 = .ok (.iconst 0, 1) := by decide +kernel
theorem dT_row_63 : decode cT_row 63 = .ok (.iload_n 3, 1) := by decide +kernel
theorem dT_row_64 : decode cT_row 64 = .ok (.iload 4, 2) := by decide +kernel
theorem dT_row_66 : decode cT_row 66 = .ok (.isub, 1) := by decide +kernel
theorem dT_row_67 : decode cT_row 67 = .ok (.invokestatic 119, 3) := by decide +kernel
theorem dT_row_70 : decode cT_row 70 = .ok (.istore_n 3, 1) := by decide +kernel
theorem dT_row_71 : decode cT_row 71 = .ok (.iinc 5 1, 3) := by decide +kernel
theorem dT_row_74 : decode cT_row 74 = .ok (.goto (-37), 3) := by decide +kernel
theorem dT_row_77 : decode cT_row 77 = .ok (.aload_n 0, 1) := by decide +kernel
theorem dT_row_78 : decode cT_row 78 = .ok (.iload_n 1, 1) := by decide +kernel
theorem dT_row_79 : decode cT_row 79 = .ok (.iload_n 3, 1) := by decide +kernel
theorem dT_row_80 : decode cT_row 80 = .ok (.invokevirtual 101, 3) := by decide +kernel
theorem dT_row_83 : decode cT_row 83 = .ok (.ireturn, 1) := by decide +kernel
theorem dT_fault_0 : decode cT_fault 0 = .ok (.lload_n 1, 1) := by decide +kernel
theorem dT_fault_1 : decode cT_fault 1 = .ok (.invokestatic 124, 3) := by decide +kernel
theorem dT_fault_4 : decode cT_fault 4 = .ok (.ireturn, 1) := by decide +kernel
theorem dT_target_0 : decode cT_target 0 = .ok (.lload_n 1, 1) := by decide +kernel
theorem dT_target_1 : decode cT_target 1 = .ok (.invokestatic 124, 3) := by decide +kernel
theorem dT_target_4 : decode cT_target 4 = .ok (.istore 4, 2) := by decide +kernel
theorem dT_target_6 : decode cT_target 6 = .ok (.iload 4, 2) := by decide +kernel
theorem dT_target_8 : decode cT_target 8 = .ok (.ifCond .eq 9, 3) := by decide +kernel
theorem dT_target_11 : decode cT_target 11 = .ok (.iload 4, 2) := by decide +kernel
theorem dT_target_13 : decode cT_target 13 = .ok (.iconst 4, 1) := by decide +kernel
theorem dT_target_14 : decode cT_target 14 = .ok (.if_icmp .ne 7, 3) := by decide +kernel
theorem dT_target_17 : decode cT_target 17 = .ok (.iconst 1, 1) := by decide +kernel
theorem dT_target_18 : decode cT_target 18 = .ok (.goto 4, 3) := by decide +kernel
theorem dT_target_21 : decode cT_target 21 = .ok (.iconst 0, 1) := by decide +kernel
theorem dT_target_22 : decode cT_target 22 = .ok (.istore 5, 2) := by decide +kernel
theorem dT_target_24 : decode cT_target 24 = .ok (.iload 5, 2) := by decide +kernel
theorem dT_target_26 : decode cT_target 26 = .ok (.ifCond .eq 20, 3) := by decide +kernel
theorem dT_target_29 : decode cT_target 29 = .ok (.iload_n 3, 1) := by decide +kernel
theorem dT_target_30 : decode cT_target 30 = .ok (.ifCond .lt 16, 3) := by decide +kernel
theorem dT_target_33 : decode cT_target 33 = .ok (.iload_n 3, 1) := by decide +kernel
theorem dT_target_34 : decode cT_target 34 = .ok (.iconst 4, 1) := by decide +kernel
theorem dT_target_35 : decode cT_target 35 = .ok (.if_icmp .ge 11, 3) := by decide +kernel
theorem dT_target_38 : decode cT_target 38 = .ok (.lload_n 1, 1) := by decide +kernel
theorem dT_target_39 : decode cT_target 39 = .ok (.iload_n 3, 1) := by decide +kernel
theorem dT_target_40 : decode cT_target 40 = .ok (.invokestatic 128, 3) := by decide +kernel
theorem dT_target_43 : decode cT_target 43 = .ok (.goto 4, 3) := by decide +kernel
theorem dT_target_46 : decode cT_target 46 = .ok (.lconst 0, 1) := by decide +kernel
theorem dT_target_47 : decode cT_target 47 = .ok (.lreturn, 1) := by decide +kernel
theorem dT_compact_0 : decode cT_compact 0 = .ok (.lload_n 1, 1) := by decide +kernel
theorem dT_compact_1 : decode cT_compact 1 = .ok (.lload_n 3, 1) := by decide +kernel
theorem dT_compact_2 : decode cT_compact 2 = .ok (.lload 5, 2) := by decide +kernel
theorem dT_compact_4 : decode cT_compact 4 = .ok (.lload 7, 2) := by decide +kernel
theorem dT_compact_6 : decode cT_compact 6 = .ok (.invokestatic 132, 3) := by decide +kernel
theorem dT_compact_9 : decode cT_compact 9 = .ok (.lreturn, 1) := by decide +kernel
