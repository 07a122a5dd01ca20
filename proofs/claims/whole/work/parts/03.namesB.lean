theorem iR_init_R : ∀ w ∈ uR, w ∈ wR_init := by decide +kernel
theorem iW_init_W : ∀ w ∈ uW, w ∈ wW_init := by decide +kernel
set_option maxRecDepth 20000 in
theorem ggB_targetPart_B_shiftOf : GoodIn wB_targetPart wB_shiftOf := goodIn_q _ [5] (by decide +kernel) (by decide +kernel)
set_option maxRecDepth 20000 in
theorem gB_targetPart_B_shiftOf_15 : GoodIn wB_targetPart (va_wsS RB 15 yB_shiftOf wB_shiftOf) := goodIn_pp (goodIn_of _ (by decide +kernel)) ggB_targetPart_B_shiftOf
set_option maxRecDepth 20000 in
theorem ggB_targetHalf_B_targetPart : GoodIn wB_targetHalf wB_targetPart := goodIn_q _ [5, 6, 7, 8, 3, 9] (by decide +kernel) (by decide +kernel)
set_option maxRecDepth 20000 in
theorem gB_targetHalf_B_targetPart_22 : GoodIn wB_targetHalf (va_wsS RB 22 yB_targetPart wB_targetPart) := goodIn_pp (goodIn_of _ (by decide +kernel)) ggB_targetHalf_B_targetPart
theorem iW_setDivisor_W : ∀ w ∈ uW, w ∈ wW_setDivisor := by decide +kernel
set_option maxRecDepth 20000 in
theorem ggW_setDivisor_B_targetHalf : GoodIn wW_setDivisor wB_targetHalf := goodIn_q _ [6, 7, 8, 3, 9, 10, 11, 12, 13, 14] (by decide +kernel) (by decide +kernel)
set_option maxRecDepth 20000 in
theorem gW_setDivisor_B_targetHalf_34 : GoodIn wW_setDivisor (va_wsS RW 34 yB_targetHalf wB_targetHalf) := goodIn_pp (goodIn_of _ (by decide +kernel)) ggW_setDivisor_B_targetHalf
set_option maxRecDepth 20000 in
theorem ggJL_numberOfLeadingZeros_JI_numberOfLeadingZeros : GoodIn wJL_numberOfLeadingZeros wJI_numberOfLeadingZeros := goodIn_q _ [4, 5] (by decide +kernel) (by decide +kernel)
set_option maxRecDepth 20000 in
theorem gJL_numberOfLeadingZeros_JI_numberOfLeadingZeros_308 : GoodIn wJL_numberOfLeadingZeros (va_wsS RJL 308 yJI_numberOfLeadingZeros wJI_numberOfLeadingZeros) := goodIn_pp (goodIn_of _ (by decide +kernel)) ggJL_numberOfLeadingZeros_JI_numberOfLeadingZeros
set_option maxRecDepth 20000 in
theorem ggB_lengthOf_JL_numberOfLeadingZeros : GoodIn wB_lengthOf wJL_numberOfLeadingZeros := goodIn_q _ [4, 5, 6, 7, 8, 9] (by decide +kernel) (by decide +kernel)
set_option maxRecDepth 20000 in
theorem gB_lengthOf_JL_numberOfLeadingZeros_28 : GoodIn wB_lengthOf (va_wsS RB 28 yJL_numberOfLeadingZeros wJL_numberOfLeadingZeros) := goodIn_pp (goodIn_of _ (by decide +kernel)) ggB_lengthOf_JL_numberOfLeadingZeros
theorem iW_divisorLength_W : ∀ w ∈ uW, w ∈ wW_divisorLength := by decide +kernel
set_option maxRecDepth 20000 in
theorem ggW_divisorLength_B_lengthOf : GoodIn wW_divisorLength wB_lengthOf := goodIn_q _ [5, 6, 7, 8, 9, 10, 11, 12, 13, 14] (by decide +kernel) (by decide +kernel)
set_option maxRecDepth 20000 in
theorem gW_divisorLength_B_lengthOf_66 : GoodIn wW_divisorLength (va_wsS RW 66 yB_lengthOf wB_lengthOf) := goodIn_pp (goodIn_of _ (by decide +kernel)) ggW_divisorLength_B_lengthOf
theorem iW_restHoldsDivisor_W : ∀ w ∈ uW, w ∈ wW_restHoldsDivisor := by decide +kernel
theorem iW_subtractDivisor_W : ∀ w ∈ uW, w ∈ wW_subtractDivisor := by decide +kernel
theorem iW_divide_W : ∀ w ∈ uW, w ∈ wW_divide := by decide +kernel
set_option maxRecDepth 20000 in
theorem ggW_divide_JA_fill : GoodIn wW_divide wJA_fill := goodIn_q _ [22] (by decide +kernel) (by decide +kernel)
set_option maxRecDepth 20000 in
theorem gW_divide_JA_fill_40 : GoodIn wW_divide (va_wsS RW 40 yJA_fill wJA_fill) := goodIn_pp (goodIn_of _ (by decide +kernel)) ggW_divide_JA_fill
set_option maxRecDepth 20000 in
theorem ggW_divide_W_divisorLength : GoodIn wW_divide wW_divisorLength := goodIn_q _ [23, 24, 25, 26, 27, 28, 29, 30, 31, 32, 33, 34, 35, 36, 37, 42, 43, 44, 45] (by decide +kernel) (by decide +kernel)
set_option maxRecDepth 20000 in
theorem gW_divide_W_divisorLength_46 : GoodIn wW_divide (wsV RW 46 RW yW_divisorLength wW_divisorLength) := goodIn_pp (goodIn_of _ (by decide +kernel)) ggW_divide_W_divisorLength
set_option maxRecDepth 20000 in
theorem ggW_divide_W_twice : GoodIn wW_divide wW_twice := goodIn_q _ [38, 39] (by decide +kernel) (by decide +kernel)
set_option maxRecDepth 20000 in
theorem gW_divide_W_twice_56 : GoodIn wW_divide (va_wsS RW 56 yW_twice wW_twice) := goodIn_pp (goodIn_of _ (by decide +kernel)) ggW_divide_W_twice
set_option maxRecDepth 20000 in
theorem ggW_divide_W_restHoldsDivisor : GoodIn wW_divide wW_restHoldsDivisor := goodIn_q _ [40, 1, 24, 42, 43, 44, 45] (by decide +kernel) (by decide +kernel)
set_option maxRecDepth 20000 in
theorem gW_divide_W_restHoldsDivisor_59 : GoodIn wW_divide (wsV RW 59 RW yW_restHoldsDivisor wW_restHoldsDivisor) := goodIn_pp (goodIn_of _ (by decide +kernel)) ggW_divide_W_restHoldsDivisor
set_option maxRecDepth 20000 in
theorem ggW_divide_W_subtractDivisor : GoodIn wW_divide wW_subtractDivisor := goodIn_q _ [41, 1, 24, 39, 42, 43, 44, 45] (by decide +kernel) (by decide +kernel)
set_option maxRecDepth 20000 in
theorem gW_divide_W_subtractDivisor_63 : GoodIn wW_divide (wsV RW 63 RW yW_subtractDivisor wW_subtractDivisor) := goodIn_pp (goodIn_of _ (by decide +kernel)) ggW_divide_W_subtractDivisor
theorem iW_ofBits_W : ∀ w ∈ uW, w ∈ wW_ofBits := by decide +kernel
set_option maxRecDepth 20000 in
theorem ggW_ofBits_W_setDivisor : GoodIn wW_ofBits wW_setDivisor := goodIn_q _ [10, 11, 12, 13, 14, 15, 16, 17, 18, 19, 20, 21, 22, 23, 24, 62, 63, 64, 65] (by decide +kernel) (by decide +kernel)
set_option maxRecDepth 20000 in
theorem gW_ofBits_W_setDivisor_27 : GoodIn wW_ofBits (wsV RW 27 RW yW_setDivisor wW_setDivisor) := goodIn_pp (goodIn_of _ (by decide +kernel)) ggW_ofBits_W_setDivisor
set_option maxRecDepth 20000 in
theorem ggW_ofBits_W_divide : GoodIn wW_ofBits wW_divide := goodIn_q _ [25, 26, 27, 28, 29, 9, 30, 31, 32, 5, 33, 34, 35, 36, 37, 38, 39, 40, 41, 42, 43, 44, 45, 46, 14, 47, 48, 13, 49, 50, 51, 52, 53, 54, 55, 56, 57, 58, 59, 15, 60, 61, 62, 63, 64, 65] (by decide +kernel) (by decide +kernel)
set_option maxRecDepth 20000 in
theorem gW_ofBits_W_divide_31 : GoodIn wW_ofBits (wsV RW 31 RW yW_divide wW_divide) := goodIn_pp (goodIn_of _ (by decide +kernel)) ggW_ofBits_W_divide
theorem iR_multiply_R : ∀ w ∈ uR, w ∈ wR_multiply := by decide +kernel
set_option maxRecDepth 20000 in
theorem ggR_multiply_B_targetHalf : GoodIn wR_multiply wB_targetHalf := goodIn_q _ [6, 7, 8, 3, 9, 10, 11, 12, 13, 14] (by decide +kernel) (by decide +kernel)
set_option maxRecDepth 20000 in
theorem gR_multiply_B_targetHalf_46 : GoodIn wR_multiply (va_wsS RR 46 yB_targetHalf wB_targetHalf) := goodIn_pp (goodIn_of _ (by decide +kernel)) ggR_multiply_B_targetHalf
theorem iR_divide_R : ∀ w ∈ uR, w ∈ wR_divide := by decide +kernel
set_option maxRecDepth 20000 in
theorem ggR_divide_B_join : GoodIn wR_divide wB_join := goodIn_q _ [6] (by decide +kernel) (by decide +kernel)
set_option maxRecDepth 20000 in
theorem gR_divide_B_join_35 : GoodIn wR_divide (va_wsS RR 35 yB_join wB_join) := goodIn_pp (goodIn_of _ (by decide +kernel)) ggR_divide_B_join
set_option maxRecDepth 20000 in
theorem ggB_shorten_B_byteAt : GoodIn wB_shorten wB_byteAt := goodIn_q _ [5, 6] (by decide +kernel) (by decide +kernel)
set_option maxRecDepth 20000 in
theorem gB_shorten_B_byteAt_33 : GoodIn wB_shorten (va_wsS RB 33 yB_byteAt wB_byteAt) := goodIn_pp (goodIn_of _ (by decide +kernel)) ggB_shorten_B_byteAt
theorem iR_next_R : ∀ w ∈ uR, w ∈ wR_next := by decide +kernel
set_option maxRecDepth 20000 in
theorem ggR_next_R_multiply : GoodIn wR_next wR_multiply := goodIn_q _ [25, 26, 27, 20, 17, 28, 29, 30, 31, 32, 33, 34, 35, 36, 37, 47] (by decide +kernel) (by decide +kernel)
set_option maxRecDepth 20000 in
theorem gR_next_R_multiply_28 : GoodIn wR_next (wsV RR 28 RR yR_multiply wR_multiply) := goodIn_pp (goodIn_of _ (by decide +kernel)) ggR_next_R_multiply
set_option maxRecDepth 20000 in
theorem ggR_next_R_divide : GoodIn wR_next wR_divide := goodIn_q _ [38, 17, 18, 19, 20, 39, 40, 47] (by decide +kernel) (by decide +kernel)
set_option maxRecDepth 20000 in
theorem gR_next_R_divide_32 : GoodIn wR_next (wsV RR 32 RR yR_divide wR_divide) := goodIn_pp (goodIn_of _ (by decide +kernel)) ggR_next_R_divide
set_option maxRecDepth 20000 in
theorem ggR_next_B_join : GoodIn wR_next wB_join := goodIn_q _ [40] (by decide +kernel) (by decide +kernel)
set_option maxRecDepth 20000 in
theorem gR_next_B_join_35 : GoodIn wR_next (va_wsS RR 35 yB_join wB_join) := goodIn_pp (goodIn_of _ (by decide +kernel)) ggR_next_B_join
set_option maxRecDepth 20000 in
theorem ggR_next_B_shorten : GoodIn wR_next wB_shorten := goodIn_q _ [41, 42, 43, 20, 44, 45, 46] (by decide +kernel) (by decide +kernel)
set_option maxRecDepth 20000 in
theorem gR_next_B_shorten_42 : GoodIn wR_next (va_wsS RR 42 yB_shorten wB_shorten) := goodIn_pp (goodIn_of _ (by decide +kernel)) ggR_next_B_shorten
set_option maxRecDepth 20000 in
theorem ggB_faultOf_B_shiftOf : GoodIn wB_faultOf wB_shiftOf := goodIn_q _ [12] (by decide +kernel) (by decide +kernel)
set_option maxRecDepth 20000 in
theorem gB_faultOf_B_shiftOf_15 : GoodIn wB_faultOf (va_wsS RB 15 yB_shiftOf wB_shiftOf) := goodIn_pp (goodIn_of _ (by decide +kernel)) ggB_faultOf_B_shiftOf
set_option maxRecDepth 20000 in
theorem ggB_faultOf_B_lengthOf : GoodIn wB_faultOf wB_lengthOf := goodIn_q _ [13, 14, 15, 16, 17, 18, 19, 20, 21, 22] (by decide +kernel) (by decide +kernel)
set_option maxRecDepth 20000 in
theorem gB_faultOf_B_lengthOf_19 : GoodIn wB_faultOf (va_wsS RB 19 yB_lengthOf wB_lengthOf) := goodIn_pp (goodIn_of _ (by decide +kernel)) ggB_faultOf_B_lengthOf
set_option maxRecDepth 20000 in
theorem ggB_faultOf_B_targetPart : GoodIn wB_faultOf wB_targetPart := goodIn_q _ [23, 2, 4, 5, 6, 12] (by decide +kernel) (by decide +kernel)
set_option maxRecDepth 20000 in
theorem gB_faultOf_B_targetPart_22 : GoodIn wB_faultOf (va_wsS RB 22 yB_targetPart wB_targetPart) := goodIn_pp (goodIn_of _ (by decide +kernel)) ggB_faultOf_B_targetPart
theorem dR_init_0 : decode cR_init 0 = .ok (.aload_n 0, 1) := by decide +kernel
theorem dR_init_1 : decode cR_init 1 = .ok (.invokespecial 1, 3) := by decide +kernel
theorem dR_init_4 : decode cR_init 4 = .ok (.aload_n 0, 1) := by decide +kernel
theorem dR_init_5 : decode cR_init 5 = .ok (.bipush 9, 2) := by decide +kernel
theorem dR_init_7 : decode cR_init 7 = .ok (.newarray .long, 2) := by decide +kernel
theorem dR_init_9 : decode cR_init 9 = .ok (.putfield 9, 3) := by decide +kernel
theorem dR_init_12 : decode cR_init 12 = .ok (.return_, 1) := by decide +kernel
theorem dW_init_0 : decode cW_init 0 = .ok (.aload_n 0, 1) := by decide +kernel
theorem dW_init_1 : decode cW_init 1 = .ok (.invokespecial 1, 3) := by decide +kernel
theorem dW_init_4 : decode cW_init 4 = .ok (.aload_n 0, 1) := by decide +kernel
theorem dW_init_5 : decode cW_init 5 = .ok (.bipush 8, 2) := by decide +kernel
theorem dW_init_7 : decode cW_init 7 = .ok (.newarray .long, 2) := by decide +kernel
theorem dW_init_9 : decode cW_init 9 = .ok (.putfield 9, 3) := by decide +kernel
theorem dW_init_12 : decode cW_init 12 = .ok (.aload_n 0, 1) := by decide +kernel
theorem dW_init_13 : decode cW_init 13 = .ok (.bipush 8, 2) := by decide +kernel
theorem dW_init_15 : decode cW_init 15 = .ok (.newarray .long, 2) := by decide +kernel
theorem dW_init_17 : decode cW_init 17 = .ok (.putfield 15, 3) := by decide +kernel
theorem dW_init_20 : decode cW_init 20 = .ok (.aload_n 0, 1) := by decide +kernel
theorem dW_init_21 : decode cW_init 21 = .ok (.bipush 8, 2) := by decide +kernel
theorem dW_init_23 : decode cW_init 23 = .ok (.newarray .long, 2) := by decide +kernel
theorem dW_init_25 : decode cW_init 25 = .ok (.putfield 18, 3) := by decide +kernel
theorem dW_init_28 : decode cW_init 28 = .ok (.aload_n 0, 1) := by decide +kernel
theorem dW_init_29 : decode cW_init 29 = .ok (.ldc2_w 21, 3) := by decide +kernel
theorem dW_init_32 : decode cW_init 32 = .ok (.putfield 23, 3) := by decide +kernel
theorem dW_init_35 : decode cW_init 35 = .ok (.return_, 1) := by decide +kernel
theorem dB_shiftOf_0 : decode cB_shiftOf 0 = .ok (.bipush 8, 2) := by decide +kernel
theorem dB_shiftOf_2 : decode cB_shiftOf 2 = .ok (.lload_n 0, 1) := by decide +kernel
theorem dB_shiftOf_3 : decode cB_shiftOf 3 = .ok (.bipush 24, 2) := by decide +kernel
theorem dB_shiftOf_5 : decode cB_shiftOf 5 = .ok (.lushr, 1) := by decide +kernel
theorem dB_shiftOf_6 : decode cB_shiftOf 6 = .ok (.l2i, 1) := by decide +kernel
theorem dB_shiftOf_7 : decode cB_shiftOf 7 = .ok (.iconst 3, 1) := by decide +kernel
theorem dB_shiftOf_8 : decode cB_shiftOf 8 = .ok (.isub, 1) := by decide +kernel
theorem dB_shiftOf_9 : decode cB_shiftOf 9 = .ok (.imul, 1) := by decide +kernel
theorem dB_shiftOf_10 : decode cB_shiftOf 10 = .ok (.ireturn, 1) := by decide +kernel
theorem dB_targetPart_0 : decode cB_targetPart 0 = .ok (.lload_n 0, 1) := by decide +kernel
theorem dB_targetPart_1 : decode cB_targetPart 1 = .ok (.ldc2_w 11, 3) := by decide +kernel
theorem dB_targetPart_4 : decode cB_targetPart 4 = .ok (.land, 1) := by decide +kernel
theorem dB_targetPart_5 : decode cB_targetPart 5 = .ok (.lstore_n 3, 1) := by decide +kernel
theorem dB_targetPart_6 : decode cB_targetPart 6 = .ok (.lload_n 0, 1) := by decide +kernel
theorem dB_targetPart_7 : decode cB_targetPart 7 = .ok (.invokestatic 15, 3) := by decide +kernel
theorem dB_targetPart_10 : decode cB_targetPart 10 = .ok (.bipush 64, 2) := by decide +kernel
theorem dB_targetPart_12 : decode cB_targetPart 12 = .ok (.iconst 3, 1) := by decide +kernel
theorem dB_targetPart_13 : decode cB_targetPart 13 = .ok (.iload_n 2, 1) := by decide +kernel
theorem dB_targetPart_14 : decode cB_targetPart 14 = .ok (.isub, 1) := by decide +kernel
theorem dB_targetPart_15 : decode cB_targetPart 15 = .ok (.imul, 1) := by decide +kernel
theorem dB_targetPart_16 : decode cB_targetPart 16 = .ok (.isub, 1) := by decide +kernel
theorem dB_targetPart_17 : decode cB_targetPart 17 = .ok (.istore 5, 2) := by decide +kernel
theorem dB_targetPart_19 : decode cB_targetPart 19 = .ok (.iload 5, 2) := by decide +kernel
theorem dB_targetPart_21 : decode cB_targetPart 21 = .ok (.bipush 64, 2) := by decide +kernel
theorem dB_targetPart_23 : decode cB_targetPart 23 = .ok (.if_icmp .ge 10, 3) := by decide +kernel
theorem dB_targetPart_26 : decode cB_targetPart 26 = .ok (.iload 5, 2) := by decide +kernel
theorem dB_targetPart_28 : decode cB_targetPart 28 = .ok (.bipush (-64), 2) := by decide +kernel
theorem dB_targetPart_30 : decode cB_targetPart 30 = .ok (.if_icmp .gt 5, 3) := by decide +kernel
theorem dB_targetPart_33 : decode cB_targetPart 33 = .ok (.lconst 0, 1) := by decide +kernel
theorem dB_targetPart_34 : decode cB_targetPart 34 = .ok (.lreturn, 1) := by decide +kernel
theorem dB_targetPart_35 : decode cB_targetPart 35 = .ok (.iload 5, 2) := by decide +kernel
theorem dB_targetPart_37 : decode cB_targetPart 37 = .ok (.ifCond .lt 10, 3) := by decide +kernel
theorem dB_targetPart_40 : decode cB_targetPart 40 = .ok (.lload_n 3, 1) := by decide +kernel
theorem dB_targetPart_41 : decode cB_targetPart 41 = .ok (.iload 5, 2) := by decide +kernel
theorem dB_targetPart_43 : decode cB_targetPart 43 = .ok (.lshl, 1) := by decide +kernel
theorem dB_targetPart_44 : decode cB_targetPart 44 = .ok (.goto 8, 3) := by decide +kernel
theorem dB_targetPart_47 : decode cB_targetPart 47 = .ok (.lload_n 3, 1) := by decide +kernel
theorem dB_targetPart_48 : decode cB_targetPart 48 = .ok (.iload 5, 2) := by decide +kernel
theorem dB_targetPart_50 : decode cB_targetPart 50 = .ok (.ineg, 1) := by decide +kernel
theorem dB_targetPart_51 : decode cB_targetPart 51 = .ok (.lushr, 1) := by decide +kernel
theorem dB_targetPart_52 : decode cB_targetPart 52 = .ok (.lreturn, 1) := by decide +kernel
theorem dB_targetHalf_0 : decode cB_targetHalf 0 = .ok (.lload_n 0, 1) := by decide +kernel
theorem dB_targetHalf_1 : decode cB_targetHalf 1 = .ok (.iload_n 2, 1) := by decide +kernel
theorem dB_targetHalf_2 : decode cB_targetHalf 2 = .ok (.iconst 2, 1) := by decide +kernel
theorem dB_targetHalf_3 : decode cB_targetHalf 3 = .ok (.idiv, 1) := by decide +kernel
theorem dB_targetHalf_4 : decode cB_targetHalf 4 = .ok (.invokestatic 22, 3) := by decide +kernel
theorem dB_targetHalf_7 : decode cB_targetHalf 7 = .ok (.lstore_n 3, 1) := by decide +kernel
theorem dB_targetHalf_8 : decode cB_targetHalf 8 = .ok (.iload_n 2, 1) := by decide +kernel
theorem dB_targetHalf_9 : decode cB_targetHalf 9 = .ok (.iconst 2, 1) := by decide +kernel
theorem dB_targetHalf_10 : decode cB_targetHalf 10 = .ok (.irem, 1) := by decide +kernel
theorem dB_targetHalf_11 : decode cB_targetHalf 11 = .ok (.ifCond .ne 10, 3) := by decide +kernel
theorem dB_targetHalf_14 : decode cB_targetHalf 14 = .ok (.lload_n 3, 1) := by decide +kernel
theorem dB_targetHalf_15 : decode cB_targetHalf 15 = .ok (.bipush 32, 2) := by decide +kernel
theorem dB_targetHalf_17 : decode cB_targetHalf 17 = .ok (.lushr, 1) := by decide +kernel
theorem dB_targetHalf_18 : decode cB_targetHalf 18 = .ok (.goto 8, 3) := by decide +kernel
theorem dB_targetHalf_21 : decode cB_targetHalf 21 = .ok (.lload_n 3, 1) := by decide +kernel
theorem dB_targetHalf_22 : decode cB_targetHalf 22 = .ok (.ldc2_w 9, 3) := by decide +kernel
theorem dB_targetHalf_25 : decode cB_targetHalf 25 = .ok (.land, 1) := by decide +kernel
theorem dB_targetHalf_26 : decode cB_targetHalf 26 = .ok (.lreturn, 1) := by decide +kernel
theorem dW_setDivisor_0 : decode cW_setDivisor 0 = .ok (.lconst 1, 1) := by decide +kernel
theorem dW_setDivisor_1 : decode cW_setDivisor 1 = .ok (.lstore_n 3, 1) := by decide +kernel
theorem dW_setDivisor_2 : decode cW_setDivisor 2 = .ok (.bipush 7, 2) := by decide +kernel
theorem dW_setDivisor_4 : decode cW_setDivisor 4 = .ok (.istore 5, 2) := by decide +kernel
theorem dW_setDivisor_6 : decode cW_setDivisor 6 = .ok (.iload 5, 2) := by decide +kernel
theorem dW_setDivisor_8 : decode cW_setDivisor 8 = .ok (.ifCond .lt 38, 3) := by decide +kernel
theorem dW_setDivisor_11 : decode cW_setDivisor 11 = .ok (.lload_n 1, 1) := by decide +kernel
theorem dW_setDivisor_12 : decode cW_setDivisor 12 = .ok (.iload 5, 2) := by decide +kernel
theorem dW_setDivisor_14 : decode cW_setDivisor 14 = .ok (.invokestatic 34, 3) := by decide +kernel
theorem dW_setDivisor_17 : decode cW_setDivisor 17 = .ok (.lload_n 3, 1) := by decide +kernel
theorem dW_setDivisor_18 : decode cW_setDivisor 18 = .ok (.ladd, 1) := by decide +kernel
theorem dW_setDivisor_19 : decode cW_setDivisor 19 = .ok (.lstore 6, 2) := by decide +kernel
theorem dW_setDivisor_21 : decode cW_setDivisor 21 = .ok (.aload_n 0, 1) := by decide +kernel
theorem dW_setDivisor_22 : decode cW_setDivisor 22 = .ok (.getfield 9, 3) := by decide +kernel
theorem dW_setDivisor_25 : decode cW_setDivisor 25 = .ok (.iload 5, 2) := by decide +kernel
theorem dW_setDivisor_27 : decode cW_setDivisor 27 = .ok (.lload 6, 2) := by decide +kernel
theorem dW_setDivisor_29 : decode cW_setDivisor 29 = .ok (.ldc2_w 38, 3) := by decide +kernel
theorem dW_setDivisor_32 : decode cW_setDivisor 32 = .ok (.land, 1) := by decide +kernel
theorem dW_setDivisor_33 : decode cW_setDivisor 33 = .ok (.lastore, 1) := by decide +kernel
theorem dW_setDivisor_34 : decode cW_setDivisor 34 = .ok (.lload 6, 2) := by decide +kernel
theorem dW_setDivisor_36 : decode cW_setDivisor 36 = .ok (.bipush 32, 2) := by decide +kernel
theorem dW_setDivisor_38 : decode cW_setDivisor 38 = .ok (.lushr, 1) := by decide +kernel
theorem dW_setDivisor_39 : decode cW_setDivisor 39 = .ok (.lstore_n 3, 1) := by decide +kernel
theorem dW_setDivisor_40 : decode cW_setDivisor 40 = .ok (.iinc 5 (-1), 3) := by decide +kernel
theorem dW_setDivisor_43 : decode cW_setDivisor 43 = .ok (.goto (-37), 3) := by decide +kernel
theorem dW_setDivisor_46 : decode cW_setDivisor 46 = .ok (.return_, 1) := by decide +kernel
theorem dJA_fill_0 : decode cJA_fill 0 = .ok (.iconst 0, 1) := by decide +kernel
theorem dJA_fill_1 : decode cJA_fill 1 = .ok (.istore_n 3, 1) := by decide +kernel
theorem dJA_fill_2 : decode cJA_fill 2 = .ok (.aload_n 0, 1) := by decide +kernel
theorem dJA_fill_3 : decode cJA_fill 3 = .ok (.arraylength, 1) := by decide +kernel
theorem dJA_fill_4 : decode cJA_fill 4 = .ok (.istore 4, 2) := by decide +kernel
theorem dJA_fill_6 : decode cJA_fill 6 = .ok (.iload_n 3, 1) := by decide +kernel
theorem dJA_fill_7 : decode cJA_fill 7 = .ok (.iload 4, 2) := by decide +kernel
theorem dJA_fill_9 : decode cJA_fill 9 = .ok (.if_icmp .ge 13, 3) := by decide +kernel
theorem dJA_fill_12 : decode cJA_fill 12 = .ok (.aload_n 0, 1) := by decide +kernel
theorem dJA_fill_13 : decode cJA_fill 13 = .ok (.iload_n 3, 1) := by decide +kernel
theorem dJA_fill_14 : decode cJA_fill 14 = .ok (.lload_n 1, 1) := by decide +kernel
theorem dJA_fill_15 : decode cJA_fill 15 = .ok (.lastore, 1) := by decide +kernel
theorem dJA_fill_16 : decode cJA_fill 16 = .ok (.iinc 3 1, 3) := by decide +kernel
theorem dJA_fill_19 : decode cJA_fill 19 = .ok (.goto (-13), 3) := by decide +kernel
theorem dJA_fill_22 : decode cJA_fill 22 = .ok (.return_, 1) := by decide +kernel
theorem dJI_numberOfLeadingZeros_0 : decode cJI_numberOfLeadingZeros 0 = .ok (.iload_n 0, 1) := by decide +kernel
theorem dJI_numberOfLeadingZeros_1 : decode cJI_numberOfLeadingZeros 1 = .ok (.ifCond .gt 14, 3) := by decide +kernel
theorem dJI_numberOfLeadingZeros_4 : decode cJI_numberOfLeadingZeros 4 = .ok (.iload_n 0, 1) := by decide +kernel
theorem dJI_numberOfLeadingZeros_5 : decode cJI_numberOfLeadingZeros 5 = .ok (.ifCond .ne 8, 3) := by decide +kernel
theorem dJI_numberOfLeadingZeros_8 : decode cJI_numberOfLeadingZeros 8 = .ok (.bipush 32, 2) := by decide +kernel
theorem dJI_numberOfLeadingZeros_10 : decode cJI_numberOfLeadingZeros 10 = .ok (.goto 4, 3) := by decide +kernel
theorem dJI_numberOfLeadingZeros_13 : decode cJI_numberOfLeadingZeros 13 = .ok (.iconst 0, 1) := by decide +kernel
theorem dJI_numberOfLeadingZeros_14 : decode cJI_numberOfLeadingZeros 14 = .ok (.ireturn, 1) := by decide +kernel
theorem dJI_numberOfLeadingZeros_15 : decode cJI_numberOfLeadingZeros 15 = .ok (.bipush 31, 2) := by decide +kernel
theorem dJI_numberOfLeadingZeros_17 : decode cJI_numberOfLeadingZeros 17 = .ok (.istore_n 1, 1) := by decide +kernel
theorem dJI_numberOfLeadingZeros_18 : decode cJI_numberOfLeadingZeros 18 = .ok (.iload_n 0, 1) := by decide +kernel
theorem dJI_numberOfLeadingZeros_19 : decode cJI_numberOfLeadingZeros 19 = .ok (.ldc_w 264, 3) := by decide +kernel
theorem dJI_numberOfLeadingZeros_22 : decode cJI_numberOfLeadingZeros 22 = .ok (.if_icmp .lt 11, 3) := by decide +kernel
theorem dJI_numberOfLeadingZeros_25 : decode cJI_numberOfLeadingZeros 25 = .ok (.iinc 1 (-16), 3) := by decide +kernel
theorem dJI_numberOfLeadingZeros_28 : decode cJI_numberOfLeadingZeros 28 = .ok (.iload_n 0, 1) := by decide +kernel
theorem dJI_numberOfLeadingZeros_29 : decode cJI_numberOfLeadingZeros 29 = .ok (.bipush 16, 2) := by decide +kernel
theorem dJI_numberOfLeadingZeros_31 : decode cJI_numberOfLeadingZeros 31 = .ok (.iushr, 1) := by decide +kernel
theorem dJI_numberOfLeadingZeros_32 : decode cJI_numberOfLeadingZeros 32 = .ok (.istore_n 0, 1) := by decide +kernel
theorem dJI_numberOfLeadingZeros_33 : decode cJI_numberOfLeadingZeros 33 = .ok (.iload_n 0, 1) := by decide +kernel
theorem dJI_numberOfLeadingZeros_34 : decode cJI_numberOfLeadingZeros 34 = .ok (.sipush 256, 3) := by decide +kernel
theorem dJI_numberOfLeadingZeros_37 : decode cJI_numberOfLeadingZeros 37 = .ok (.if_icmp .lt 11, 3) := by decide +kernel
theorem dJI_numberOfLeadingZeros_40 : decode cJI_numberOfLeadingZeros 40 = .ok (.iinc 1 (-8), 3) := by decide +kernel
theorem dJI_numberOfLeadingZeros_43 : decode cJI_numberOfLeadingZeros 43 = .ok (.iload_n 0, 1) := by decide +kernel
theorem dJI_numberOfLeadingZeros_44 : decode cJI_numberOfLeadingZeros 44 = .ok (.bipush 8, 2) := by decide +kernel
theorem dJI_numberOfLeadingZeros_46 : decode cJI_numberOfLeadingZeros 46 = .ok (.iushr, 1) := by decide +kernel
theorem dJI_numberOfLeadingZeros_47 : decode cJI_numberOfLeadingZeros 47 = .ok (.istore_n 0, 1) := by decide +kernel
theorem dJI_numberOfLeadingZeros_48 : decode cJI_numberOfLeadingZeros 48 = .ok (.iload_n 0, 1) := by decide +kernel
theorem dJI_numberOfLeadingZeros_49 : decode cJI_numberOfLeadingZeros 49 = .ok (.bipush 16, 2) := by decide +kernel
theorem dJI_numberOfLeadingZeros_51 : decode cJI_numberOfLeadingZeros 51 = .ok (.if_icmp .lt 10, 3) := by decide +kernel
theorem dJI_numberOfLeadingZeros_54 : decode cJI_numberOfLeadingZeros 54 = .ok (.iinc 1 (-4), 3) := by decide +kernel
theorem dJI_numberOfLeadingZeros_57 : decode cJI_numberOfLeadingZeros 57 = .ok (.iload_n 0, 1) := by decide +kernel
theorem dJI_numberOfLeadingZeros_58 : decode cJI_numberOfLeadingZeros 58 = .ok (.iconst 4, 1) := by decide +kernel
theorem dJI_numberOfLeadingZeros_59 : decode cJI_numberOfLeadingZeros 59 = .ok (.iushr, 1) := by decide +kernel
theorem dJI_numberOfLeadingZeros_60 : decode cJI_numberOfLeadingZeros 60 = .ok (.istore_n 0, 1) := by decide +kernel
theorem dJI_numberOfLeadingZeros_61 : decode cJI_numberOfLeadingZeros 61 = .ok (.iload_n 0, 1) := by decide +kernel
theorem dJI_numberOfLeadingZeros_62 : decode cJI_numberOfLeadingZeros 62 = .ok (.iconst 4, 1) := by decide +kernel
theorem dJI_numberOfLeadingZeros_63 : decode cJI_numberOfLeadingZeros 63 = .ok (.if_icmp .lt 10, 3) := by decide +kernel
theorem dJI_numberOfLeadingZeros_66 : decode cJI_numberOfLeadingZeros 66 = .ok (.iinc 1 (-2), 3) := by decide +kernel
theorem dJI_numberOfLeadingZeros_69 : decode cJI_numberOfLeadingZeros 69 = .ok (.iload_n 0, 1) := by decide +kernel
theorem dJI_numberOfLeadingZeros_70 : decode cJI_numberOfLeadingZeros 70 = .ok (.iconst 2, 1) := by decide +kernel
theorem dJI_numberOfLeadingZeros_71 : decode cJI_numberOfLeadingZeros 71 = .ok (.iushr, 1) := by decide +kernel
theorem dJI_numberOfLeadingZeros_72 : decode cJI_numberOfLeadingZeros 72 = .ok (.istore_n 0, 1) := by decide +kernel
theorem dJI_numberOfLeadingZeros_73 : decode cJI_numberOfLeadingZeros 73 = .ok (.iload_n 1, 1) := by decide +kernel
theorem dJI_numberOfLeadingZeros_74 : decode cJI_numberOfLeadingZeros 74 = .ok (.iload_n 0, 1) := by decide +kernel
theorem dJI_numberOfLeadingZeros_75 : decode cJI_numberOfLeadingZeros 75 = .ok (.iconst 1, 1) := by decide +kernel
theorem dJI_numberOfLeadingZeros_76 : decode cJI_numberOfLeadingZeros 76 = .ok (.iushr, 1) := by decide +kernel
theorem dJI_numberOfLeadingZeros_77 : decode cJI_numberOfLeadingZeros 77 = .ok (.isub, 1) := by decide +kernel
theorem dJI_numberOfLeadingZeros_78 : decode cJI_numberOfLeadingZeros 78 = .ok (.ireturn, 1) := by decide +kernel
theorem dJL_numberOfLeadingZeros_0 : decode cJL_numberOfLeadingZeros 0 = .ok (.lload_n 0, 1) := by decide +kernel
theorem dJL_numberOfLeadingZeros_1 : decode cJL_numberOfLeadingZeros 1 = .ok (.bipush 32, 2) := by decide +kernel
theorem dJL_numberOfLeadingZeros_3 : decode cJL_numberOfLeadingZeros 3 = .ok (.lushr, 1) := by decide +kernel
theorem dJL_numberOfLeadingZeros_4 : decode cJL_numberOfLeadingZeros 4 = .ok (.l2i, 1) := by decide +kernel
theorem dJL_numberOfLeadingZeros_5 : decode cJL_numberOfLeadingZeros 5 = .ok (.istore_n 2, 1) := by decide +kernel
theorem dJL_numberOfLeadingZeros_6 : decode cJL_numberOfLeadingZeros 6 = .ok (.iload_n 2, 1) := by decide +kernel
theorem dJL_numberOfLeadingZeros_7 : decode cJL_numberOfLeadingZeros 7 = .ok (.ifCond .ne 14, 3) := by decide +kernel
theorem dJL_numberOfLeadingZeros_10 : decode cJL_numberOfLeadingZeros 10 = .ok (.bipush 32, 2) := by decide +kernel
theorem dJL_numberOfLeadingZeros_12 : decode cJL_numberOfLeadingZeros 12 = .ok (.lload_n 0, 1) := by decide +kernel
theorem dJL_numberOfLeadingZeros_13 : decode cJL_numberOfLeadingZeros 13 = .ok (.l2i, 1) := by decide +kernel
theorem dJL_numberOfLeadingZeros_14 : decode cJL_numberOfLeadingZeros 14 = .ok (.invokestatic 308, 3) := by decide +kernel
theorem dJL_numberOfLeadingZeros_17 : decode cJL_numberOfLeadingZeros 17 = .ok (.iadd, 1) := by decide +kernel
theorem dJL_numberOfLeadingZeros_18 : decode cJL_numberOfLeadingZeros 18 = .ok (.goto 7, 3) := by decide +kernel
theorem dJL_numberOfLeadingZeros_21 : decode cJL_numberOfLeadingZeros 21 = .ok (.iload_n 2, 1) := by decide +kernel
theorem dJL_numberOfLeadingZeros_22 : decode cJL_numberOfLeadingZeros 22 = .ok (.invokestatic 308, 3) := by decide +kernel
theorem dJL_numberOfLeadingZeros_25 : decode cJL_numberOfLeadingZeros 25 = .ok (.ireturn, 1) := by decide +kernel
theorem dB_lengthOf_0 : decode cB_lengthOf 0 = .ok (.bipush 64, 2) := by decide +kernel
theorem dB_lengthOf_2 : decode cB_lengthOf 2 = .ok (.lload_n 0, 1) := by decide +kernel
theorem dB_lengthOf_3 : decode cB_lengthOf 3 = .ok (.invokestatic 28, 3) := by decide +kernel
theorem dB_lengthOf_6 : decode cB_lengthOf 6 = .ok (.isub, 1) := by decide +kernel
theorem dB_lengthOf_7 : decode cB_lengthOf 7 = .ok (.ireturn, 1) := by decide +kernel
theorem dW_divisorLength_0 : decode cW_divisorLength 0 = .ok (.iconst 0, 1) := by decide +kernel
theorem dW_divisorLength_1 : decode cW_divisorLength 1 = .ok (.istore_n 1, 1) := by decide +kernel
theorem dW_divisorLength_2 : decode cW_divisorLength 2 = .ok (.iload_n 1, 1) := by decide +kernel
theorem dW_divisorLength_3 : decode cW_divisorLength 3 = .ok (.bipush 8, 2) := by decide +kernel
theorem dW_divisorLength_5 : decode cW_divisorLength 5 = .ok (.if_icmp .ge 38, 3) := by decide +kernel
theorem dW_divisorLength_8 : decode cW_divisorLength 8 = .ok (.aload_n 0, 1) := by decide +kernel
theorem dW_divisorLength_9 : decode cW_divisorLength 9 = .ok (.getfield 9, 3) := by decide +kernel
theorem dW_divisorLength_12 : decode cW_divisorLength 12 = .ok (.iload_n 1, 1) := by decide +kernel
theorem dW_divisorLength_13 : decode cW_divisorLength 13 = .ok (.laload, 1) := by decide +kernel
theorem dW_divisorLength_14 : decode cW_divisorLength 14 = .ok (.lconst 0, 1) := by decide +kernel
theorem dW_divisorLength_15 : decode cW_divisorLength 15 = .ok (.lcmp, 1) := by decide +kernel
theorem dW_divisorLength_16 : decode cW_divisorLength 16 = .ok (.ifCond .eq 21, 3) := by decide +kernel
theorem dW_divisorLength_19 : decode cW_divisorLength 19 = .ok (.bipush 32, 2) := by decide +kernel
theorem dW_divisorLength_21 : decode cW_divisorLength 21 = .ok (.bipush 7, 2) := by decide +kernel
theorem dW_divisorLength_23 : decode cW_divisorLength 23 = .ok (.iload_n 1, 1) := by decide +kernel
theorem dW_divisorLength_24 : decode cW_divisorLength 24 = .ok (.isub, 1) := by decide +kernel
theorem dW_divisorLength_25 : decode cW_divisorLength 25 = .ok (.imul, 1) := by decide +kernel
theorem dW_divisorLength_26 : decode cW_divisorLength 26 = .ok (.aload_n 0, 1) := by decide +kernel
theorem dW_divisorLength_27 : decode cW_divisorLength 27 = .ok (.getfield 9, 3) := by decide +kernel
theorem dW_divisorLength_30 : decode cW_divisorLength 30 = .ok (.iload_n 1, 1) := by decide +kernel
theorem dW_divisorLength_31 : decode cW_divisorLength 31 = .ok (.laload, 1) := by decide +kernel
theorem dW_divisorLength_32 : decode cW_divisorLength 32 = .ok (.invokestatic 66, 3) := by decide +kernel
theorem dW_divisorLength_35 : decode cW_divisorLength 35 = .ok (.iadd, 1) := by decide +kernel
theorem dW_divisorLength_36 : decode cW_divisorLength 36 = .ok (.ireturn, 1) := by decide +kernel
theorem dW_divisorLength_37 : decode cW_divisorLength 37 = .ok (.iinc 1 1, 3) := by decide +kernel
theorem dW_divisorLength_40 : decode cW_divisorLength 40 = .ok (.goto (-38), 3) := by decide +kernel
theorem dW_divisorLength_43 : decode cW_divisorLength 43 = .ok (.iconst 0, 1) := by decide +kernel
theorem dW_divisorLength_44 : decode cW_divisorLength 44 = .ok (.ireturn, 1) := by decide +kernel
theorem dW_twice_0 : decode cW_twice 0 = .ok (.lload_n 1, 1) := by decide +kernel
theorem dW_twice_1 : decode cW_twice 1 = .ok (.lstore_n 3, 1) := by decide +kernel
theorem dW_twice_2 : decode cW_twice 2 = .ok (.bipush 7, 2) := by decide +kernel
theorem dW_twice_4 : decode cW_twice 4 = .ok (.istore 5, 2) := by decide +kernel
theorem dW_twice_6 : decode cW_twice 6 = .ok (.iload 5, 2) := by decide +kernel
theorem dW_twice_8 : decode cW_twice 8 = .ok (.ifCond .lt 35, 3) := by decide +kernel
theorem dW_twice_11 : decode cW_twice 11 = .ok (.aload_n 0, 1) := by decide +kernel
theorem dW_twice_12 : decode cW_twice 12 = .ok (.iload 5, 2) := by decide +kernel
theorem dW_twice_14 : decode cW_twice 14 = .ok (.laload, 1) := by decide +kernel
theorem dW_twice_15 : decode cW_twice 15 = .ok (.iconst 1, 1) := by decide +kernel
theorem dW_twice_16 : decode cW_twice 16 = .ok (.lshl, 1) := by decide +kernel
theorem dW_twice_17 : decode cW_twice 17 = .ok (.lload_n 3, 1) := by decide +kernel
theorem dW_twice_18 : decode cW_twice 18 = .ok (.lor, 1) := by decide +kernel
theorem dW_twice_19 : decode cW_twice 19 = .ok (.lstore 6, 2) := by decide +kernel
theorem dW_twice_21 : decode cW_twice 21 = .ok (.aload_n 0, 1) := by decide +kernel
theorem dW_twice_22 : decode cW_twice 22 = .ok (.iload 5, 2) := by decide +kernel
theorem dW_twice_24 : decode cW_twice 24 = .ok (.lload 6, 2) := by decide +kernel
theorem dW_twice_26 : decode cW_twice 26 = .ok (.ldc2_w 38, 3) := by decide +kernel
theorem dW_twice_29 : decode cW_twice 29 = .ok (.land, 1) := by decide +kernel
theorem dW_twice_30 : decode cW_twice 30 = .ok (.lastore, 1) := by decide +kernel
theorem dW_twice_31 : decode cW_twice 31 = .ok (.lload 6, 2) := by decide +kernel
theorem dW_twice_33 : decode cW_twice 33 = .ok (.bipush 32, 2) := by decide +kernel
theorem dW_twice_35 : decode cW_twice 35 = .ok (.lushr, 1) := by decide +kernel
theorem dW_twice_36 : decode cW_twice 36 = .ok (.lstore_n 3, 1) := by decide +kernel
theorem dW_twice_37 : decode cW_twice 37 = .ok (.iinc 5 (-1), 3) := by decide +kernel
theorem dW_twice_40 : decode cW_twice 40 = .ok (.goto (-34), 3) := by decide +kernel
theorem dW_twice_43 : decode cW_twice 43 = .ok (.return_, 1) := by decide +kernel
theorem dW_restHoldsDivisor_0 : decode cW_restHoldsDivisor 0 = .ok (.iconst 0, 1) := by decide +kernel
theorem dW_restHoldsDivisor_1 : decode cW_restHoldsDivisor 1 = .ok (.istore_n 1, 1) := by decide +kernel
theorem dW_restHoldsDivisor_2 : decode cW_restHoldsDivisor 2 = .ok (.iload_n 1, 1) := by decide +kernel
theorem dW_restHoldsDivisor_3 : decode cW_restHoldsDivisor 3 = .ok (.bipush 8, 2) := by decide +kernel
theorem dW_restHoldsDivisor_5 : decode cW_restHoldsDivisor 5 = .ok (.if_icmp .ge 47, 3) := by decide +kernel
theorem dW_restHoldsDivisor_8 : decode cW_restHoldsDivisor 8 = .ok (.aload_n 0, 1) := by decide +kernel
theorem dW_restHoldsDivisor_9 : decode cW_restHoldsDivisor 9 = .ok (.getfield 15, 3) := by decide +kernel
theorem dW_restHoldsDivisor_12 : decode cW_restHoldsDivisor 12 = .ok (.iload_n 1, 1) := by decide +kernel
theorem dW_restHoldsDivisor_13 : decode cW_restHoldsDivisor 13 = .ok (.laload, 1) := by decide +kernel
theorem dW_restHoldsDivisor_14 : decode cW_restHoldsDivisor 14 = .ok (.aload_n 0, 1) := by decide +kernel
theorem dW_restHoldsDivisor_15 : decode cW_restHoldsDivisor 15 = .ok (.getfield 9, 3) := by decide +kernel
theorem dW_restHoldsDivisor_18 : decode cW_restHoldsDivisor 18 = .ok (.iload_n 1, 1) := by decide +kernel
theorem dW_restHoldsDivisor_19 : decode cW_restHoldsDivisor 19 = .ok (.laload, 1) := by decide +kernel
theorem dW_restHoldsDivisor_20 : decode cW_restHoldsDivisor 20 = .ok (.lcmp, 1) := by decide +kernel
theorem dW_restHoldsDivisor_21 : decode cW_restHoldsDivisor 21 = .ok (.ifCond .eq 25, 3) := by decide +kernel
theorem dW_restHoldsDivisor_24 : decode cW_restHoldsDivisor 24 = .ok (.aload_n 0, 1) := by decide +kernel
theorem dW_restHoldsDivisor_25 : decode cW_restHoldsDivisor 25 = .ok (.getfield 15, 3) := by decide +kernel
theorem dW_restHoldsDivisor_28 : decode cW_restHoldsDivisor 28 = .ok (.iload_n 1, 1) := by decide +kernel
theorem dW_restHoldsDivisor_29 : decode cW_restHoldsDivisor 29 = .ok (.laload, 1) := by decide +kernel
theorem dW_restHoldsDivisor_30 : decode cW_restHoldsDivisor 30 = .ok (.aload_n 0, 1) := by decide +kernel
theorem dW_restHoldsDivisor_31 : decode cW_restHoldsDivisor 31 = .ok (.getfield 9, 3) := by decide +kernel
theorem dW_restHoldsDivisor_34 : decode cW_restHoldsDivisor 34 = .ok (.iload_n 1, 1) := by decide +kernel
theorem dW_restHoldsDivisor_35 : decode cW_restHoldsDivisor 35 = .ok (.laload, 1) := by decide +kernel
theorem dW_restHoldsDivisor_36 : decode cW_restHoldsDivisor 36 = .ok (.lcmp, 1) := by decide +kernel
theorem dW_restHoldsDivisor_37 : decode cW_restHoldsDivisor 37 = .ok (.ifCond .le 7, 3) := by decide +kernel
theorem dW_restHoldsDivisor_40 : decode cW_restHoldsDivisor 40 = .ok (.iconst 1, 1) := by decide +kernel
theorem dW_restHoldsDivisor_41 : decode cW_restHoldsDivisor 41 = .ok (.goto 4, 3) := by decide +kernel
theorem dW_restHoldsDivisor_44 : decode cW_restHoldsDivisor 44 = .ok (.iconst 0, 1) := by decide +kernel
theorem dW_restHoldsDivisor_45 : decode cW_restHoldsDivisor 45 = .ok (.ireturn, 1) := by decide +kernel
theorem dW_restHoldsDivisor_46 : decode cW_restHoldsDivisor 46 = .ok (.iinc 1 1, 3) := by decide +kernel
theorem dW_restHoldsDivisor_49 : decode cW_restHoldsDivisor 49 = .ok (.goto (-47), 3) := by decide +kernel
theorem dW_restHoldsDivisor_52 : decode cW_restHoldsDivisor 52 = .ok (.iconst 1, 1) := by decide +kernel
theorem dW_restHoldsDivisor_53 : decode cW_restHoldsDivisor 53 = .ok (.ireturn, 1) := by decide +kernel
theorem dW_subtractDivisor_0 : decode cW_subtractDivisor 0 = .ok (.lconst 0, 1) := by decide +kernel
theorem dW_subtractDivisor_1 : decode cW_subtractDivisor 1 = .ok (.lstore_n 1, 1) := by decide +kernel
theorem dW_subtractDivisor_2 : decode cW_subtractDivisor 2 = .ok (.bipush 7, 2) := by decide +kernel
theorem dW_subtractDivisor_4 : decode cW_subtractDivisor 4 = .ok (.istore_n 3, 1) := by decide +kernel
theorem dW_subtractDivisor_5 : decode cW_subtractDivisor 5 = .ok (.iload_n 3, 1) := by decide +kernel
theorem dW_subtractDivisor_6 : decode cW_subtractDivisor 6 = .ok (.ifCond .lt 51, 3) := by decide +kernel
theorem dW_subtractDivisor_9 : decode cW_subtractDivisor 9 = .ok (.aload_n 0, 1) := by decide +kernel
theorem dW_subtractDivisor_10 : decode cW_subtractDivisor 10 = .ok (.getfield 15, 3) := by decide +kernel
theorem dW_subtractDivisor_13 : decode cW_subtractDivisor 13 = .ok (.iload_n 3, 1) := by decide +kernel
theorem dW_subtractDivisor_14 : decode cW_subtractDivisor 14 = .ok (.laload, 1) := by decide +kernel
theorem dW_subtractDivisor_15 : decode cW_subtractDivisor 15 = .ok (.aload_n 0, 1) := by decide +kernel
theorem dW_subtractDivisor_16 : decode cW_subtractDivisor 16 = .ok (.getfield 9, 3) := by decide +kernel
theorem dW_subtractDivisor_19 : decode cW_subtractDivisor 19 = .ok (.iload_n 3, 1) := by decide +kernel
theorem dW_subtractDivisor_20 : decode cW_subtractDivisor 20 = .ok (.laload, 1) := by decide +kernel
theorem dW_subtractDivisor_21 : decode cW_subtractDivisor 21 = .ok (.lsub, 1) := by decide +kernel
theorem dW_subtractDivisor_22 : decode cW_subtractDivisor 22 = .ok (.lload_n 1, 1) := by decide +kernel
theorem dW_subtractDivisor_23 : decode cW_subtractDivisor 23 = .ok (.lsub, 1) := by decide +kernel
theorem dW_subtractDivisor_24 : decode cW_subtractDivisor 24 = .ok (.lstore 4, 2) := by decide +kernel
theorem dW_subtractDivisor_26 : decode cW_subtractDivisor 26 = .ok (.aload_n 0, 1) := by decide +kernel
theorem dW_subtractDivisor_27 : decode cW_subtractDivisor 27 = .ok (.getfield 15, 3) := by decide +kernel
theorem dW_subtractDivisor_30 : decode cW_subtractDivisor 30 = .ok (.iload_n 3, 1) := by decide +kernel
theorem dW_subtractDivisor_31 : decode cW_subtractDivisor 31 = .ok (.lload 4, 2) := by decide +kernel
theorem dW_subtractDivisor_33 : decode cW_subtractDivisor 33 = .ok (.ldc2_w 38, 3) := by decide +kernel
theorem dW_subtractDivisor_36 : decode cW_subtractDivisor 36 = .ok (.land, 1) := by decide +kernel
theorem dW_subtractDivisor_37 : decode cW_subtractDivisor 37 = .ok (.lastore, 1) := by decide +kernel
theorem dW_subtractDivisor_38 : decode cW_subtractDivisor 38 = .ok (.lload 4, 2) := by decide +kernel
theorem dW_subtractDivisor_40 : decode cW_subtractDivisor 40 = .ok (.lconst 0, 1) := by decide +kernel
theorem dW_subtractDivisor_41 : decode cW_subtractDivisor 41 = .ok (.lcmp, 1) := by decide +kernel
theorem dW_subtractDivisor_42 : decode cW_subtractDivisor 42 = .ok (.ifCond .ge 7, 3) := by decide +kernel
theorem dW_subtractDivisor_45 : decode cW_subtractDivisor 45 = .ok (.lconst 1, 1) := by decide +kernel
theorem dW_subtractDivisor_46 : decode cW_subtractDivisor 46 = .ok (.goto 4, 3) := by decide +kernel
theorem dW_subtractDivisor_49 : decode cW_subtractDivisor 49 = .ok (.lconst 0, 1) := by decide +kernel
theorem dW_subtractDivisor_50 : decode cW_subtractDivisor 50 = .ok (.lstore_n 1, 1) := by decide +kernel
theorem dW_subtractDivisor_51 : decode cW_subtractDivisor 51 = .ok (.iinc 3 (-1), 3) := by decide +kernel
theorem dW_subtractDivisor_54 : decode cW_subtractDivisor 54 = .ok (.goto (-49), 3) := by decide +kernel
theorem dW_subtractDivisor_57 : decode cW_subtractDivisor 57 = .ok (.return_, 1) := by decide +kernel
theorem dW_divide_0 : decode cW_divide 0 = .ok (.aload_n 0, 1) := by decide +kernel
theorem dW_divide_1 : decode cW_divide 1 = .ok (.getfield 15, 3) := by decide +kernel
theorem dW_divide_4 : decode cW_divide 4 = .ok (.lconst 0, 1) := by decide +kernel
theorem dW_divide_5 : decode cW_divide 5 = .ok (.invokestatic 40, 3) := by decide +kernel
theorem dW_divide_8 : decode cW_divide 8 = .ok (.aload_n 0, 1) := by decide +kernel
theorem dW_divide_9 : decode cW_divide 9 = .ok (.getfield 18, 3) := by decide +kernel
theorem dW_divide_12 : decode cW_divide 12 = .ok (.lconst 0, 1) := by decide +kernel
theorem dW_divide_13 : decode cW_divide 13 = .ok (.invokestatic 40, 3) := by decide +kernel
theorem dW_divide_16 : decode cW_divide 16 = .ok (.iconst 0, 1) := by decide +kernel
theorem dW_divide_17 : decode cW_divide 17 = .ok (.aload_n 0, 1) := by decide +kernel
theorem dW_divide_18 : decode cW_divide 18 = .ok (.invokevirtual 46, 3) := by decide +kernel
theorem dW_divide_21 : decode cW_divide 21 = .ok (.iconst 2, 1) := by decide +kernel
theorem dW_divide_22 : decode cW_divide 22 = .ok (.isub, 1) := by decide +kernel
theorem dW_divide_23 : decode cW_divide 23 = .ok (.invokestatic 50, 3) := by decide +kernel
theorem dW_divide_26 : decode cW_divide 26 = .ok (.istore_n 1, 1) := by decide +kernel
theorem dW_divide_27 : decode cW_divide 27 = .ok (.aload_n 0, 1) := by decide +kernel
theorem dW_divide_28 : decode cW_divide 28 = .ok (.getfield 15, 3) := by decide +kernel
theorem dW_divide_31 : decode cW_divide 31 = .ok (.bipush 7, 2) := by decide +kernel
theorem dW_divide_33 : decode cW_divide 33 = .ok (.iload_n 1, 1) := by decide +kernel
theorem dW_divide_34 : decode cW_divide 34 = .ok (.bipush 32, 2) := by decide +kernel
theorem dW_divide_36 : decode cW_divide 36 = .ok (.idiv, 1) := by decide +kernel
theorem dW_divide_37 : decode cW_divide 37 = .ok (.isub, 1) := by decide +kernel
theorem dW_divide_38 : decode cW_divide 38 = .ok (.lconst 1, 1) := by decide +kernel
theorem dW_divide_39 : decode cW_divide 39 = .ok (.iload_n 1, 1) := by decide +kernel
theorem dW_divide_40 : decode cW_divide 40 = .ok (.bipush 32, 2) := by decide +kernel
theorem dW_divide_42 : decode cW_divide 42 = .ok (.irem, 1) := by decide +kernel
theorem dW_divide_43 : decode cW_divide 43 = .ok (.lshl, 1) := by decide +kernel
theorem dW_divide_44 : decode cW_divide 44 = .ok (.lastore, 1) := by decide +kernel
theorem dW_divide_45 : decode cW_divide 45 = .ok (.iload_n 1, 1) := by decide +kernel
theorem dW_divide_46 : decode cW_divide 46 = .ok (.istore_n 2, 1) := by decide +kernel
theorem dW_divide_47 : decode cW_divide 47 = .ok (.iload_n 2, 1) := by decide +kernel
theorem dW_divide_48 : decode cW_divide 48 = .ok (.sipush 256, 3) := by decide +kernel
theorem dW_divide_51 : decode cW_divide 51 = .ok (.if_icmp .ge 46, 3) := by decide +kernel
theorem dW_divide_54 : decode cW_divide 54 = .ok (.aload_n 0, 1) := by decide +kernel
theorem dW_divide_55 : decode cW_divide 55 = .ok (.getfield 15, 3) := by decide +kernel
theorem dW_divide_58 : decode cW_divide 58 = .ok (.lconst 0, 1) := by decide +kernel
theorem dW_divide_59 : decode cW_divide 59 = .ok (.invokestatic 56, 3) := by decide +kernel
theorem dW_divide_62 : decode cW_divide 62 = .ok (.aload_n 0, 1) := by decide +kernel
theorem dW_divide_63 : decode cW_divide 63 = .ok (.invokevirtual 59, 3) := by decide +kernel
theorem dW_divide_66 : decode cW_divide 66 = .ok (.istore_n 3, 1) := by decide +kernel
theorem dW_divide_67 : decode cW_divide 67 = .ok (.iload_n 3, 1) := by decide +kernel
theorem dW_divide_68 : decode cW_divide 68 = .ok (.ifCond .eq 7, 3) := by decide +kernel
theorem dW_divide_71 : decode cW_divide 71 = .ok (.aload_n 0, 1) := by decide +kernel
theorem dW_divide_72 : decode cW_divide 72 = .ok (.invokevirtual 63, 3) := by decide +kernel
theorem dW_divide_75 : decode cW_divide 75 = .ok (.aload_n 0, 1) := by decide +kernel
theorem dW_divide_76 : decode cW_divide 76 = .ok (.getfield 18, 3) := by decide +kernel
theorem dW_divide_79 : decode cW_divide 79 = .ok (.iload_n 3, 1) := by decide +kernel
theorem dW_divide_80 : decode cW_divide 80 = .ok (.ifCond .eq 7, 3) := by decide +kernel
theorem dW_divide_83 : decode cW_divide 83 = .ok (.lconst 1, 1) := by decide +kernel
theorem dW_divide_84 : decode cW_divide 84 = .ok (.goto 4, 3) := by decide +kernel
theorem dW_divide_87 : decode cW_divide 87 = .ok (.lconst 0, 1) := by decide +kernel
theorem dW_divide_88 : decode cW_divide 88 = .ok (.invokestatic 56, 3) := by decide +kernel
theorem dW_divide_91 : decode cW_divide 91 = .ok (.iinc 2 1, 3) := by decide +kernel
theorem dW_divide_94 : decode cW_divide 94 = .ok (.goto (-47), 3) := by decide +kernel
theorem dW_divide_97 : decode cW_divide 97 = .ok (.return_, 1) := by decide +kernel
theorem dW_ofBits_0 : decode cW_ofBits 0 = .ok (.lload_n 1, 1) := by decide +kernel
theorem dW_ofBits_1 : decode cW_ofBits 1 = .ok (.aload_n 0, 1) := by decide +kernel
theorem dW_ofBits_2 : decode cW_ofBits 2 = .ok (.getfield 23, 3) := by decide +kernel
theorem dW_ofBits_5 : decode cW_ofBits 5 = .ok (.lcmp, 1) := by decide +kernel
theorem dW_ofBits_6 : decode cW_ofBits 6 = .ok (.ifCond .eq 17, 3) := by decide +kernel
theorem dW_ofBits_9 : decode cW_ofBits 9 = .ok (.aload_n 0, 1) := by decide +kernel
theorem dW_ofBits_10 : decode cW_ofBits 10 = .ok (.lload_n 1, 1) := by decide +kernel
theorem dW_ofBits_11 : decode cW_ofBits 11 = .ok (.invokevirtual 27, 3) := by decide +kernel
theorem dW_ofBits_14 : decode cW_ofBits 14 = .ok (.aload_n 0, 1) := by decide +kernel
theorem dW_ofBits_15 : decode cW_ofBits 15 = .ok (.invokevirtual 31, 3) := by decide +kernel
theorem dW_ofBits_18 : decode cW_ofBits 18 = .ok (.aload_n 0, 1) := by decide +kernel
theorem dW_ofBits_19 : decode cW_ofBits 19 = .ok (.lload_n 1, 1) := by decide +kernel
theorem dW_ofBits_20 : decode cW_ofBits 20 = .ok (.putfield 23, 3) := by decide +kernel
theorem dW_ofBits_23 : decode cW_ofBits 23 = .ok (.aload_n 0, 1) := by decide +kernel
theorem dW_ofBits_24 : decode cW_ofBits 24 = .ok (.getfield 18, 3) := by decide +kernel
theorem dW_ofBits_27 : decode cW_ofBits 27 = .ok (.areturn, 1) := by decide +kernel
theorem dR_multiply_0 : decode cR_multiply 0 = .ok (.lconst 0, 1) := by decide +kernel
theorem dR_multiply_1 : decode cR_multiply 1 = .ok (.lstore 5, 2) := by decide +kernel
theorem dR_multiply_3 : decode cR_multiply 3 = .ok (.bipush 7, 2) := by decide +kernel
theorem dR_multiply_5 : decode cR_multiply 5 = .ok (.istore 7, 2) := by decide +kernel
theorem dR_multiply_7 : decode cR_multiply 7 = .ok (.iload 7, 2) := by decide +kernel
theorem dR_multiply_9 : decode cR_multiply 9 = .ok (.ifCond .lt 44, 3) := by decide +kernel
theorem dR_multiply_12 : decode cR_multiply 12 = .ok (.lload_n 1, 1) := by decide +kernel
theorem dR_multiply_13 : decode cR_multiply 13 = .ok (.iload 7, 2) := by decide +kernel
theorem dR_multiply_15 : decode cR_multiply 15 = .ok (.invokestatic 46, 3) := by decide +kernel
theorem dR_multiply_18 : decode cR_multiply 18 = .ok (.lload_n 3, 1) := by decide +kernel
theorem dR_multiply_19 : decode cR_multiply 19 = .ok (.lmul, 1) := by decide +kernel
theorem dR_multiply_20 : decode cR_multiply 20 = .ok (.lload 5, 2) := by decide +kernel
theorem dR_multiply_22 : decode cR_multiply 22 = .ok (.ladd, 1) := by decide +kernel
theorem dR_multiply_23 : decode cR_multiply 23 = .ok (.lstore 8, 2) := by decide +kernel
theorem dR_multiply_25 : decode cR_multiply 25 = .ok (.aload_n 0, 1) := by decide +kernel
theorem dR_multiply_26 : decode cR_multiply 26 = .ok (.getfield 9, 3) := by decide +kernel
theorem dR_multiply_29 : decode cR_multiply 29 = .ok (.iload 7, 2) := by decide +kernel
theorem dR_multiply_31 : decode cR_multiply 31 = .ok (.iconst 1, 1) := by decide +kernel
theorem dR_multiply_32 : decode cR_multiply 32 = .ok (.iadd, 1) := by decide +kernel
theorem dR_multiply_33 : decode cR_multiply 33 = .ok (.lload 8, 2) := by decide +kernel
theorem dR_multiply_35 : decode cR_multiply 35 = .ok (.ldc2_w 50, 3) := by decide +kernel
theorem dR_multiply_38 : decode cR_multiply 38 = .ok (.land, 1) := by decide +kernel
theorem dR_multiply_39 : decode cR_multiply 39 = .ok (.lastore, 1) := by decide +kernel
theorem dR_multiply_40 : decode cR_multiply 40 = .ok (.lload 8, 2) := by decide +kernel
theorem dR_multiply_42 : decode cR_multiply 42 = .ok (.bipush 32, 2) := by decide +kernel
theorem dR_multiply_44 : decode cR_multiply 44 = .ok (.lushr, 1) := by decide +kernel
theorem dR_multiply_45 : decode cR_multiply 45 = .ok (.lstore 5, 2) := by decide +kernel
theorem dR_multiply_47 : decode cR_multiply 47 = .ok (.iinc 7 (-1), 3) := by decide +kernel
theorem dR_multiply_50 : decode cR_multiply 50 = .ok (.goto (-43), 3) := by decide +kernel
theorem dR_multiply_53 : decode cR_multiply 53 = .ok (.aload_n 0, 1) := by decide +kernel
theorem dR_multiply_54 : decode cR_multiply 54 = .ok (.getfield 9, 3) := by decide +kernel
theorem dR_multiply_57 : decode cR_multiply 57 = .ok (.iconst 0, 1) := by decide +kernel
theorem dR_multiply_58 : decode cR_multiply 58 = .ok (.lload 5, 2) := by decide +kernel
theorem dR_multiply_60 : decode cR_multiply 60 = .ok (.lastore, 1) := by decide +kernel
theorem dR_multiply_61 : decode cR_multiply 61 = .ok (.return_, 1) := by decide +kernel
theorem dB_join_0 : decode cB_join 0 = .ok (.lload_n 0, 1) := by decide +kernel
theorem dB_join_1 : decode cB_join 1 = .ok (.bipush 32, 2) := by decide +kernel
theorem dB_join_3 : decode cB_join 3 = .ok (.lshl, 1) := by decide +kernel
theorem dB_join_4 : decode cB_join 4 = .ok (.lload_n 2, 1) := by decide +kernel
theorem dB_join_5 : decode cB_join 5 = .ok (.lor, 1) := by decide +kernel
theorem dB_join_6 : decode cB_join 6 = .ok (.lreturn, 1) := by decide +kernel
theorem dR_divide_0 : decode cR_divide 0 = .ok (.lconst 0, 1) := by decide +kernel
theorem dR_divide_1 : decode cR_divide 1 = .ok (.lstore_n 1, 1) := by decide +kernel
theorem dR_divide_2 : decode cR_divide 2 = .ok (.iconst 0, 1) := by decide +kernel
theorem dR_divide_3 : decode cR_divide 3 = .ok (.istore_n 3, 1) := by decide +kernel
theorem dR_divide_4 : decode cR_divide 4 = .ok (.iload_n 3, 1) := by decide +kernel
theorem dR_divide_5 : decode cR_divide 5 = .ok (.bipush 8, 2) := by decide +kernel
theorem dR_divide_7 : decode cR_divide 7 = .ok (.if_icmp .gt 40, 3) := by decide +kernel
theorem dR_divide_10 : decode cR_divide 10 = .ok (.lload_n 1, 1) := by decide +kernel
theorem dR_divide_11 : decode cR_divide 11 = .ok (.aload_n 0, 1) := by decide +kernel
theorem dR_divide_12 : decode cR_divide 12 = .ok (.getfield 9, 3) := by decide +kernel
theorem dR_divide_15 : decode cR_divide 15 = .ok (.iload_n 3, 1) := by decide +kernel
theorem dR_divide_16 : decode cR_divide 16 = .ok (.laload, 1) := by decide +kernel
theorem dR_divide_17 : decode cR_divide 17 = .ok (.invokestatic 35, 3) := by decide +kernel
theorem dR_divide_20 : decode cR_divide 20 = .ok (.lstore 4, 2) := by decide +kernel
theorem dR_divide_22 : decode cR_divide 22 = .ok (.aload_n 0, 1) := by decide +kernel
theorem dR_divide_23 : decode cR_divide 23 = .ok (.getfield 9, 3) := by decide +kernel
theorem dR_divide_26 : decode cR_divide 26 = .ok (.iload_n 3, 1) := by decide +kernel
theorem dR_divide_27 : decode cR_divide 27 = .ok (.lload 4, 2) := by decide +kernel
theorem dR_divide_29 : decode cR_divide 29 = .ok (.ldc2_w 52, 3) := by decide +kernel
theorem dR_divide_32 : decode cR_divide 32 = .ok (.ldiv, 1) := by decide +kernel
theorem dR_divide_33 : decode cR_divide 33 = .ok (.lastore, 1) := by decide +kernel
theorem dR_divide_34 : decode cR_divide 34 = .ok (.lload 4, 2) := by decide +kernel
theorem dR_divide_36 : decode cR_divide 36 = .ok (.ldc2_w 52, 3) := by decide +kernel
theorem dR_divide_39 : decode cR_divide 39 = .ok (.lrem, 1) := by decide +kernel
theorem dR_divide_40 : decode cR_divide 40 = .ok (.lstore_n 1, 1) := by decide +kernel
theorem dR_divide_41 : decode cR_divide 41 = .ok (.iinc 3 1, 3) := by decide +kernel
theorem dR_divide_44 : decode cR_divide 44 = .ok (.goto (-40), 3) := by decide +kernel
theorem dR_divide_47 : decode cR_divide 47 = .ok (.return_, 1) := by decide +kernel
theorem dB_byteAt_0 : decode cB_byteAt 0 = .ok (.iload 8, 2) := by decide +kernel
theorem dB_byteAt_2 : decode cB_byteAt 2 = .ok (.ifCond .ge 5, 3) := by decide +kernel
theorem dB_byteAt_5 : decode cB_byteAt 5 = .ok (.lconst 0, 1) := by decide +kernel
theorem dB_byteAt_6 : decode cB_byteAt 6 = .ok (.lreturn, 1) := by decide +kernel
theorem dB_byteAt_7 : decode cB_byteAt 7 = .ok (.iload 8, 2) := by decide +kernel
theorem dB_byteAt_9 : decode cB_byteAt 9 = .ok (.bipush 8, 2) := by decide +kernel
theorem dB_byteAt_11 : decode cB_byteAt 11 = .ok (.if_icmp .ge 8, 3) := by decide +kernel
theorem dB_byteAt_14 : decode cB_byteAt 14 = .ok (.lload 6, 2) := by decide +kernel
theorem dB_byteAt_16 : decode cB_byteAt 16 = .ok (.goto 27, 3) := by decide +kernel
theorem dB_byteAt_19 : decode cB_byteAt 19 = .ok (.iload 8, 2) := by decide +kernel
theorem dB_byteAt_21 : decode cB_byteAt 21 = .ok (.bipush 16, 2) := by decide +kernel
theorem dB_byteAt_23 : decode cB_byteAt 23 = .ok (.if_icmp .ge 8, 3) := by decide +kernel
theorem dB_byteAt_26 : decode cB_byteAt 26 = .ok (.lload 4, 2) := by decide +kernel
theorem dB_byteAt_28 : decode cB_byteAt 28 = .ok (.goto 15, 3) := by decide +kernel
theorem dB_byteAt_31 : decode cB_byteAt 31 = .ok (.iload 8, 2) := by decide +kernel
theorem dB_byteAt_33 : decode cB_byteAt 33 = .ok (.bipush 24, 2) := by decide +kernel
theorem dB_byteAt_35 : decode cB_byteAt 35 = .ok (.if_icmp .ge 7, 3) := by decide +kernel
theorem dB_byteAt_38 : decode cB_byteAt 38 = .ok (.lload_n 2, 1) := by decide +kernel
theorem dB_byteAt_39 : decode cB_byteAt 39 = .ok (.goto 4, 3) := by decide +kernel
theorem dB_byteAt_42 : decode cB_byteAt 42 = .ok (.lload_n 0, 1) := by decide +kernel
theorem dB_byteAt_43 : decode cB_byteAt 43 = .ok (.lstore 9, 2) := by decide +kernel
theorem dB_byteAt_45 : decode cB_byteAt 45 = .ok (.lload 9, 2) := by decide +kernel
theorem dB_byteAt_47 : decode cB_byteAt 47 = .ok (.bipush 8, 2) := by decide +kernel
theorem dB_byteAt_49 : decode cB_byteAt 49 = .ok (.iload 8, 2) := by decide +kernel
theorem dB_byteAt_51 : decode cB_byteAt 51 = .ok (.bipush 8, 2) := by decide +kernel
theorem dB_byteAt_53 : decode cB_byteAt 53 = .ok (.irem, 1) := by decide +kernel
theorem dB_byteAt_54 : decode cB_byteAt 54 = .ok (.imul, 1) := by decide +kernel
theorem dB_byteAt_55 : decode cB_byteAt 55 = .ok (.lushr, 1) := by decide +kernel
theorem dB_byteAt_56 : decode cB_byteAt 56 = .ok (.ldc2_w 37, 3) := by decide +kernel
theorem dB_byteAt_59 : decode cB_byteAt 59 = .ok (.land, 1) := by decide +kernel
theorem dB_byteAt_60 : decode cB_byteAt 60 = .ok (.lreturn, 1) := by decide +kernel
theorem dB_shorten_0 : decode cB_shorten 0 = .ok (.bipush 32, 2) := by decide +kernel
theorem dB_shorten_2 : decode cB_shorten 2 = .ok (.istore 8, 2) := by decide +kernel
theorem dB_shorten_4 : decode cB_shorten 4 = .ok (.iload 8, 2) := by decide +kernel
theorem dB_shorten_6 : decode cB_shorten 6 = .ok (.ifCond .le 27, 3) := by decide +kernel
theorem dB_shorten_9 : decode cB_shorten 9 = .ok (.lload_n 0, 1) := by decide +kernel
theorem dB_shorten_10 : decode cB_shorten 10 = .ok (.lload_n 2, 1) := by decide +kernel
theorem dB_shorten_11 : decode cB_shorten 11 = .ok (.lload 4, 2) := by decide +kernel
theorem dB_shorten_13 : decode cB_shorten 13 = .ok (.lload 6, 2) := by decide +kernel
theorem dB_shorten_15 : decode cB_shorten 15 = .ok (.iload 8, 2) := by decide +kernel
theorem dB_shorten_17 : decode cB_shorten 17 = .ok (.iconst 1, 1) := by decide +kernel
theorem dB_shorten_18 : decode cB_shorten 18 = .ok (.isub, 1) := by decide +kernel
theorem dB_shorten_19 : decode cB_shorten 19 = .ok (.invokestatic 33, 3) := by decide +kernel
theorem dB_shorten_22 : decode cB_shorten 22 = .ok (.lconst 0, 1) := by decide +kernel
theorem dB_shorten_23 : decode cB_shorten 23 = .ok (.lcmp, 1) := by decide +kernel
theorem dB_shorten_24 : decode cB_shorten 24 = .ok (.ifCond .ne 9, 3) := by decide +kernel
theorem dB_shorten_27 : decode cB_shorten 27 = .ok (.iinc 8 (-1), 3) := by decide +kernel
theorem dB_shorten_30 : decode cB_shorten 30 = .ok (.goto (-26), 3) := by decide +kernel
theorem dB_shorten_33 : decode cB_shorten 33 = .ok (.lconst 0, 1) := by decide +kernel
theorem dB_shorten_34 : decode cB_shorten 34 = .ok (.lstore 9, 2) := by decide +kernel
theorem dB_shorten_36 : decode cB_shorten 36 = .ok (.iconst 1, 1) := by decide +kernel
theorem dB_shorten_37 : decode cB_shorten 37 = .ok (.istore 11, 2) := by decide +kernel
theorem dB_shorten_39 : decode cB_shorten 39 = .ok (.iload 11, 2) := by decide +kernel
theorem dB_shorten_41 : decode cB_shorten 41 = .ok (.iconst 3, 1) := by decide +kernel
theorem dB_shorten_42 : decode cB_shorten 42 = .ok (.if_icmp .gt 31, 3) := by decide +kernel
theorem dB_shorten_45 : decode cB_shorten 45 = .ok (.lload 9, 2) := by decide +kernel
theorem dB_shorten_47 : decode cB_shorten 47 = .ok (.bipush 8, 2) := by decide +kernel
theorem dB_shorten_49 : decode cB_shorten 49 = .ok (.lshl, 1) := by decide +kernel
theorem dB_shorten_50 : decode cB_shorten 50 = .ok (.lload_n 0, 1) := by decide +kernel
theorem dB_shorten_51 : decode cB_shorten 51 = .ok (.lload_n 2, 1) := by decide +kernel
theorem dB_shorten_52 : decode cB_shorten 52 = .ok (.lload 4, 2) := by decide +kernel
theorem dB_shorten_54 : decode cB_shorten 54 = .ok (.lload 6, 2) := by decide +kernel
theorem dB_shorten_56 : decode cB_shorten 56 = .ok (.iload 8, 2) := by decide +kernel
theorem dB_shorten_58 : decode cB_shorten 58 = .ok (.iload 11, 2) := by decide +kernel
theorem dB_shorten_60 : decode cB_shorten 60 = .ok (.isub, 1) := by decide +kernel
theorem dB_shorten_61 : decode cB_shorten 61 = .ok (.invokestatic 33, 3) := by decide +kernel
theorem dB_shorten_64 : decode cB_shorten 64 = .ok (.lor, 1) := by decide +kernel
theorem dB_shorten_65 : decode cB_shorten 65 = .ok (.lstore 9, 2) := by decide +kernel
theorem dB_shorten_67 : decode cB_shorten 67 = .ok (.iinc 11 1, 3) := by decide +kernel
theorem dB_shorten_70 : decode cB_shorten 70 = .ok (.goto (-31), 3) := by decide +kernel
theorem dB_shorten_73 : decode cB_shorten 73 = .ok (.lload 9, 2) := by decide +kernel
theorem dB_shorten_75 : decode cB_shorten 75 = .ok (.ldc2_w 13, 3) := by decide +kernel
theorem dB_shorten_78 : decode cB_shorten 78 = .ok (.land, 1) := by decide +kernel
theorem dB_shorten_79 : decode cB_shorten 79 = .ok (.lconst 0, 1) := by decide +kernel
theorem dB_shorten_80 : decode cB_shorten 80 = .ok (.lcmp, 1) := by decide +kernel
theorem dB_shorten_81 : decode cB_shorten 81 = .ok (.ifCond .eq 13, 3) := by decide +kernel
theorem dB_shorten_84 : decode cB_shorten 84 = .ok (.lload 9, 2) := by decide +kernel
theorem dB_shorten_86 : decode cB_shorten 86 = .ok (.bipush 8, 2) := by decide +kernel
theorem dB_shorten_88 : decode cB_shorten 88 = .ok (.lushr, 1) := by decide +kernel
theorem dB_shorten_89 : decode cB_shorten 89 = .ok (.lstore 9, 2) := by decide +kernel
theorem dB_shorten_91 : decode cB_shorten 91 = .ok (.iinc 8 1, 3) := by decide +kernel
theorem dB_shorten_94 : decode cB_shorten 94 = .ok (.iload 8, 2) := by decide +kernel
theorem dB_shorten_96 : decode cB_shorten 96 = .ok (.i2l, 1) := by decide +kernel
theorem dB_shorten_97 : decode cB_shorten 97 = .ok (.bipush 24, 2) := by decide +kernel
theorem dB_shorten_99 : decode cB_shorten 99 = .ok (.lshl, 1) := by decide +kernel
theorem dB_shorten_100 : decode cB_shorten 100 = .ok (.lload 9, 2) := by decide +kernel
theorem dB_shorten_102 : decode cB_shorten 102 = .ok (.lor, 1) := by decide +kernel
theorem dB_shorten_103 : decode cB_shorten 103 = .ok (.lreturn, 1) := by decide +kernel
theorem dR_next_0 : decode cR_next 0 = .ok (.aload_n 0, 1) := by decide +kernel
theorem dR_next_1 : decode cR_next 1 = .ok (.lload_n 1, 1) := by decide +kernel
theorem dR_next_2 : decode cR_next 2 = .ok (.ldc2_w 15, 3) := by decide +kernel
theorem dR_next_5 : decode cR_next 5 = .ok (.ldc2_w 17, 3) := by decide +kernel
theorem dR_next_8 : decode cR_next 8 = .ok (.lload_n 3, 1) := by decide +kernel
theorem dR_next_9 : decode cR_next 9 = .ok (.invokestatic 19, 3) := by decide +kernel
theorem dR_next_12 : decode cR_next 12 = .ok (.invokestatic 25, 3) := by decide +kernel
theorem dR_next_15 : decode cR_next 15 = .ok (.invokevirtual 28, 3) := by decide +kernel
theorem dR_next_18 : decode cR_next 18 = .ok (.aload_n 0, 1) := by decide +kernel
theorem dR_next_19 : decode cR_next 19 = .ok (.invokevirtual 32, 3) := by decide +kernel
theorem dR_next_22 : decode cR_next 22 = .ok (.aload_n 0, 1) := by decide +kernel
theorem dR_next_23 : decode cR_next 23 = .ok (.getfield 9, 3) := by decide +kernel
theorem dR_next_26 : decode cR_next 26 = .ok (.iconst 1, 1) := by decide +kernel
theorem dR_next_27 : decode cR_next 27 = .ok (.laload, 1) := by decide +kernel
theorem dR_next_28 : decode cR_next 28 = .ok (.aload_n 0, 1) := by decide +kernel
theorem dR_next_29 : decode cR_next 29 = .ok (.getfield 9, 3) := by decide +kernel
theorem dR_next_32 : decode cR_next 32 = .ok (.iconst 2, 1) := by decide +kernel
theorem dR_next_33 : decode cR_next 33 = .ok (.laload, 1) := by decide +kernel
theorem dR_next_34 : decode cR_next 34 = .ok (.invokestatic 35, 3) := by decide +kernel
theorem dR_next_37 : decode cR_next 37 = .ok (.lstore 5, 2) := by decide +kernel
theorem dR_next_39 : decode cR_next 39 = .ok (.aload_n 0, 1) := by decide +kernel
theorem dR_next_40 : decode cR_next 40 = .ok (.getfield 9, 3) := by decide +kernel
theorem dR_next_43 : decode cR_next 43 = .ok (.iconst 0, 1) := by decide +kernel
theorem dR_next_44 : decode cR_next 44 = .ok (.laload, 1) := by decide +kernel
theorem dR_next_45 : decode cR_next 45 = .ok (.lconst 0, 1) := by decide +kernel
theorem dR_next_46 : decode cR_next 46 = .ok (.lcmp, 1) := by decide +kernel
theorem dR_next_47 : decode cR_next 47 = .ok (.ifCond .ne 19, 3) := by decide +kernel
theorem dR_next_50 : decode cR_next 50 = .ok (.lload 5, 2) := by decide +kernel
theorem dR_next_52 : decode cR_next 52 = .ok (.lconst 0, 1) := by decide +kernel
theorem dR_next_53 : decode cR_next 53 = .ok (.lcmp, 1) := by decide +kernel
theorem dR_next_54 : decode cR_next 54 = .ok (.ifCond .lt 12, 3) := by decide +kernel
theorem dR_next_57 : decode cR_next 57 = .ok (.lload 5, 2) := by decide +kernel
theorem dR_next_59 : decode cR_next 59 = .ok (.ldc2_w 38, 3) := by decide +kernel
theorem dR_next_62 : decode cR_next 62 = .ok (.lcmp, 1) := by decide +kernel
theorem dR_next_63 : decode cR_next 63 = .ok (.ifCond .lt 7, 3) := by decide +kernel
theorem dR_next_66 : decode cR_next 66 = .ok (.ldc2_w 40, 3) := by decide +kernel
theorem dR_next_69 : decode cR_next 69 = .ok (.lreturn, 1) := by decide +kernel
theorem dR_next_70 : decode cR_next 70 = .ok (.aload_n 0, 1) := by decide +kernel
theorem dR_next_71 : decode cR_next 71 = .ok (.getfield 9, 3) := by decide +kernel
theorem dR_next_74 : decode cR_next 74 = .ok (.iconst 3, 1) := by decide +kernel
theorem dR_next_75 : decode cR_next 75 = .ok (.laload, 1) := by decide +kernel
theorem dR_next_76 : decode cR_next 76 = .ok (.aload_n 0, 1) := by decide +kernel
theorem dR_next_77 : decode cR_next 77 = .ok (.getfield 9, 3) := by decide +kernel
theorem dR_next_80 : decode cR_next 80 = .ok (.iconst 4, 1) := by decide +kernel
theorem dR_next_81 : decode cR_next 81 = .ok (.laload, 1) := by decide +kernel
theorem dR_next_82 : decode cR_next 82 = .ok (.invokestatic 35, 3) := by decide +kernel
theorem dR_next_85 : decode cR_next 85 = .ok (.lstore 7, 2) := by decide +kernel
theorem dR_next_87 : decode cR_next 87 = .ok (.aload_n 0, 1) := by decide +kernel
theorem dR_next_88 : decode cR_next 88 = .ok (.getfield 9, 3) := by decide +kernel
theorem dR_next_91 : decode cR_next 91 = .ok (.iconst 5, 1) := by decide +kernel
theorem dR_next_92 : decode cR_next 92 = .ok (.laload, 1) := by decide +kernel
theorem dR_next_93 : decode cR_next 93 = .ok (.aload_n 0, 1) := by decide +kernel
theorem dR_next_94 : decode cR_next 94 = .ok (.getfield 9, 3) := by decide +kernel
theorem dR_next_97 : decode cR_next 97 = .ok (.bipush 6, 2) := by decide +kernel
theorem dR_next_99 : decode cR_next 99 = .ok (.laload, 1) := by decide +kernel
theorem dR_next_100 : decode cR_next 100 = .ok (.invokestatic 35, 3) := by decide +kernel
theorem dR_next_103 : decode cR_next 103 = .ok (.lstore 9, 2) := by decide +kernel
theorem dR_next_105 : decode cR_next 105 = .ok (.aload_n 0, 1) := by decide +kernel
theorem dR_next_106 : decode cR_next 106 = .ok (.getfield 9, 3) := by decide +kernel
theorem dR_next_109 : decode cR_next 109 = .ok (.bipush 7, 2) := by decide +kernel
theorem dR_next_111 : decode cR_next 111 = .ok (.laload, 1) := by decide +kernel
theorem dR_next_112 : decode cR_next 112 = .ok (.aload_n 0, 1) := by decide +kernel
theorem dR_next_113 : decode cR_next 113 = .ok (.getfield 9, 3) := by decide +kernel
theorem dR_next_116 : decode cR_next 116 = .ok (.bipush 8, 2) := by decide +kernel
theorem dR_next_118 : decode cR_next 118 = .ok (.laload, 1) := by decide +kernel
theorem dR_next_119 : decode cR_next 119 = .ok (.invokestatic 35, 3) := by decide +kernel
theorem dR_next_122 : decode cR_next 122 = .ok (.lstore 11, 2) := by decide +kernel
theorem dR_next_124 : decode cR_next 124 = .ok (.lload 5, 2) := by decide +kernel
theorem dR_next_126 : decode cR_next 126 = .ok (.lload 7, 2) := by decide +kernel
theorem dR_next_128 : decode cR_next 128 = .ok (.lload 9, 2) := by decide +kernel
theorem dR_next_130 : decode cR_next 130 = .ok (.lload 11, 2) := by decide +kernel
theorem dR_next_132 : decode cR_next 132 = .ok (.invokestatic 42, 3) := by decide +kernel
theorem dR_next_135 : decode cR_next 135 = .ok (.lreturn, 1) := by decide +kernel
theorem dB_faultOf_0 : decode cB_faultOf 0 = .ok (.lload_n 0, 1) := by decide +kernel
theorem dB_faultOf_1 : decode cB_faultOf 1 = .ok (.lconst 0, 1) := by decide +kernel
theorem dB_faultOf_2 : decode cB_faultOf 2 = .ok (.lcmp, 1) := by decide +kernel
theorem dB_faultOf_3 : decode cB_faultOf 3 = .ok (.ifCond .lt 11, 3) := by decide +kernel
theorem dB_faultOf_6 : decode cB_faultOf 6 = .ok (.lload_n 0, 1) := by decide +kernel
theorem dB_faultOf_7 : decode cB_faultOf 7 = .ok (.ldc2_w 9, 3) := by decide +kernel
theorem dB_faultOf_10 : decode cB_faultOf 10 = .ok (.lcmp, 1) := by decide +kernel
theorem dB_faultOf_11 : decode cB_faultOf 11 = .ok (.ifCond .le 5, 3) := by decide +kernel
theorem dB_faultOf_14 : decode cB_faultOf 14 = .ok (.iconst (-1), 1) := by decide +kernel
theorem dB_faultOf_15 : decode cB_faultOf 15 = .ok (.ireturn, 1) := by decide +kernel
theorem dB_faultOf_16 : decode cB_faultOf 16 = .ok (.lload_n 0, 1) := by decide +kernel
theorem dB_faultOf_17 : decode cB_faultOf 17 = .ok (.ldc2_w 11, 3) := by decide +kernel
theorem dB_faultOf_20 : decode cB_faultOf 20 = .ok (.land, 1) := by decide +kernel
theorem dB_faultOf_21 : decode cB_faultOf 21 = .ok (.lstore_n 2, 1) := by decide +kernel
theorem dB_faultOf_22 : decode cB_faultOf 22 = .ok (.lload_n 0, 1) := by decide +kernel
theorem dB_faultOf_23 : decode cB_faultOf 23 = .ok (.ldc2_w 13, 3) := by decide +kernel
theorem dB_faultOf_26 : decode cB_faultOf 26 = .ok (.land, 1) := by decide +kernel
theorem dB_faultOf_27 : decode cB_faultOf 27 = .ok (.lconst 0, 1) := by decide +kernel
theorem dB_faultOf_28 : decode cB_faultOf 28 = .ok (.lcmp, 1) := by decide +kernel
theorem dB_faultOf_29 : decode cB_faultOf 29 = .ok (.ifCond .eq 11, 3) := by decide +kernel
theorem dB_faultOf_32 : decode cB_faultOf 32 = .ok (.lload_n 2, 1) := by decide +kernel
theorem dB_faultOf_33 : decode cB_faultOf 33 = .ok (.lconst 0, 1) := by decide +kernel
theorem dB_faultOf_34 : decode cB_faultOf 34 = .ok (.lcmp, 1) := by decide +kernel
theorem dB_faultOf_35 : decode cB_faultOf 35 = .ok (.ifCond .eq 5, 3) := by decide +kernel
theorem dB_faultOf_38 : decode cB_faultOf 38 = .ok (.iconst 1, 1) := by decide +kernel
theorem dB_faultOf_39 : decode cB_faultOf 39 = .ok (.ireturn, 1) := by decide +kernel
theorem dB_faultOf_40 : decode cB_faultOf 40 = .ok (.lload_n 0, 1) := by decide +kernel
theorem dB_faultOf_41 : decode cB_faultOf 41 = .ok (.invokestatic 15, 3) := by decide +kernel
theorem dB_faultOf_44 : decode cB_faultOf 44 = .ok (.istore 4, 2) := by decide +kernel
theorem dB_faultOf_46 : decode cB_faultOf 46 = .ok (.lload_n 2, 1) := by decide +kernel
theorem dB_faultOf_47 : decode cB_faultOf 47 = .ok (.lconst 0, 1) := by decide +kernel
theorem dB_faultOf_48 : decode cB_faultOf 48 = .ok (.lcmp, 1) := by decide +kernel
theorem dB_faultOf_49 : decode cB_faultOf 49 = .ok (.ifCond .eq 18, 3) := by decide +kernel
theorem dB_faultOf_52 : decode cB_faultOf 52 = .ok (.iload 4, 2) := by decide +kernel
theorem dB_faultOf_54 : decode cB_faultOf 54 = .ok (.ifCond .ge 15, 3) := by decide +kernel
theorem dB_faultOf_57 : decode cB_faultOf 57 = .ok (.lload_n 2, 1) := by decide +kernel
theorem dB_faultOf_58 : decode cB_faultOf 58 = .ok (.iload 4, 2) := by decide +kernel
theorem dB_faultOf_60 : decode cB_faultOf 60 = .ok (.ineg, 1) := by decide +kernel
theorem dB_faultOf_61 : decode cB_faultOf 61 = .ok (.lushr, 1) := by decide +kernel
theorem dB_faultOf_62 : decode cB_faultOf 62 = .ok (.lconst 0, 1) := by decide +kernel
theorem dB_faultOf_63 : decode cB_faultOf 63 = .ok (.lcmp, 1) := by decide +kernel
theorem dB_faultOf_64 : decode cB_faultOf 64 = .ok (.ifCond .ne 5, 3) := by decide +kernel
theorem dB_faultOf_67 : decode cB_faultOf 67 = .ok (.iconst 2, 1) := by decide +kernel
theorem dB_faultOf_68 : decode cB_faultOf 68 = .ok (.ireturn, 1) := by decide +kernel
theorem dB_faultOf_69 : decode cB_faultOf 69 = .ok (.iload 4, 2) := by decide +kernel
theorem dB_faultOf_71 : decode cB_faultOf 71 = .ok (.lload_n 2, 1) := by decide +kernel
theorem dB_faultOf_72 : decode cB_faultOf 72 = .ok (.invokestatic 19, 3) := by decide +kernel
theorem dB_faultOf_75 : decode cB_faultOf 75 = .ok (.iadd, 1) := by decide +kernel
theorem dB_faultOf_76 : decode cB_faultOf 76 = .ok (.sipush 256, 3) := by decide +kernel
theorem dB_faultOf_79 : decode cB_faultOf 79 = .ok (.if_icmp .le 5, 3) := by decide +kernel
theorem dB_faultOf_82 : decode cB_faultOf 82 = .ok (.iconst 3, 1) := by decide +kernel
theorem dB_faultOf_83 : decode cB_faultOf 83 = .ok (.ireturn, 1) := by decide +kernel
theorem dB_faultOf_84 : decode cB_faultOf 84 = .ok (.lload_n 0, 1) := by decide +kernel
theorem dB_faultOf_85 : decode cB_faultOf 85 = .ok (.iconst 0, 1) := by decide +kernel
theorem dB_faultOf_86 : decode cB_faultOf 86 = .ok (.invokestatic 22, 3) := by decide +kernel
theorem dB_faultOf_89 : decode cB_faultOf 89 = .ok (.lstore 5, 2) := by decide +kernel
theorem dB_faultOf_91 : decode cB_faultOf 91 = .ok (.lload 5, 2) := by decide +kernel
theorem dB_faultOf_93 : decode cB_faultOf 93 = .ok (.lconst 0, 1) := by decide +kernel
theorem dB_faultOf_94 : decode cB_faultOf 94 = .ok (.lcmp, 1) := by decide +kernel
theorem dB_faultOf_95 : decode cB_faultOf 95 = .ok (.ifCond .lt 12, 3) := by decide +kernel
theorem dB_faultOf_98 : decode cB_faultOf 98 = .ok (.lload 5, 2) := by decide +kernel
theorem dB_faultOf_100 : decode cB_faultOf 100 = .ok (.ldc2_w 26, 3) := by decide +kernel
theorem dB_faultOf_103 : decode cB_faultOf 103 = .ok (.lcmp, 1) := by decide +kernel
theorem dB_faultOf_104 : decode cB_faultOf 104 = .ok (.ifCond .le 7, 3) := by decide +kernel
theorem dB_faultOf_107 : decode cB_faultOf 107 = .ok (.iconst 4, 1) := by decide +kernel
theorem dB_faultOf_108 : decode cB_faultOf 108 = .ok (.goto 4, 3) := by decide +kernel
theorem dB_faultOf_111 : decode cB_faultOf 111 = .ok (.iconst 0, 1) := by decide +kernel
theorem dB_faultOf_112 : decode cB_faultOf 112 = .ok (.ireturn, 1) := by decide +kernel
