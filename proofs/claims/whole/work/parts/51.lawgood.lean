theorem iLw_R : ∀ w ∈ uR, w ∈ wLw := by decide +kernel
theorem iLw_W : ∀ w ∈ uW, w ∈ wLw := by decide +kernel
theorem iLw_T : ∀ w ∈ uT, w ∈ wLw := by decide +kernel
theorem iLw_M : ∀ w ∈ uM, w ∈ wLw := by decide +kernel
set_option maxRecDepth 20000 in
theorem ggLw_L_cell : GoodIn wLw wL_cell := goodIn_q _ [104] (by decide +kernel) (by decide +kernel)
set_option maxRecDepth 20000 in
theorem gLw_L_cell_9 : GoodIn wLw (va_wsS RL 9 yL_cell wL_cell) := goodIn_pp (goodIn_of _ (by decide +kernel)) ggLw_L_cell
set_option maxRecDepth 20000 in
theorem ggLw_T_init : GoodIn wLw wT_init := goodIn_q _ [105, 106, 107, 108, 109, 110, 111, 112, 113, 114, 115, 116, 117, 118, 119, 120, 121, 122, 123, 124, 125, 126, 127, 128, 129, 130, 131, 132, 133, 134, 135, 136, 137, 138, 139, 140, 141, 142, 143, 144, 145, 146, 147, 148, 149, 150, 151, 152, 153, 154, 155, 156, 157, 158, 159, 160, 161, 162, 163, 164, 165, 166, 167, 168, 169, 170, 171, 172, 173, 174, 175, 176, 177, 178, 179, 180, 181, 182, 183, 184, 185, 186, 187, 188, 189, 190, 191, 192, 193, 194, 195, 196, 197, 198, 199, 200, 201, 202, 203, 204, 205, 206, 207, 208, 386, 387, 388, 389, 390, 391, 392, 393, 394, 395, 396, 397, 398, 399, 400, 401, 402, 403] (by decide +kernel) (by decide +kernel)
set_option maxRecDepth 20000 in
set_option maxRecDepth 20000 in
theorem ggLw_M_init : GoodIn wLw wM_init := goodIn_q _ [209, 210, 107, 108, 110, 211, 212, 114, 213, 214, 117, 215, 216, 217, 218, 219, 220, 221, 222, 223, 224, 225, 226, 10, 227, 228, 229, 230, 231, 232, 233, 234, 235, 236, 237, 238, 239, 240, 241, 242, 243, 404, 405, 406, 407, 408, 409, 410, 411, 412, 413, 414, 415] (by decide +kernel) (by decide +kernel)
set_option maxRecDepth 20000 in
set_option maxRecDepth 20000 in
theorem ggLw_T_add : GoodIn wLw wT_add := goodIn_q _ [244, 245, 246, 247, 2, 118, 248, 27, 28, 249, 33, 34, 131, 140, 109, 250, 251, 252, 253, 254, 255, 112, 116, 256, 257, 258, 125, 115, 259, 260, 261, 123, 262, 111, 263, 264, 265, 266, 267, 182, 268, 269, 270, 271, 272, 273, 274, 275, 276, 277, 144, 278, 279, 162, 280, 281, 282, 283, 284, 285, 161, 286, 164, 165, 166, 167, 168, 169, 170, 171, 172, 287, 288, 289, 290, 291, 292, 293, 294, 295, 296, 297, 298, 299, 120, 300, 301, 113, 130, 133, 134, 135, 128, 302, 303, 304, 141, 305, 306, 307, 152, 151, 153, 154, 155, 156, 157, 158, 149, 159, 160, 147, 163, 173, 148, 174, 175, 176, 177, 178, 179, 180, 181, 183, 184, 185, 186, 187, 188, 189, 190, 191, 192, 193, 194, 195, 196, 197, 198, 199, 200, 201, 202, 203, 204, 205, 206, 207, 208, 308, 119, 309, 386, 387, 388, 389, 390, 391, 392, 393, 394, 395, 396, 397, 398, 399, 400, 401, 402, 403] (by decide +kernel) (by decide +kernel)
set_option maxRecDepth 20000 in
theorem gLw_T_add_23 : GoodIn wLw (wsV RL 23 RT yT_add wT_add) := goodIn_pp (goodIn_of _ (by decide +kernel)) ggLw_T_add
set_option maxRecDepth 20000 in
theorem ggLw_M_add : GoodIn wLw wM_add := goodIn_q _ [310, 311, 312, 313, 10, 215, 314, 30, 31, 222, 315, 36, 37, 228, 221, 224, 225, 226, 316, 317, 318, 212, 214, 213, 319, 72, 73, 320, 321, 217, 229, 230, 322, 323, 324, 325, 223, 218, 241, 242, 326, 327, 328, 211, 234, 235, 236, 237, 238, 239, 329, 330, 243, 331, 332, 333, 334, 335, 336, 220, 227, 231, 232, 233, 216, 240, 219, 404, 405, 406, 407, 408, 409, 410, 411, 412, 413, 414, 415] (by decide +kernel) (by decide +kernel)
set_option maxRecDepth 20000 in
theorem gLw_M_add_27 : GoodIn wLw (wsV RL 27 RM yM_add wM_add) := goodIn_pp (goodIn_of _ (by decide +kernel)) ggLw_M_add
set_option maxRecDepth 20000 in
theorem ggLw_T_spoil : GoodIn wLw wT_spoil := goodIn_q _ [337, 245, 246, 247, 2, 118, 338, 339, 340, 141, 341, 342, 343, 253, 140, 344, 111, 345, 305, 306, 307, 309, 119, 391, 392, 393, 394, 395, 396, 397, 398, 399, 400, 401, 402, 403] (by decide +kernel) (by decide +kernel)
set_option maxRecDepth 20000 in
theorem gLw_T_spoil_28 : GoodIn wLw (wsV RL 28 RT yT_spoil wT_spoil) := goodIn_pp (goodIn_of _ (by decide +kernel)) ggLw_T_spoil
set_option maxRecDepth 20000 in
theorem ggLw_M_spoil : GoodIn wLw wM_spoil := goodIn_q _ [346, 311, 312, 313, 10, 215, 228, 212, 319, 72, 73, 316, 328, 211, 404, 405, 406, 407, 408, 409, 410, 411, 412, 413, 414, 415] (by decide +kernel) (by decide +kernel)
set_option maxRecDepth 20000 in
theorem gLw_M_spoil_32 : GoodIn wLw (wsV RL 32 RM yM_spoil wM_spoil) := goodIn_pp (goodIn_of _ (by decide +kernel)) ggLw_M_spoil
set_option maxRecDepth 20000 in
theorem ggLw_T_must : GoodIn wLw wT_must := goodIn_q _ [254, 245, 246, 247, 2, 255, 112, 116, 256, 257, 258, 125, 115, 259, 260, 261, 123, 253, 140, 262, 111, 263, 264, 265, 266, 267, 182, 268, 269, 270, 271, 272, 273, 274, 275, 276, 277, 144, 278, 279, 162, 280, 281, 282, 283, 284, 285, 161, 286, 164, 165, 166, 167, 168, 169, 170, 171, 172, 287, 288, 289, 290, 291, 292, 293, 294, 295, 386, 391, 392, 393, 394, 395, 396, 397, 398, 399, 400, 401, 402, 403] (by decide +kernel) (by decide +kernel)
set_option maxRecDepth 20000 in
theorem gLw_T_must_33 : GoodIn wLw (wsV RL 33 RT yT_must wT_must) := goodIn_pp (goodIn_of _ (by decide +kernel)) ggLw_T_must
set_option maxRecDepth 20000 in
theorem ggLw_M_must : GoodIn wLw wM_must := goodIn_q _ [317, 311, 312, 313, 10, 318, 212, 214, 213, 319, 72, 73, 320, 321, 217, 229, 230, 322, 323, 324, 325, 223, 218, 241, 242, 326, 327, 316, 228, 328, 211, 234, 235, 236, 237, 238, 239, 329, 330, 243, 331, 332, 333, 334, 335, 404, 405, 406, 407, 408, 409, 410, 411, 412, 413, 414, 415] (by decide +kernel) (by decide +kernel)
set_option maxRecDepth 20000 in
theorem gLw_M_must_37 : GoodIn wLw (wsV RL 37 RM yM_must wM_must) := goodIn_pp (goodIn_of _ (by decide +kernel)) ggLw_M_must
set_option maxRecDepth 20000 in
theorem ggLw_T_median : GoodIn wLw wT_median := goodIn_q _ [296, 245, 246, 247, 2, 255, 115, 297, 298, 299, 111, 120, 253, 140, 300, 391, 392, 393, 394, 395, 396, 397, 398, 399, 400, 401, 402, 403] (by decide +kernel) (by decide +kernel)
set_option maxRecDepth 20000 in
theorem gLw_T_median_38 : GoodIn wLw (wsV RL 38 RT yT_median wT_median) := goodIn_pp (goodIn_of _ (by decide +kernel)) ggLw_T_median
set_option maxRecDepth 20000 in
theorem ggLw_M_median : GoodIn wLw wM_median := goodIn_q _ [336, 311, 312, 313, 10, 318, 220, 213, 211, 316, 228, 404, 405, 406, 407, 408, 409, 410, 411, 412, 413, 414, 415] (by decide +kernel) (by decide +kernel)
set_option maxRecDepth 20000 in
theorem gLw_M_median_41 : GoodIn wLw (wsV RL 41 RM yM_median wM_median) := goodIn_pp (goodIn_of _ (by decide +kernel)) ggLw_M_median
set_option maxRecDepth 20000 in
theorem ggLw_T_look : GoodIn wLw wT_look := goodIn_q _ [347, 245, 246, 247, 2, 255, 111, 112, 115, 116, 118, 113, 253, 140, 391, 392, 393, 394, 395, 396, 397, 398, 399, 400, 401, 402, 403] (by decide +kernel) (by decide +kernel)
set_option maxRecDepth 20000 in
theorem gLw_T_look_42 : GoodIn wLw (wsV RL 42 RT yT_look wT_look) := goodIn_pp (goodIn_of _ (by decide +kernel)) ggLw_T_look
set_option maxRecDepth 20000 in
theorem ggLw_M_look : GoodIn wLw wM_look := goodIn_q _ [348, 311, 312, 313, 10, 318, 228, 211, 212, 213, 214, 215, 316, 404, 405, 406, 407, 408, 409, 410, 411, 412, 413, 414, 415] (by decide +kernel) (by decide +kernel)
set_option maxRecDepth 20000 in
theorem gLw_M_look_46 : GoodIn wLw (wsV RL 46 RM yM_look wM_look) := goodIn_pp (goodIn_of _ (by decide +kernel)) ggLw_M_look
set_option maxRecDepth 20000 in
theorem ggLw_T_work : GoodIn wLw wT_work := goodIn_q _ [349, 245, 246, 247, 2, 119, 350, 279, 162, 253, 140, 289, 391, 392, 393, 394, 395, 396, 397, 398, 399, 400, 401, 402, 403] (by decide +kernel) (by decide +kernel)
set_option maxRecDepth 20000 in
theorem gLw_T_work_47 : GoodIn wLw (wsV RL 47 RT yT_work wT_work) := goodIn_pp (goodIn_of _ (by decide +kernel)) ggLw_T_work
set_option maxRecDepth 20000 in
theorem ggLw_M_work : GoodIn wLw wM_work := goodIn_q _ [351, 311, 312, 313, 10, 216, 352, 353, 316, 228, 354, 404, 405, 406, 407, 408, 409, 410, 411, 412, 413, 414, 415] (by decide +kernel) (by decide +kernel)
set_option maxRecDepth 20000 in
theorem gLw_M_work_50 : GoodIn wLw (wsV RL 50 RM yM_work wM_work) := goodIn_pp (goodIn_of _ (by decide +kernel)) ggLw_M_work
set_option maxRecDepth 20000 in
theorem ggLw_T_compare : GoodIn wLw wT_compare := goodIn_q _ [355, 245, 246, 247, 2, 305, 306, 307, 253, 140, 309, 119, 391, 392, 393, 394, 395, 396, 397, 398, 399, 400, 401, 402, 403] (by decide +kernel) (by decide +kernel)
set_option maxRecDepth 20000 in
theorem gLw_T_compare_51 : GoodIn wLw (wsV RL 51 RT yT_compare wT_compare) := goodIn_pp (goodIn_of _ (by decide +kernel)) ggLw_T_compare
set_option maxRecDepth 20000 in
theorem ggLw_M_compare : GoodIn wLw wM_compare := goodIn_q _ [356, 311, 312, 313, 10, 216, 316, 228, 404, 405, 406, 407, 408, 409, 410, 411, 412, 413, 414, 415] (by decide +kernel) (by decide +kernel)
set_option maxRecDepth 20000 in
theorem gLw_M_compare_55 : GoodIn wLw (wsV RL 55 RM yM_compare wM_compare) := goodIn_pp (goodIn_of _ (by decide +kernel)) ggLw_M_compare
set_option maxRecDepth 20000 in
theorem ggLw_T_tip : GoodIn wLw wT_tip := goodIn_q _ [357, 141, 391, 392, 393, 394, 395, 396, 397, 398, 399, 400, 401, 402, 403] (by decide +kernel) (by decide +kernel)
set_option maxRecDepth 20000 in
theorem gLw_T_tip_56 : GoodIn wLw (wsV RL 56 RT yT_tip wT_tip) := goodIn_pp (goodIn_of _ (by decide +kernel)) ggLw_T_tip
set_option maxRecDepth 20000 in
theorem ggLw_M_tip : GoodIn wLw wM_tip := goodIn_q _ [358, 228, 215, 359, 54, 55, 10, 356, 311, 312, 313, 216, 316, 404, 405, 406, 407, 408, 409, 410, 411, 412, 413, 414, 415] (by decide +kernel) (by decide +kernel)
set_option maxRecDepth 20000 in
theorem gLw_M_tip_60 : GoodIn wLw (wsV RL 60 RM yM_tip wM_tip) := goodIn_pp (goodIn_of _ (by decide +kernel)) ggLw_M_tip
set_option maxRecDepth 20000 in
theorem ggLw_T_size : GoodIn wLw wT_size := goodIn_q _ [360, 140, 391, 392, 393, 394, 395, 396, 397, 398, 399, 400, 401, 402, 403] (by decide +kernel) (by decide +kernel)
set_option maxRecDepth 20000 in
theorem gLw_T_size_61 : GoodIn wLw (wsV RL 61 RT yT_size wT_size) := goodIn_pp (goodIn_of _ (by decide +kernel)) ggLw_T_size
set_option maxRecDepth 20000 in
theorem ggLw_M_size : GoodIn wLw wM_size := goodIn_q _ [361, 228, 404, 405, 406, 407, 408, 409, 410, 411, 412, 413, 414, 415] (by decide +kernel) (by decide +kernel)
set_option maxRecDepth 20000 in
theorem gLw_M_size_64 : GoodIn wLw (wsV RL 64 RM yM_size wM_size) := goodIn_pp (goodIn_of _ (by decide +kernel)) ggLw_M_size
set_option maxRecDepth 20000 in
theorem ggLw_T_below : GoodIn wLw wT_below := goodIn_q _ [362, 245, 246, 247, 2, 112, 256, 257, 258, 253, 140, 262, 111, 391, 392, 393, 394, 395, 396, 397, 398, 399, 400, 401, 402, 403] (by decide +kernel) (by decide +kernel)
set_option maxRecDepth 20000 in
theorem gLw_T_below_65 : GoodIn wLw (wsV RL 65 RT yT_below wT_below) := goodIn_pp (goodIn_of _ (by decide +kernel)) ggLw_T_below
set_option maxRecDepth 20000 in
theorem ggLw_M_below : GoodIn wLw wM_below := goodIn_q _ [328, 311, 312, 313, 10, 212, 211, 316, 228, 404, 405, 406, 407, 408, 409, 410, 411, 412, 413, 414, 415] (by decide +kernel) (by decide +kernel)
set_option maxRecDepth 20000 in
theorem gLw_M_below_68 : GoodIn wLw (wsV RL 68 RM yM_below wM_below) := goodIn_pp (goodIn_of _ (by decide +kernel)) ggLw_M_below
set_option maxRecDepth 20000 in
theorem ggLw_T_fork : GoodIn wLw wT_fork := goodIn_q _ [363, 245, 246, 247, 2, 140, 111, 253, 391, 392, 393, 394, 395, 396, 397, 398, 399, 400, 401, 402, 403] (by decide +kernel) (by decide +kernel)
set_option maxRecDepth 20000 in
theorem gLw_T_fork_69 : GoodIn wLw (wsV RL 69 RT yT_fork wT_fork) := goodIn_pp (goodIn_of _ (by decide +kernel)) ggLw_T_fork
set_option maxRecDepth 20000 in
theorem ggLw_M_fork : GoodIn wLw wM_fork := goodIn_q _ [364, 311, 312, 313, 10, 212, 319, 72, 73, 211, 316, 228, 328, 404, 405, 406, 407, 408, 409, 410, 411, 412, 413, 414, 415] (by decide +kernel) (by decide +kernel)
set_option maxRecDepth 20000 in
theorem gLw_M_fork_72 : GoodIn wLw (wsV RL 72 RM yM_fork wM_fork) := goodIn_pp (goodIn_of _ (by decide +kernel)) ggLw_M_fork
set_option maxRecDepth 20000 in
theorem ggLw_T_row : GoodIn wLw wT_row := goodIn_q _ [365, 245, 246, 247, 2, 112, 366, 181, 182, 183, 256, 257, 258, 253, 140, 262, 111, 391, 392, 393, 394, 395, 396, 397, 398, 399, 400, 401, 402, 403] (by decide +kernel) (by decide +kernel)
set_option maxRecDepth 20000 in
theorem gLw_T_row_73 : GoodIn wLw (wsV RL 73 RT yT_row wT_row) := goodIn_pp (goodIn_of _ (by decide +kernel)) ggLw_T_row
set_option maxRecDepth 20000 in
theorem ggLw_M_row : GoodIn wLw wM_row := goodIn_q _ [367, 311, 312, 313, 10, 212, 319, 72, 73, 316, 228, 328, 211, 404, 405, 406, 407, 408, 409, 410, 411, 412, 413, 414, 415] (by decide +kernel) (by decide +kernel)
set_option maxRecDepth 20000 in
theorem gLw_M_row_76 : GoodIn wLw (wsV RL 76 RM yM_row wM_row) := goodIn_pp (goodIn_of _ (by decide +kernel)) ggLw_M_row
set_option maxRecDepth 20000 in
theorem ggLw_T_fault : GoodIn wLw wT_fault := goodIn_q _ [368, 369, 370, 162, 371, 167, 169, 293, 170, 171, 372, 195, 165, 166, 373, 172, 196, 197, 198, 199, 200, 201, 202, 203, 204, 205, 168] (by decide +kernel) (by decide +kernel)
set_option maxRecDepth 20000 in
theorem gLw_T_fault_77 : GoodIn wLw (wsV RL 77 RT yT_fault wT_fault) := goodIn_pp (goodIn_of _ (by decide +kernel)) ggLw_T_fault
set_option maxRecDepth 20000 in
theorem ggLw_M_fault : GoodIn wLw wM_fault := goodIn_q _ [374, 375, 376, 10, 237, 330, 377, 217, 229, 230, 223, 218, 241, 242, 378, 222, 234, 235, 236, 238, 239, 243, 404, 405, 406, 407, 408, 409, 410, 411, 412, 413, 414, 415] (by decide +kernel) (by decide +kernel)
set_option maxRecDepth 20000 in
theorem gLw_M_fault_81 : GoodIn wLw (wsV RL 81 RM yM_fault wM_fault) := goodIn_pp (goodIn_of _ (by decide +kernel)) ggLw_M_fault
set_option maxRecDepth 20000 in
theorem ggLw_T_target : GoodIn wLw wT_target := goodIn_q _ [379, 369, 370, 162, 380, 166, 371, 167, 169, 293, 170, 171, 372, 195, 165, 373, 172, 196, 197, 198, 199, 200, 201, 202, 203, 204, 205, 168] (by decide +kernel) (by decide +kernel)
set_option maxRecDepth 20000 in
theorem gLw_T_target_82 : GoodIn wLw (wsV RL 82 RT yT_target wT_target) := goodIn_pp (goodIn_of _ (by decide +kernel)) ggLw_T_target
set_option maxRecDepth 20000 in
theorem ggLw_M_target : GoodIn wLw wM_target := goodIn_q _ [381, 382, 90, 91, 10, 217, 229, 230, 352, 353, 374, 375, 376, 237, 330, 377, 223, 218, 241, 242, 378, 222, 234, 235, 236, 238, 239, 243, 354, 404, 405, 406, 407, 408, 409, 410, 411, 412, 413, 414, 415] (by decide +kernel) (by decide +kernel)
set_option maxRecDepth 20000 in
theorem gLw_M_target_86 : GoodIn wLw (wsV RL 86 RM yM_target wM_target) := goodIn_pp (goodIn_of _ (by decide +kernel)) ggLw_M_target
set_option maxRecDepth 20000 in
theorem ggLw_T_compact : GoodIn wLw wT_compact := goodIn_q _ [383, 384, 283, 162, 290, 291, 292, 293, 294, 295] (by decide +kernel) (by decide +kernel)
set_option maxRecDepth 20000 in
theorem gLw_T_compact_87 : GoodIn wLw (wsV RL 87 RT yT_compact wT_compact) := goodIn_pp (goodIn_of _ (by decide +kernel)) ggLw_T_compact
set_option maxRecDepth 20000 in
theorem ggLw_M_compact : GoodIn wLw wM_compact := goodIn_q _ [385, 217, 235, 236, 10, 238, 326, 327, 239, 331, 332, 333, 330, 334, 335, 404, 405, 406, 407, 408, 409, 410, 411, 412, 413, 414, 415] (by decide +kernel) (by decide +kernel)
set_option maxRecDepth 20000 in
theorem gLw_M_compact_91 : GoodIn wLw (wsV RL 91 RM yM_compact wM_compact) := goodIn_pp (goodIn_of _ (by decide +kernel)) ggLw_M_compact
