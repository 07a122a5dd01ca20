theorem mem_q {big : List Cond} (ws : List Cond) (ps : List Nat) (hp : ws = ps.filterMap (fun i => big[i]?)) : ∀ w ∈ ws, w ∈ big := by
  intro w hw
  rw [hp] at hw
  obtain ⟨i, -, hi⟩ := List.mem_filterMap.mp hw
  exact List.mem_of_getElem? hi
set_option maxRecDepth 20000 in
theorem inL_1 : ∀ w ∈ wL_law_r1, w ∈ lw_tbl := mem_q _ [30, 31, 20, 311, 312, 19, 32, 33, 314, 315, 29, 316, 317, 470, 171, 172, 173, 431, 432, 433, 244, 245, 246, 437] (by decide +kernel)
set_option maxRecDepth 20000 in
theorem inL_2 : ∀ w ∈ wL_law_r2, w ∈ lw_tbl := mem_q _ [438, 439, 256, 180, 181, 414, 415, 416, 257, 225, 226, 427, 428, 429, 258, 259, 260, 441, 442, 443, 262, 263, 264, 445] (by decide +kernel)
set_option maxRecDepth 20000 in
theorem inL_3 : ∀ w ∈ wL_law_r3, w ∈ lw_tbl := mem_q _ [446, 447, 267, 268, 269, 449, 450, 451, 271, 272, 273, 453, 454, 455, 275, 276, 277, 458, 459, 460, 279, 280, 281, 406] (by decide +kernel)
set_option maxRecDepth 20000 in
theorem inL_4 : ∀ w ∈ wL_law_r4, w ∈ lw_tbl := mem_q _ [407, 408, 283, 284, 285, 462, 463, 464, 287, 288, 289, 466, 467, 468, 292, 293, 294, 378, 379, 380, 301, 302, 303, 387] (by decide +kernel)
set_option maxRecDepth 20000 in
theorem inL_5 : ∀ w ∈ wL_law_r5, w ∈ lw_tbl := mem_q _ [388, 389, 306, 307, 308, 395, 396, 397, 313, 34, 35, 36, 37, 131, 48, 134, 135, 136, 49, 137, 138, 50, 139, 140] (by decide +kernel)
set_option maxRecDepth 20000 in
theorem inL_6 : ∀ w ∈ wL_law_r6, w ∈ lw_tbl := mem_q _ [141, 38, 39, 21, 41, 142, 51, 52, 22, 54, 143, 71, 72, 73, 74, 75, 128, 130, 129, 28, 132, 133, 42, 43] (by decide +kernel)
set_option maxRecDepth 20000 in
theorem inL_7 : ∀ w ∈ wL_law_r7, w ∈ lw_tbl := mem_q _ [44, 55, 56, 58, 59, 60, 57, 61, 76, 77, 79, 0, 93, 95, 1, 80, 81, 82, 23, 92, 83, 84, 85, 91] (by decide +kernel)
set_option maxRecDepth 20000 in
theorem inL_8 : ∀ w ∈ wL_law_r8, w ∈ lw_tbl := mem_q _ [86, 87, 88, 89, 90, 96, 97, 98, 24, 100, 102, 2, 114, 115, 27, 116, 117, 118, 120, 122, 3, 124, 126, 4] (by decide +kernel)
set_option maxRecDepth 20000 in
theorem inL_9 : ∀ w ∈ wL_law_r9, w ∈ lw_tbl := mem_q _ [99, 103, 104, 105, 106, 107, 108, 25, 109, 110, 111, 26, 112, 113, 119, 123, 127, 318, 319, 343, 344, 345, 346, 347] (by decide +kernel)
set_option maxRecDepth 20000 in
theorem inL_10 : ∀ w ∈ wL_law_r10, w ∈ lw_tbl := mem_q _ [348, 349, 350, 351, 352, 341, 320, 321, 322, 324, 15, 325, 342, 326, 327, 334, 336, 16, 328, 329, 330, 332, 333, 331] (by decide +kernel)
set_option maxRecDepth 20000 in
theorem inL_11 : ∀ w ∈ wL_law_r11, w ∈ lw_tbl := mem_q _ [337, 338, 339, 340, 174, 175, 177, 5, 179, 224, 232, 234, 10, 178, 182, 183, 184, 186, 6, 188, 189, 190, 187, 191] (by decide +kernel)
set_option maxRecDepth 20000 in
theorem inL_12 : ∀ w ∈ wL_law_r12, w ∈ lw_tbl := mem_q _ [192, 193, 194, 195, 196, 197, 198, 199, 200, 202, 7, 206, 208, 8, 210, 211, 214, 215, 216, 217, 203, 204, 205, 209] (by decide +kernel)
set_option maxRecDepth 20000 in
theorem inL_13 : ∀ w ∈ wL_law_r13, w ∈ lw_tbl := mem_q _ [213, 212, 218, 219, 220, 223, 221, 222, 227, 228, 230, 9, 231, 235, 236, 238, 11, 240, 242, 12, 239, 243, 434, 410] (by decide +kernel)
set_option maxRecDepth 20000 in
theorem inL_14 : ∀ w ∈ wL_law_r14, w ∈ lw_tbl := mem_q _ [412, 17, 435, 436, 413, 417, 418, 419, 420, 421, 422, 423, 425, 18, 399, 400, 409, 426, 385, 401, 402, 403, 405, 404] (by decide +kernel)
set_option maxRecDepth 20000 in
theorem inL_15 : ∀ w ∈ wL_law_r15, w ∈ lw_tbl := mem_q _ [430, 247, 248, 250, 13, 252, 254, 14, 251, 255, 440, 261, 444, 265, 266, 448, 392, 393, 394, 270, 452, 274, 456, 457] (by decide +kernel)
set_option maxRecDepth 20000 in
theorem inL_16 : ∀ w ∈ wL_law_r16, w ∈ lw_tbl := mem_q _ [278, 461, 282, 286, 465, 290, 291, 469, 295, 296, 297, 298, 299, 300, 381, 382, 383, 386, 384, 304, 305, 390, 391, 309] (by decide +kernel)
set_option maxRecDepth 20000 in
theorem inL_17 : ∀ w ∈ wL_law_r17, w ∈ lw_tbl := mem_q _ [310, 398] (by decide +kernel)
set_option maxRecDepth 20000 in
theorem inL_R : ∀ w ∈ uR, w ∈ lw_tbl := by decide +kernel
set_option maxRecDepth 20000 in
theorem inL_W : ∀ w ∈ uW, w ∈ lw_tbl := by decide +kernel
set_option maxRecDepth 20000 in
theorem inL_T : ∀ w ∈ uT, w ∈ lw_tbl := by decide +kernel
set_option maxRecDepth 20000 in
theorem inL_M : ∀ w ∈ uM, w ∈ lw_tbl := by decide +kernel
def wLw : List Cond := (wL_law_r1 ++ (wL_law_r2 ++ (wL_law_r3 ++ (wL_law_r4 ++ (wL_law_r5 ++ (wL_law_r6 ++ (wL_law_r7 ++ (wL_law_r8 ++ (wL_law_r9 ++ (wL_law_r10 ++ (wL_law_r11 ++ (wL_law_r12 ++ (wL_law_r13 ++ (wL_law_r14 ++ (wL_law_r15 ++ (wL_law_r16 ++ wL_law_r17)))))))))))))))) ++ uR ++ uW ++ uT ++ uM
theorem inLw : ∀ w ∈ wLw, w ∈ lw_tbl := List.forall_mem_append.mpr ⟨(List.forall_mem_append.mpr ⟨(List.forall_mem_append.mpr ⟨(List.forall_mem_append.mpr ⟨(List.forall_mem_append.mpr ⟨inL_1, (List.forall_mem_append.mpr ⟨inL_2, (List.forall_mem_append.mpr ⟨inL_3, (List.forall_mem_append.mpr ⟨inL_4, (List.forall_mem_append.mpr ⟨inL_5, (List.forall_mem_append.mpr ⟨inL_6, (List.forall_mem_append.mpr ⟨inL_7, (List.forall_mem_append.mpr ⟨inL_8, (List.forall_mem_append.mpr ⟨inL_9, (List.forall_mem_append.mpr ⟨inL_10, (List.forall_mem_append.mpr ⟨inL_11, (List.forall_mem_append.mpr ⟨inL_12, (List.forall_mem_append.mpr ⟨inL_13, (List.forall_mem_append.mpr ⟨inL_14, (List.forall_mem_append.mpr ⟨inL_15, (List.forall_mem_append.mpr ⟨inL_16, inL_17⟩)⟩)⟩)⟩)⟩)⟩)⟩)⟩)⟩)⟩)⟩)⟩)⟩)⟩)⟩)⟩), inL_R⟩), inL_W⟩), inL_T⟩), inL_M⟩
