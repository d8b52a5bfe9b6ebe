/-! words of the methods that throw -/
set_option maxRecDepth 40000 in
theorem gg_X7_of_X1_has : GoodIn wsX7_of wsX1_has := goodIn_r _ [15, 16, 17, 18, 19, 227, 228, 229, 230, 231, 232, 233, 234, 235] rfl gw_X1_has
set_option maxRecDepth 40000 in
theorem gX7_of_X1_has : GoodIn wsX7_of (wsV RX7 120 RX1 yX1_has wsX1_has) := goodIn_app (goodIn_r _ [11, 12, 13, 14] rfl rfl) gg_X7_of_X1_has
set_option maxRecDepth 40000 in
theorem gg_X7_of_X1_look : GoodIn wsX7_of wsX1_look := goodIn_r _ [23, 24, 25, 26, 227, 228, 229, 230, 231, 232, 233, 234, 235] rfl gw_X1_look
set_option maxRecDepth 40000 in
theorem gX7_of_X1_look : GoodIn wsX7_of (wsV RX7 168 RX1 yX1_look wsX1_look) := goodIn_app (goodIn_r _ [20, 21, 22, 14] rfl rfl) gg_X7_of_X1_look
set_option maxRecDepth 40000 in
theorem gg_X7_of_X7_freshTree : GoodIn wsX7_of wsX7_freshTree := goodIn_r _ [30, 31, 32, 33, 34, 35, 36, 37, 38, 39, 40, 41, 42, 43, 44, 45, 46, 47, 48, 49, 14, 50, 51, 52, 16, 53, 54, 55, 56, 57, 24, 58, 59, 60, 61, 62, 63, 64, 65, 66, 67, 68, 69, 70, 71, 72, 73, 74, 75, 76, 77, 78, 79, 80, 81, 82, 83, 84, 85, 86, 87, 88, 89, 90, 91, 92, 93, 94, 95, 96, 97, 98, 99, 100, 101, 102, 103, 104, 105, 106, 21, 22, 23, 25, 26, 107, 108, 109, 110, 111, 112, 113, 114, 115, 116, 117, 118, 119, 120, 121, 122, 123, 124, 125, 126, 127, 128, 129, 130, 131, 132, 133, 134, 135, 136, 137, 138, 139, 140, 141, 142, 143, 144, 145, 218, 219, 220, 221, 222, 223, 224, 225, 226, 236, 237, 238, 239, 240, 241, 242, 243, 244, 245, 246, 247, 248, 249, 250, 227, 228, 229, 230, 231, 232, 233, 234, 235, 268, 269, 270, 271, 272] rfl gw_X7_freshTree
set_option maxRecDepth 40000 in
theorem gX7_of_X7_freshTree : GoodIn wsX7_of (wsV RX7 135 RX7 yX7_freshTree wsX7_freshTree) := goodIn_app (goodIn_r _ [27, 28, 29, 18] rfl rfl) gg_X7_of_X7_freshTree
set_option maxRecDepth 40000 in
theorem gw_X6_lastPage : wsX6_lastPage.all goodWord = true := rfl
set_option maxRecDepth 40000 in
theorem gg_X7_of_X6_lastPage : GoodIn wsX7_of wsX6_lastPage := goodIn_r _ [149, 139, 39, 40, 150, 236, 237, 238, 239, 240, 241, 242, 243, 244, 245, 246, 247, 248, 249, 250, 227, 228, 229, 230, 231, 232, 233, 234, 235] rfl gw_X6_lastPage
set_option maxRecDepth 40000 in
theorem gX7_of_X6_lastPage : GoodIn wsX7_of (wsV RX7 180 RX6 yX6_lastPage wsX6_lastPage) := goodIn_app (goodIn_r _ [146, 147, 148, 37] rfl rfl) gg_X7_of_X6_lastPage
set_option maxRecDepth 40000 in
theorem gg_X7_of_X7_freshListing : GoodIn wsX7_of wsX7_freshListing := goodIn_r _ [154, 33, 155, 27, 28, 29, 18, 30, 31, 32, 34, 35, 36, 37, 38, 39, 40, 41, 42, 43, 44, 45, 46, 47, 48, 49, 14, 50, 51, 52, 16, 53, 54, 55, 56, 57, 24, 58, 59, 60, 61, 62, 63, 64, 65, 66, 67, 68, 69, 70, 71, 72, 73, 74, 75, 76, 77, 78, 79, 80, 81, 82, 83, 84, 85, 86, 87, 88, 89, 90, 91, 92, 93, 94, 95, 96, 97, 98, 99, 100, 101, 102, 103, 104, 105, 106, 21, 22, 23, 25, 26, 107, 108, 109, 110, 111, 112, 113, 114, 115, 116, 117, 118, 119, 120, 121, 122, 123, 124, 125, 126, 127, 128, 129, 130, 131, 132, 133, 134, 135, 136, 137, 138, 139, 140, 141, 142, 143, 144, 145, 156, 157, 158, 159, 160, 161, 162, 163, 164, 165, 166, 167, 168, 169, 170, 171, 172, 173, 174, 175, 176, 177, 178, 179, 180, 181, 182, 183, 184, 185, 186, 187, 188, 189, 190, 191, 192, 193, 194, 195, 196, 197, 198, 199, 200, 201, 202, 203, 204, 205, 206, 207, 208, 209, 210, 211, 212, 213, 218, 219, 220, 221, 222, 223, 224, 225, 226, 236, 237, 238, 239, 240, 241, 242, 243, 244, 245, 246, 247, 248, 249, 250, 227, 228, 229, 230, 231, 232, 233, 234, 235, 268, 269, 270, 271, 272, 253, 254, 255, 256, 257, 258, 259, 260, 261, 262, 263, 264, 265, 266, 267, 251, 252] rfl gw_X7_freshListing
set_option maxRecDepth 40000 in
theorem gX7_of_X7_freshListing : GoodIn wsX7_of (wsV RX7 145 RX7 yX7_freshListing wsX7_freshListing) := goodIn_app (goodIn_r _ [151, 152, 153, 18] rfl rfl) gg_X7_of_X7_freshListing
set_option maxRecDepth 40000 in
theorem gw_X6_headAbove : wsX6_headAbove.all goodWord = true := rfl
set_option maxRecDepth 40000 in
theorem gg_X7_of_X6_headAbove : GoodIn wsX7_of wsX6_headAbove := goodIn_r _ [217, 139, 236, 237, 238, 239, 240, 241, 242, 243, 244, 245, 246, 247, 248, 249, 250] rfl gw_X6_headAbove
set_option maxRecDepth 40000 in
theorem gX7_of_X6_headAbove : GoodIn wsX7_of (wsV RX7 187 RX6 yX6_headAbove wsX6_headAbove) := goodIn_app (goodIn_r _ [214, 215, 216, 37] rfl rfl) gg_X7_of_X6_headAbove
set_option maxRecDepth 40000 in
theorem gg_X7_shift_X3_has : GoodIn wsX7_shift wsX3_has := goodIn_r _ [9, 10, 11, 12, 13, 90, 91] rfl gw_X3_has
set_option maxRecDepth 40000 in
theorem gX7_shift_X3_has : GoodIn wsX7_shift (wsV RX7 83 RX3 yX3_has wsX3_has) := goodIn_app (goodIn_r _ [5, 6, 7, 8] rfl rfl) gg_X7_shift_X3_has
set_option maxRecDepth 40000 in
theorem gg_X7_shift_X7_freshShifts : GoodIn wsX7_shift wsX7_freshShifts := goodIn_r _ [17, 18, 19, 20, 21, 22, 23, 24, 25, 26, 27, 28, 29, 30, 31, 32, 33, 34, 35, 36, 37, 38, 39, 40, 41, 42, 43, 44, 45, 46, 47, 48, 49, 50, 51, 52, 53, 54, 55, 56, 57, 58, 59, 60, 61, 62, 63, 64, 65, 66, 67, 68, 69, 70, 71, 72, 73, 74, 75, 76, 77, 78, 79, 80, 81, 82, 83, 84, 85, 86, 87, 88, 89, 90, 91, 92, 93, 94] rfl gw_X7_freshShifts
set_option maxRecDepth 40000 in
theorem gX7_shift_X7_freshShifts : GoodIn wsX7_shift (wsV RX7 150 RX7 yX7_freshShifts wsX7_freshShifts) := goodIn_app (goodIn_r _ [14, 15, 16, 12] rfl rfl) gg_X7_shift_X7_freshShifts
def wf_X7_of : List Cond := .code yX7_of cX7_of 3 (some .int) :: ((wsX7_of_r1 ++ (wsX7_of_r2 ++ (wsX7_of_r3 ++ (wsX7_of_r4 ++ (wsX7_of_r5 ++ (wsX7_of_r6 ++ (wsX7_of_r7 ++ (wsX7_of_r8 ++ (wsX7_of_r9 ++ wsX7_of_r10))))))))) ++ wsX70 ++ wsX10 ++ wsX60 ++ wsX30 ++ wsX20 ++ wsX40 ++ wsX00)
set_option maxRecDepth 40000 in
theorem gwf_X7_of : wf_X7_of.all goodWord = true := rfl
set_option maxRecDepth 40000 in
theorem ggf_L_of_X7_of : GoodIn wsL_of wf_X7_of := goodIn_r _ [6, 7, 8, 9, 10, 11, 12, 13, 14, 15, 16, 17, 18, 19, 20, 21, 22, 23, 5, 24, 25, 26, 27, 28, 29, 30, 31, 32, 33, 34, 35, 36, 37, 38, 39, 40, 41, 42, 43, 44, 45, 46, 47, 48, 49, 50, 51, 52, 53, 54, 55, 56, 57, 58, 59, 60, 61, 62, 63, 64, 65, 66, 67, 68, 69, 70, 71, 72, 73, 74, 75, 76, 77, 78, 79, 80, 81, 82, 83, 84, 85, 86, 87, 88, 89, 90, 91, 92, 93, 94, 95, 96, 97, 98, 99, 100, 101, 102, 103, 104, 105, 106, 107, 108, 109, 110, 111, 112, 113, 114, 115, 116, 117, 118, 119, 120, 121, 122, 123, 124, 125, 126, 127, 128, 129, 130, 131, 132, 133, 134, 135, 136, 137, 138, 139, 140, 141, 142, 143, 144, 145, 146, 147, 148, 149, 150, 151, 152, 153, 154, 155, 156, 157, 158, 159, 160, 161, 162, 163, 164, 165, 166, 167, 168, 169, 170, 171, 172, 173, 174, 175, 176, 177, 178, 179, 180, 181, 182, 183, 184, 185, 186, 187, 188, 189, 190, 191, 192, 193, 194, 195, 196, 197, 198, 199, 200, 201, 202, 203, 204, 205, 206, 207, 208, 209, 210, 211, 212, 213, 214, 215, 216, 217, 218, 219, 220, 221, 222, 223, 224, 225, 226, 227, 228, 229, 230, 231, 232, 233, 234, 235, 236, 237, 238, 239, 240, 241, 242, 243, 244, 245, 246, 247, 248, 249, 250, 251, 252, 253, 254, 255, 256, 257, 258, 259, 260, 261, 262, 263, 264, 265, 266, 267, 268, 269, 270, 271, 272, 273, 274, 275, 276, 277] rfl gwf_X7_of
theorem gg_L_of_X7_of : GoodIn wsL_of wsX7_of := goodIn_ca ggf_L_of_X7_of (goodIn_sub (fun _ h => List.mem_cons_of_mem _ (List.mem_append_right _ h)) (List.all_eq_true.mpr (fun _ h => (List.mem_filter.mp h).2)))
set_option maxRecDepth 40000 in
theorem gL_of_X7_of : GoodIn wsL_of (wsV RL 7 RX7 yX7_of wsX7_of) := goodIn_app (goodIn_r _ [2, 3, 4, 5] rfl rfl) gg_L_of_X7_of
def wf_X7_shift : List Cond := .code yX7_shift cX7_shift 2 (some .int) :: ((wsX7_shift_r1 ++ (wsX7_shift_r2 ++ wsX7_shift_r3)) ++ wsX70 ++ wsX50 ++ wsX30 ++ wsX40)
set_option maxRecDepth 40000 in
theorem gwf_X7_shift : wf_X7_shift.all goodWord = true := rfl
set_option maxRecDepth 40000 in
theorem ggf_L_shift_X7_shift : GoodIn wsL_shift wf_X7_shift := goodIn_r _ [6, 7, 8, 9, 10, 11, 12, 13, 14, 15, 16, 17, 5, 18, 19, 20, 21, 22, 23, 24, 25, 26, 27, 28, 29, 30, 31, 32, 33, 34, 35, 36, 37, 38, 39, 40, 41, 42, 43, 44, 45, 46, 47, 48, 49, 50, 51, 52, 53, 54, 55, 56, 57, 58, 59, 60, 61, 62, 63, 64, 65, 66, 67, 68, 69, 70, 71, 72, 73, 74, 75, 76, 77, 78, 79, 80, 81, 82, 83, 84, 85, 86, 87, 88, 89, 90, 91, 92, 93, 94, 95, 96, 97, 98, 99] rfl gwf_X7_shift
theorem gg_L_shift_X7_shift : GoodIn wsL_shift wsX7_shift := goodIn_ca ggf_L_shift_X7_shift (goodIn_sub (fun _ h => List.mem_cons_of_mem _ (List.mem_append_right _ h)) (List.all_eq_true.mpr (fun _ h => (List.mem_filter.mp h).2)))
set_option maxRecDepth 40000 in
theorem gL_shift_X7_shift : GoodIn wsL_shift (wsV RL 15 RX7 yX7_shift wsX7_shift) := goodIn_app (goodIn_r _ [2, 3, 4, 5] rfl rfl) gg_L_shift_X7_shift
