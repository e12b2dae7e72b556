set_option maxRecDepth 20000 in
theorem ggL_law_X3_init : GoodIn wsL_law wsX3_init := goodIn_r _ [9, 10, 11, 12, 13, 14, 15, 16, 17, 18, 19, 20, 21, 22, 23, 24, 25, 26, 27, 28, 29, 30, 31, 32, 33, 34, 35, 36, 37, 38, 39, 40, 41, 42, 43, 44, 45, 46, 47, 48, 49, 50, 51, 704, 705, 706, 707, 708, 709, 710, 711, 712, 713, 714, 715, 716, 688, 689, 690, 691, 717, 718, 719, 720, 721, 722, 723, 724, 725, 726] (by decide +kernel) (by decide +kernel)
set_option maxRecDepth 20000 in
theorem gL_law_X3_init : GoodIn wsL_law (wsX3_init) := ggL_law_X3_init
set_option maxRecDepth 20000 in
theorem ggL_law_X4_init : GoodIn wsL_law wsX4_init := goodIn_r _ [54, 55, 11, 12, 30, 56, 57, 58, 59, 60, 692, 693, 694, 695, 696, 697, 698, 699, 700, 701, 702, 703] (by decide +kernel) (by decide +kernel)
set_option maxRecDepth 20000 in
theorem gL_law_X4_init : GoodIn wsL_law (wsX4_init) := ggL_law_X4_init
set_option maxRecDepth 20000 in
theorem ggL_law_L_write : GoodIn wsL_law wsL_write := goodIn_ca (goodIn_ca (goodIn_ca (goodIn_r _ [64, 65, 66, 67, 68, 69, 70, 2, 71, 72, 73, 16, 21, 74, 75, 76, 77, 78, 79, 80, 81, 82, 83, 84, 85, 86, 87, 88, 89, 15, 90, 34, 91, 92, 93, 94, 31, 95, 96, 97, 98, 32, 38, 99, 100, 101, 102, 103, 104, 105, 106, 107, 108, 109, 35, 110, 111, 112, 113, 33, 114, 115, 116, 117, 118, 119, 120, 121, 122, 123, 124, 20, 125, 126, 127, 44, 128, 129, 130, 131, 132, 133, 134, 135, 136, 137, 138, 139, 36, 37, 140, 141, 142, 143, 144, 145, 146, 147, 148, 149, 150, 151, 152, 153, 154, 155, 156, 157, 158, 159, 160, 161, 162, 163, 164, 688, 689, 690, 691, 704, 705, 706, 707, 708, 709, 710, 711, 712, 713, 714, 715, 716, 717, 718, 719] (by decide +kernel) (by decide +kernel)) (goodIn_sub (fun _ h => List.mem_append_left _ (List.mem_append_left _ (List.mem_append_right _ h))) (by decide +kernel))) (goodIn_sub (fun _ h => List.mem_append_left _ (List.mem_append_right _ h)) (by decide +kernel))) (goodIn_sub (fun _ h => List.mem_append_right _ h) (by decide +kernel))
set_option maxRecDepth 20000 in
theorem gL_law_L_write : GoodIn wsL_law (va_wsS RL 77 yL_write wsL_write) := goodIn_app (goodIn_of _ (by decide +kernel)) ggL_law_L_write
set_option maxRecDepth 20000 in
theorem ggL_law_X4_write : GoodIn wsL_law wsX4_write := goodIn_r _ [168, 56, 169, 170, 171, 5, 172, 173, 174, 175, 176, 177, 178, 179, 180, 181, 182, 183, 184, 185, 186, 187, 188, 189, 190, 191, 192, 193, 194, 195, 196, 197, 198, 199, 200, 201, 202, 203, 204, 205, 206, 207, 208, 209, 210, 211, 212, 213, 58, 214, 215, 216, 217, 218, 219, 220, 221, 222, 692, 693, 694, 695, 696, 697, 698, 699, 700, 701, 702, 703] (by decide +kernel) (by decide +kernel)
set_option maxRecDepth 20000 in
theorem gL_law_X4_write : GoodIn wsL_law (wsV RL 82 RX4 yX4_write wsX4_write) := goodIn_app (goodIn_of _ (by decide +kernel)) ggL_law_X4_write
set_option maxRecDepth 20000 in
theorem ggL_law_X4_thrown : GoodIn wsL_law wsX4_thrown := goodIn_r _ [226, 169, 692, 693, 694, 695, 696, 697, 698, 699, 700, 701, 702, 703] (by decide +kernel) (by decide +kernel)
set_option maxRecDepth 20000 in
theorem gL_law_X4_thrown : GoodIn wsL_law (wsV RL 83 RX4 yX4_thrown wsX4_thrown) := goodIn_app (goodIn_of _ (by decide +kernel)) ggL_law_X4_thrown
set_option maxRecDepth 20000 in
theorem ggL_law_L_hammer : GoodIn wsL_law wsL_hammer := goodIn_ca (goodIn_ca (goodIn_r _ [229, 65, 66, 230, 231, 232, 2, 233, 85, 86, 21, 16, 74, 75, 76, 77, 78, 79, 80, 81, 82, 83, 84, 122, 123, 124, 20, 125, 126, 127, 44, 128, 129, 130, 131, 132, 133, 134, 15, 135, 31, 136, 137, 138, 139, 32, 33, 34, 35, 36, 37, 38, 140, 141, 142, 143, 144, 234, 235, 236, 237, 238, 88, 89, 90, 91, 92, 93, 94, 95, 96, 97, 98, 99, 100, 101, 102, 103, 104, 105, 106, 107, 108, 109, 110, 111, 112, 113, 114, 115, 116, 117, 118, 119, 120, 121, 239, 146, 147, 148, 149, 150, 151, 152, 153, 154, 155, 156, 157, 158, 159, 160, 161, 162, 163, 164, 688, 689, 690, 691, 717, 718, 719, 704, 705, 706, 707, 708, 709, 710, 711, 712, 713, 714, 715, 716] (by decide +kernel) (by decide +kernel)) (goodIn_sub (fun _ h => List.mem_append_right _ h) (by decide +kernel))) (goodIn_sub (fun _ h => List.mem_append_left _ (List.mem_append_right _ h)) (by decide +kernel))
set_option maxRecDepth 20000 in
theorem gL_law_L_hammer : GoodIn wsL_law (va_wsS RL 86 yL_hammer wsL_hammer) := goodIn_app (goodIn_of _ (by decide +kernel)) ggL_law_L_hammer
set_option maxRecDepth 20000 in
theorem ggL_law_X4_hammer : GoodIn wsL_law wsX4_hammer := goodIn_r _ [243, 169, 56, 170, 171, 5, 172, 173, 174, 175, 176, 177, 178, 209, 210, 211, 212, 213, 58, 214, 215, 216, 244, 245, 246, 217, 218, 219, 179, 180, 181, 182, 183, 184, 185, 186, 187, 188, 189, 190, 191, 192, 193, 194, 195, 196, 197, 198, 199, 200, 201, 202, 203, 204, 205, 206, 207, 208, 220, 221, 222, 692, 693, 694, 695, 696, 697, 698, 699, 700, 701, 702, 703] (by decide +kernel) (by decide +kernel)
set_option maxRecDepth 20000 in
theorem gL_law_X4_hammer : GoodIn wsL_law (wsV RL 89 RX4 yX4_hammer wsX4_hammer) := goodIn_app (goodIn_of _ (by decide +kernel)) ggL_law_X4_hammer
set_option maxRecDepth 20000 in
theorem ggL_law_L_exchange : GoodIn wsL_law wsL_exchange := goodIn_ca (goodIn_r _ [249, 65, 250, 251, 252, 2, 253, 21, 16, 254, 74, 75, 76, 77, 78, 79, 80, 81, 122, 123, 124, 20, 125, 126, 127, 44, 128, 129, 130, 131, 132, 133, 134, 15, 135, 31, 136, 137, 138, 139, 32, 33, 34, 35, 36, 37, 38, 140, 141, 142, 143, 144, 255, 256, 257, 258, 688, 689, 690, 691, 704, 705, 706, 707, 708, 709, 710, 711, 712, 713, 714, 715, 716, 717, 718, 719] (by decide +kernel) (by decide +kernel)) (goodIn_sub (fun _ h => List.mem_append_left _ (List.mem_append_right _ h)) (by decide +kernel))
set_option maxRecDepth 20000 in
theorem gL_law_L_exchange : GoodIn wsL_law (va_wsS RL 90 yL_exchange wsL_exchange) := goodIn_app (goodIn_of _ (by decide +kernel)) ggL_law_L_exchange
set_option maxRecDepth 20000 in
theorem ggL_law_X4_exchange : GoodIn wsL_law wsX4_exchange := goodIn_r _ [262, 169, 56, 170, 171, 5, 172, 173, 174, 175, 263, 264, 265, 266, 209, 210, 211, 212, 213, 58, 214, 215, 216, 692, 693, 694, 695, 696, 697, 698, 699, 700, 701, 702, 703] (by decide +kernel) (by decide +kernel)
set_option maxRecDepth 20000 in
theorem gL_law_X4_exchange : GoodIn wsL_law (wsV RL 92 RX4 yX4_exchange wsX4_exchange) := goodIn_app (goodIn_of _ (by decide +kernel)) ggL_law_X4_exchange
set_option maxRecDepth 20000 in
theorem ggL_law_L_wear : GoodIn wsL_law wsL_wear := goodIn_ca (goodIn_ca (goodIn_ca (goodIn_r _ [269, 65, 66, 67, 270, 271, 272, 2, 273, 85, 86, 72, 73, 16, 274, 21, 275, 276, 277, 278, 77, 78, 79, 80, 81, 279, 280, 281, 282, 283, 284, 15, 285, 32, 122, 123, 124, 20, 125, 126, 127, 44, 128, 129, 130, 131, 132, 133, 134, 135, 31, 136, 137, 138, 139, 33, 34, 35, 36, 37, 38, 140, 141, 142, 143, 144, 688, 689, 690, 691, 704, 705, 706, 707, 708, 709, 710, 711, 712, 713, 714, 715, 716, 717, 718, 719] (by decide +kernel) (by decide +kernel)) (goodIn_sub (fun _ h => List.mem_append_right _ h) (by decide +kernel))) (goodIn_sub (fun _ h => List.mem_append_left _ (List.mem_append_left _ (List.mem_append_right _ h))) (by decide +kernel))) (goodIn_sub (fun _ h => List.mem_append_left _ (List.mem_append_right _ h)) (by decide +kernel))
set_option maxRecDepth 20000 in
theorem gL_law_L_wear : GoodIn wsL_law (va_wsS RL 93 yL_wear wsL_wear) := goodIn_app (goodIn_of _ (by decide +kernel)) ggL_law_L_wear
set_option maxRecDepth 20000 in
theorem ggL_law_X4_wear : GoodIn wsL_law wsX4_wear := goodIn_r _ [289, 169, 56, 290, 291, 292, 5, 293, 173, 174, 175, 263, 264, 265, 266, 197, 198, 199, 209, 210, 211, 212, 213, 58, 214, 215, 216, 692, 693, 694, 695, 696, 697, 698, 699, 700, 701, 702, 703] (by decide +kernel) (by decide +kernel)
set_option maxRecDepth 20000 in
theorem gL_law_X4_wear : GoodIn wsL_law (wsV RL 95 RX4 yX4_wear wsX4_wear) := goodIn_app (goodIn_of _ (by decide +kernel)) ggL_law_X4_wear
set_option maxRecDepth 20000 in
theorem ggL_law_L_set : GoodIn wsL_law wsL_set := goodIn_ca (goodIn_ca (goodIn_r _ [296, 65, 66, 297, 298, 299, 2, 300, 85, 86, 21, 16, 301, 302, 303, 304, 77, 78, 79, 80, 81, 122, 123, 124, 20, 125, 126, 127, 44, 128, 129, 130, 131, 132, 133, 134, 15, 135, 31, 136, 137, 138, 139, 32, 33, 34, 35, 36, 37, 38, 140, 141, 142, 143, 144, 688, 689, 690, 691, 704, 705, 706, 707, 708, 709, 710, 711, 712, 713, 714, 715, 716, 717, 718, 719] (by decide +kernel) (by decide +kernel)) (goodIn_sub (fun _ h => List.mem_append_right _ h) (by decide +kernel))) (goodIn_sub (fun _ h => List.mem_append_left _ (List.mem_append_right _ h)) (by decide +kernel))
set_option maxRecDepth 20000 in
theorem gL_law_L_set : GoodIn wsL_law (va_wsS RL 96 yL_set wsL_set) := goodIn_app (goodIn_of _ (by decide +kernel)) ggL_law_L_set
set_option maxRecDepth 20000 in
theorem ggL_law_X4_set : GoodIn wsL_law wsX4_set := goodIn_r _ [308, 169, 56, 173, 174, 5, 175, 263, 264, 265, 266, 209, 210, 211, 212, 213, 58, 214, 215, 216, 692, 693, 694, 695, 696, 697, 698, 699, 700, 701, 702, 703] (by decide +kernel) (by decide +kernel)
set_option maxRecDepth 20000 in
theorem gL_law_X4_set : GoodIn wsL_law (wsV RL 98 RX4 yX4_set wsX4_set) := goodIn_app (goodIn_of _ (by decide +kernel)) ggL_law_X4_set
set_option maxRecDepth 20000 in
theorem ggL_law_L_append : GoodIn wsL_law wsL_append := goodIn_ca (goodIn_ca (goodIn_r _ [311, 66, 67, 312, 313, 314, 2, 315, 85, 86, 72, 73, 25, 316, 79, 80, 81, 317, 318, 319, 24, 320, 49, 321, 688, 689, 690, 691, 720, 721, 722, 723, 724, 725, 726] (by decide +kernel) (by decide +kernel)) (goodIn_sub (fun _ h => List.mem_append_right _ h) (by decide +kernel))) (goodIn_sub (fun _ h => List.mem_append_left _ (List.mem_append_left _ (List.mem_append_right _ h))) (by decide +kernel))
set_option maxRecDepth 20000 in
theorem gL_law_L_append : GoodIn wsL_law (va_wsS RL 99 yL_append wsL_append) := goodIn_app (goodIn_of _ (by decide +kernel)) ggL_law_L_append
set_option maxRecDepth 20000 in
theorem ggL_law_X4_append : GoodIn wsL_law wsX4_append := goodIn_r _ [325, 169, 326, 59, 173, 174, 5, 175, 263, 264, 265, 266, 692, 693, 694, 695, 696, 697, 698, 699, 700, 701, 702, 703] (by decide +kernel) (by decide +kernel)
set_option maxRecDepth 20000 in
theorem gL_law_X4_append : GoodIn wsL_law (wsV RL 102 RX4 yX4_append wsX4_append) := goodIn_app (goodIn_of _ (by decide +kernel)) ggL_law_X4_append
set_option maxRecDepth 20000 in
theorem ggL_law_X3_clearBuffer : GoodIn wsL_law wsX3_clearBuffer := goodIn_r _ [330, 25, 316, 688, 689, 690, 691, 720, 721, 722, 723, 724, 725, 726] (by decide +kernel) (by decide +kernel)
set_option maxRecDepth 20000 in
theorem gL_law_X3_clearBuffer : GoodIn wsL_law (wsV RL 103 RX3 yX3_clearBuffer wsX3_clearBuffer) := goodIn_app (goodIn_of _ (by decide +kernel)) ggL_law_X3_clearBuffer
set_option maxRecDepth 20000 in
theorem ggL_law_X4_clearBuffer : GoodIn wsL_law wsX4_clearBuffer := goodIn_r _ [334, 169, 326, 692, 693, 694, 695, 696, 697, 698, 699, 700, 701, 702, 703] (by decide +kernel) (by decide +kernel)
set_option maxRecDepth 20000 in
theorem gL_law_X4_clearBuffer : GoodIn wsL_law (wsV RL 106 RX4 yX4_clearBuffer wsX4_clearBuffer) := goodIn_app (goodIn_of _ (by decide +kernel)) ggL_law_X4_clearBuffer
set_option maxRecDepth 20000 in
theorem ggL_law_X3_firstError : GoodIn wsL_law wsX3_firstError := goodIn_r _ [338, 25, 339, 340, 341, 24, 342, 343, 344, 321, 49, 345, 346, 347, 348, 349, 80, 2, 81, 350, 351, 352, 353, 50, 51, 354, 355, 356, 357, 688, 689, 690, 691, 720, 721, 722, 723, 724, 725, 726] (by decide +kernel) (by decide +kernel)
set_option maxRecDepth 20000 in
theorem gL_law_X3_firstError : GoodIn wsL_law (wsV RL 107 RX3 yX3_firstError wsX3_firstError) := goodIn_app (goodIn_of _ (by decide +kernel)) ggL_law_X3_firstError
set_option maxRecDepth 20000 in
theorem ggL_law_X4_firstError : GoodIn wsL_law wsX4_firstError := goodIn_r _ [361, 169, 362, 363, 326, 364, 365, 366, 5, 367, 368, 369, 370, 371, 372, 59, 60, 373, 374, 375, 376, 377, 173, 174, 175, 378, 379, 380, 381, 382, 383, 384, 385, 176, 177, 178, 692, 693, 694, 695, 696, 697, 698, 699, 700, 701, 702, 703] (by decide +kernel) (by decide +kernel)
set_option maxRecDepth 20000 in
theorem gL_law_X4_firstError : GoodIn wsL_law (wsV RL 110 RX4 yX4_firstError wsX4_firstError) := goodIn_app (goodIn_of _ (by decide +kernel)) ggL_law_X4_firstError
set_option maxRecDepth 20000 in
theorem ggL_law_L_writeAll : GoodIn wsL_law wsL_writeAll := goodIn_ca (goodIn_r _ [388, 66, 389, 390, 391, 2, 392, 85, 86, 25, 21, 16, 316, 393, 394, 395, 24, 396, 321, 343, 397, 340, 341, 342, 344, 49, 345, 346, 347, 348, 349, 80, 81, 350, 351, 352, 353, 50, 51, 354, 355, 356, 357, 122, 123, 124, 20, 125, 126, 127, 44, 128, 129, 130, 131, 132, 133, 134, 15, 135, 31, 136, 137, 138, 139, 32, 33, 34, 35, 36, 37, 38, 140, 141, 142, 143, 144, 398, 399, 400, 401, 402, 403, 404, 87, 88, 89, 90, 91, 92, 93, 94, 95, 96, 97, 98, 99, 100, 101, 102, 103, 104, 105, 106, 107, 108, 109, 110, 111, 112, 113, 114, 115, 116, 117, 118, 119, 120, 121, 145, 146, 147, 148, 149, 150, 151, 152, 153, 154, 155, 156, 157, 158, 159, 160, 161, 162, 163, 164, 688, 689, 690, 691, 720, 721, 722, 723, 724, 725, 726, 717, 718, 719, 704, 705, 706, 707, 708, 709, 710, 711, 712, 713, 714, 715, 716] (by decide +kernel) (by decide +kernel)) (goodIn_sub (fun _ h => List.mem_append_right _ h) (by decide +kernel))
set_option maxRecDepth 20000 in
theorem gL_law_L_writeAll : GoodIn wsL_law (va_wsS RL 111 yL_writeAll wsL_writeAll) := goodIn_app (goodIn_of _ (by decide +kernel)) ggL_law_L_writeAll
set_option maxRecDepth 20000 in
theorem ggL_law_X4_writeAll : GoodIn wsL_law wsX4_writeAll := goodIn_r _ [408, 169, 326, 368, 56, 60, 364, 365, 366, 5, 367, 363, 362, 369, 370, 371, 372, 59, 373, 374, 375, 376, 377, 173, 174, 175, 378, 379, 380, 381, 382, 383, 384, 385, 176, 177, 178, 263, 264, 265, 266, 209, 210, 211, 212, 213, 58, 214, 215, 216, 217, 218, 219, 179, 180, 181, 182, 183, 184, 185, 186, 187, 188, 189, 190, 191, 192, 193, 194, 195, 196, 197, 198, 199, 200, 201, 202, 203, 204, 205, 206, 207, 208, 220, 221, 222, 692, 693, 694, 695, 696, 697, 698, 699, 700, 701, 702, 703] (by decide +kernel) (by decide +kernel)
set_option maxRecDepth 20000 in
theorem gL_law_X4_writeAll : GoodIn wsL_law (wsV RL 114 RX4 yX4_writeAll wsX4_writeAll) := goodIn_app (goodIn_of _ (by decide +kernel)) ggL_law_X4_writeAll
set_option maxRecDepth 20000 in
theorem ggL_law_L_undo : GoodIn wsL_law wsL_undo := goodIn_ca (goodIn_r _ [411, 67, 412, 413, 414, 2, 415, 72, 73, 21, 416, 16, 417, 418, 419, 20, 420, 44, 126, 128, 129, 130, 131, 127, 132, 133, 134, 15, 135, 31, 136, 137, 138, 139, 32, 33, 34, 35, 36, 37, 38, 140, 141, 142, 143, 144, 688, 689, 690, 691, 717, 718, 719, 704, 705, 706, 707, 708, 709, 710, 711, 712, 713, 714, 715, 716] (by decide +kernel) (by decide +kernel)) (goodIn_sub (fun _ h => List.mem_append_left _ (List.mem_append_left _ (List.mem_append_right _ h))) (by decide +kernel))
set_option maxRecDepth 20000 in
theorem gL_law_L_undo : GoodIn wsL_law (va_wsS RL 115 yL_undo wsL_undo) := goodIn_app (goodIn_of _ (by decide +kernel)) ggL_law_L_undo
set_option maxRecDepth 20000 in
theorem ggL_law_X4_undo : GoodIn wsL_law wsX4_undo := goodIn_r _ [424, 169, 213, 58, 56, 263, 264, 265, 5, 266, 214, 215, 216, 692, 693, 694, 695, 696, 697, 698, 699, 700, 701, 702, 703] (by decide +kernel) (by decide +kernel)
set_option maxRecDepth 20000 in
theorem gL_law_X4_undo : GoodIn wsL_law (wsV RL 117 RX4 yX4_undo wsX4_undo) := goodIn_app (goodIn_of _ (by decide +kernel)) ggL_law_X4_undo
set_option maxRecDepth 20000 in
theorem ggL_law_L_read : GoodIn wsL_law wsL_read := goodIn_ca (goodIn_r _ [427, 65, 428, 429, 430, 2, 431, 16, 74, 75, 76, 77, 78, 79, 80, 81, 432, 150, 151, 15, 152, 34, 153, 154, 155, 156, 31, 688, 689, 690, 691, 704, 705, 706, 707, 708, 709, 710, 711, 712, 713, 714, 715, 716] (by decide +kernel) (by decide +kernel)) (goodIn_sub (fun _ h => List.mem_append_left _ (List.mem_append_right _ h)) (by decide +kernel))
set_option maxRecDepth 20000 in
theorem gL_law_L_read : GoodIn wsL_law (va_wsS RL 118 yL_read wsL_read) := goodIn_app (goodIn_of _ (by decide +kernel)) ggL_law_L_read
set_option maxRecDepth 20000 in
theorem ggL_law_X4_read : GoodIn wsL_law wsX4_read := goodIn_r _ [436, 169, 56, 170, 171, 5, 172, 173, 174, 175, 220, 221, 222, 263, 264, 265, 266, 692, 693, 694, 695, 696, 697, 698, 699, 700, 701, 702, 703] (by decide +kernel) (by decide +kernel)
set_option maxRecDepth 20000 in
theorem gL_law_X4_read : GoodIn wsL_law (wsV RL 120 RX4 yX4_read wsX4_read) := goodIn_app (goodIn_of _ (by decide +kernel)) ggL_law_X4_read
set_option maxRecDepth 20000 in
theorem ggL_law_L_word : GoodIn wsL_law wsL_word := goodIn_ca (goodIn_ca (goodIn_r _ [439, 65, 66, 440, 441, 442, 2, 443, 16, 254, 444, 445, 446, 74, 75, 76, 77, 78, 79, 80, 81, 447, 448, 449, 85, 86, 450, 107, 108, 15, 109, 38, 35, 688, 689, 690, 691, 704, 705, 706, 707, 708, 709, 710, 711, 712, 713, 714, 715, 716] (by decide +kernel) (by decide +kernel)) (goodIn_sub (fun _ h => List.mem_append_left _ (List.mem_append_right _ h)) (by decide +kernel))) (goodIn_sub (fun _ h => List.mem_append_right _ h) (by decide +kernel))
set_option maxRecDepth 20000 in
theorem gL_law_L_word : GoodIn wsL_law (va_wsS RL 121 yL_word wsL_word) := goodIn_app (goodIn_of _ (by decide +kernel)) ggL_law_L_word
set_option maxRecDepth 20000 in
theorem ggL_law_X4_word : GoodIn wsL_law wsX4_word := goodIn_r _ [454, 169, 170, 171, 5, 172, 173, 174, 175, 263, 264, 265, 266, 455, 456, 457, 458, 56, 182, 183, 184, 692, 693, 694, 695, 696, 697, 698, 699, 700, 701, 702, 703] (by decide +kernel) (by decide +kernel)
set_option maxRecDepth 20000 in
theorem gL_law_X4_word : GoodIn wsL_law (wsV RL 123 RX4 yX4_word wsX4_word) := goodIn_app (goodIn_of _ (by decide +kernel)) ggL_law_X4_word
set_option maxRecDepth 20000 in
theorem ggL_law_L_slot : GoodIn wsL_law wsL_slot := goodIn_ca (goodIn_ca (goodIn_r _ [461, 65, 66, 462, 463, 464, 2, 465, 16, 466, 467, 276, 277, 278, 77, 78, 79, 80, 81, 447, 448, 449, 85, 86, 468, 119, 120, 15, 121, 32, 469, 96, 97, 98, 38, 470, 471, 472, 473, 474, 475, 476, 477, 688, 689, 690, 691, 704, 705, 706, 707, 708, 709, 710, 711, 712, 713, 714, 715, 716] (by decide +kernel) (by decide +kernel)) (goodIn_sub (fun _ h => List.mem_append_left _ (List.mem_append_right _ h)) (by decide +kernel))) (goodIn_sub (fun _ h => List.mem_append_right _ h) (by decide +kernel))
set_option maxRecDepth 20000 in
theorem gL_law_L_slot : GoodIn wsL_law (va_wsS RL 124 yL_slot wsL_slot) := goodIn_app (goodIn_of _ (by decide +kernel)) ggL_law_L_slot
set_option maxRecDepth 20000 in
theorem ggL_law_X4_slot : GoodIn wsL_law wsX4_slot := goodIn_r _ [481, 169, 291, 292, 5, 293, 173, 174, 175, 263, 264, 265, 266, 482, 483, 484, 485, 56, 188, 189, 190, 206, 207, 208, 197, 198, 199, 194, 195, 196, 486, 487, 488, 489, 692, 693, 694, 695, 696, 697, 698, 699, 700, 701, 702, 703] (by decide +kernel) (by decide +kernel)
set_option maxRecDepth 20000 in
theorem gL_law_X4_slot : GoodIn wsL_law (wsV RL 126 RX4 yX4_slot wsX4_slot) := goodIn_app (goodIn_of _ (by decide +kernel)) ggL_law_X4_slot
set_option maxRecDepth 20000 in
theorem ggL_law_L_wearOf : GoodIn wsL_law wsL_wearOf := goodIn_ca (goodIn_r _ [492, 65, 493, 494, 495, 2, 496, 16, 276, 277, 278, 77, 78, 79, 80, 81, 279, 280, 281, 282, 283, 284, 15, 285, 32, 688, 689, 690, 691, 704, 705, 706, 707, 708, 709, 710, 711, 712, 713, 714, 715, 716] (by decide +kernel) (by decide +kernel)) (goodIn_sub (fun _ h => List.mem_append_left _ (List.mem_append_right _ h)) (by decide +kernel))
set_option maxRecDepth 20000 in
theorem gL_law_L_wearOf : GoodIn wsL_law (va_wsS RL 127 yL_wearOf wsL_wearOf) := goodIn_app (goodIn_of _ (by decide +kernel)) ggL_law_L_wearOf
set_option maxRecDepth 20000 in
theorem ggL_law_X4_wearOf : GoodIn wsL_law wsX4_wearOf := goodIn_r _ [500, 169, 56, 291, 292, 5, 293, 173, 174, 175, 197, 198, 199, 263, 264, 265, 266, 692, 693, 694, 695, 696, 697, 698, 699, 700, 701, 702, 703] (by decide +kernel) (by decide +kernel)
set_option maxRecDepth 20000 in
theorem gL_law_X4_wearOf : GoodIn wsL_law (wsV RL 129 RX4 yX4_wearOf wsX4_wearOf) := goodIn_app (goodIn_of _ (by decide +kernel)) ggL_law_X4_wearOf
set_option maxRecDepth 20000 in
theorem ggL_law_L_count : GoodIn wsL_law wsL_count := goodIn_ca (goodIn_r _ [503, 66, 504, 505, 506, 2, 507, 16, 508, 509, 510, 511, 512, 21, 416, 447, 448, 449, 85, 86, 79, 80, 81, 513, 514, 515, 15, 516, 95, 96, 97, 98, 32, 38, 99, 100, 101, 102, 103, 104, 105, 517, 518, 519, 520, 33, 114, 115, 116, 117, 118, 119, 120, 121, 521, 522, 523, 524, 106, 107, 108, 109, 35, 525, 526, 527, 528, 149, 150, 151, 152, 34, 153, 154, 155, 156, 31, 688, 689, 690, 691, 704, 705, 706, 707, 708, 709, 710, 711, 712, 713, 714, 715, 716, 717, 718, 719] (by decide +kernel) (by decide +kernel)) (goodIn_sub (fun _ h => List.mem_append_right _ h) (by decide +kernel))
set_option maxRecDepth 20000 in
theorem gL_law_L_count : GoodIn wsL_law (va_wsS RL 130 yL_count wsL_count) := goodIn_app (goodIn_of _ (by decide +kernel)) ggL_law_L_count
set_option maxRecDepth 20000 in
theorem ggL_law_X4_count : GoodIn wsL_law wsX4_count := goodIn_r _ [532, 169, 173, 174, 5, 175, 533, 534, 535, 536, 56, 213, 537, 538, 539, 540, 194, 195, 196, 197, 198, 199, 203, 204, 205, 185, 186, 187, 188, 189, 190, 191, 192, 193, 200, 201, 202, 206, 207, 208, 541, 542, 543, 544, 455, 456, 457, 458, 182, 183, 184, 220, 221, 222, 263, 264, 265, 266, 692, 693, 694, 695, 696, 697, 698, 699, 700, 701, 702, 703] (by decide +kernel) (by decide +kernel)
set_option maxRecDepth 20000 in
theorem gL_law_X4_count : GoodIn wsL_law (wsV RL 132 RX4 yX4_count wsX4_count) := goodIn_app (goodIn_of _ (by decide +kernel)) ggL_law_X4_count
set_option maxRecDepth 20000 in
theorem ggL_law_L_setting : GoodIn wsL_law wsL_setting := goodIn_ca (goodIn_r _ [547, 65, 548, 549, 550, 2, 551, 16, 301, 302, 303, 304, 77, 78, 79, 80, 81, 688, 689, 690, 691, 704, 705, 706, 707, 708, 709, 710, 711, 712, 713, 714, 715, 716] (by decide +kernel) (by decide +kernel)) (goodIn_sub (fun _ h => List.mem_append_left _ (List.mem_append_right _ h)) (by decide +kernel))
set_option maxRecDepth 20000 in
theorem gL_law_L_setting : GoodIn wsL_law (va_wsS RL 133 yL_setting wsL_setting) := goodIn_app (goodIn_of _ (by decide +kernel)) ggL_law_L_setting
set_option maxRecDepth 20000 in
theorem ggL_law_X4_setting : GoodIn wsL_law wsX4_setting := goodIn_r _ [555, 169, 56, 173, 174, 5, 175, 263, 264, 265, 266, 692, 693, 694, 695, 696, 697, 698, 699, 700, 701, 702, 703] (by decide +kernel) (by decide +kernel)
set_option maxRecDepth 20000 in
theorem gL_law_X4_setting : GoodIn wsL_law (wsV RL 135 RX4 yX4_setting wsX4_setting) := goodIn_app (goodIn_of _ (by decide +kernel)) ggL_law_X4_setting
set_option maxRecDepth 20000 in
theorem ggL_law_L_cost : GoodIn wsL_law wsL_cost := goodIn_ca (goodIn_ca (goodIn_r _ [558, 65, 66, 559, 560, 561, 2, 562, 16, 467, 276, 277, 278, 77, 78, 79, 80, 81, 82, 83, 84, 85, 86, 563, 92, 93, 15, 94, 31, 95, 96, 97, 98, 32, 38, 99, 100, 101, 102, 103, 104, 105, 564, 688, 689, 690, 691, 704, 705, 706, 707, 708, 709, 710, 711, 712, 713, 714, 715, 716] (by decide +kernel) (by decide +kernel)) (goodIn_sub (fun _ h => List.mem_append_left _ (List.mem_append_right _ h)) (by decide +kernel))) (goodIn_sub (fun _ h => List.mem_append_right _ h) (by decide +kernel))
set_option maxRecDepth 20000 in
theorem gL_law_L_cost : GoodIn wsL_law (va_wsS RL 136 yL_cost wsL_cost) := goodIn_app (goodIn_of _ (by decide +kernel)) ggL_law_L_cost
set_option maxRecDepth 20000 in
theorem ggL_law_X4_cost : GoodIn wsL_law wsX4_cost := goodIn_r _ [568, 169, 56, 291, 292, 5, 293, 173, 174, 175, 263, 264, 265, 266, 176, 177, 178, 194, 195, 196, 197, 198, 199, 569, 570, 571, 200, 201, 202, 203, 204, 205, 692, 693, 694, 695, 696, 697, 698, 699, 700, 701, 702, 703] (by decide +kernel) (by decide +kernel)
set_option maxRecDepth 20000 in
theorem gL_law_X4_cost : GoodIn wsL_law (wsV RL 138 RX4 yX4_cost wsX4_cost) := goodIn_app (goodIn_of _ (by decide +kernel)) ggL_law_X4_cost
set_option maxRecDepth 20000 in
theorem ggL_law_L_ifWritten : GoodIn wsL_law wsL_ifWritten := goodIn_ca (goodIn_ca (goodIn_r _ [574, 65, 66, 575, 576, 577, 2, 578, 16, 74, 75, 76, 77, 78, 79, 80, 81, 82, 83, 84, 85, 86, 87, 88, 89, 15, 90, 34, 91, 92, 93, 94, 31, 95, 96, 97, 98, 32, 38, 99, 100, 101, 102, 103, 104, 105, 106, 107, 108, 109, 35, 110, 111, 112, 113, 33, 114, 115, 116, 117, 118, 119, 120, 121, 688, 689, 690, 691, 704, 705, 706, 707, 708, 709, 710, 711, 712, 713, 714, 715, 716] (by decide +kernel) (by decide +kernel)) (goodIn_sub (fun _ h => List.mem_append_left _ (List.mem_append_right _ h)) (by decide +kernel))) (goodIn_sub (fun _ h => List.mem_append_right _ h) (by decide +kernel))
set_option maxRecDepth 20000 in
theorem gL_law_L_ifWritten : GoodIn wsL_law (va_wsS RL 139 yL_ifWritten wsL_ifWritten) := goodIn_app (goodIn_of _ (by decide +kernel)) ggL_law_L_ifWritten
set_option maxRecDepth 20000 in
theorem ggL_law_X4_ifWritten : GoodIn wsL_law wsX4_ifWritten := goodIn_r _ [582, 169, 56, 170, 171, 5, 172, 173, 174, 175, 263, 264, 265, 266, 176, 177, 178, 179, 180, 181, 182, 183, 184, 185, 186, 187, 188, 189, 190, 191, 192, 193, 194, 195, 196, 197, 198, 199, 200, 201, 202, 203, 204, 205, 206, 207, 208, 692, 693, 694, 695, 696, 697, 698, 699, 700, 701, 702, 703] (by decide +kernel) (by decide +kernel)
set_option maxRecDepth 20000 in
theorem gL_law_X4_ifWritten : GoodIn wsL_law (wsV RL 141 RX4 yX4_ifWritten wsX4_ifWritten) := goodIn_app (goodIn_of _ (by decide +kernel)) ggL_law_X4_ifWritten
set_option maxRecDepth 20000 in
theorem ggL_law_L_costliest : GoodIn wsL_law wsL_costliest := goodIn_ca (goodIn_r _ [585, 65, 586, 587, 588, 2, 589, 16, 254, 74, 75, 76, 77, 78, 79, 80, 81, 590, 591, 592, 15, 593, 153, 154, 155, 156, 31, 95, 96, 97, 98, 32, 38, 594, 595, 596, 99, 100, 101, 102, 103, 104, 105, 597, 598, 599, 688, 689, 690, 691, 704, 705, 706, 707, 708, 709, 710, 711, 712, 713, 714, 715, 716] (by decide +kernel) (by decide +kernel)) (goodIn_sub (fun _ h => List.mem_append_left _ (List.mem_append_right _ h)) (by decide +kernel))
set_option maxRecDepth 20000 in
theorem gL_law_L_costliest : GoodIn wsL_law (va_wsS RL 142 yL_costliest wsL_costliest) := goodIn_app (goodIn_of _ (by decide +kernel)) ggL_law_L_costliest
set_option maxRecDepth 20000 in
theorem ggL_law_X4_costliest : GoodIn wsL_law wsX4_costliest := goodIn_r _ [603, 169, 170, 171, 5, 172, 173, 174, 175, 604, 605, 606, 607, 56, 194, 195, 196, 197, 198, 199, 569, 570, 571, 200, 201, 202, 203, 204, 205, 263, 264, 265, 266, 692, 693, 694, 695, 696, 697, 698, 699, 700, 701, 702, 703] (by decide +kernel) (by decide +kernel)
set_option maxRecDepth 20000 in
theorem gL_law_X4_costliest : GoodIn wsL_law (wsV RL 144 RX4 yX4_costliest wsX4_costliest) := goodIn_app (goodIn_of _ (by decide +kernel)) ggL_law_X4_costliest
set_option maxRecDepth 20000 in
theorem ggL_law_L_life : GoodIn wsL_law wsL_life := goodIn_ca (goodIn_ca (goodIn_r _ [610, 65, 66, 611, 612, 613, 2, 614, 17, 16, 74, 75, 76, 77, 78, 79, 80, 81, 82, 83, 84, 85, 86, 615, 133, 134, 15, 135, 31, 136, 137, 138, 139, 32, 33, 34, 35, 36, 37, 38, 140, 141, 142, 143, 144, 234, 235, 236, 237, 238, 88, 89, 90, 91, 92, 93, 94, 95, 96, 97, 98, 99, 100, 101, 102, 103, 104, 105, 106, 107, 108, 109, 110, 111, 112, 113, 114, 115, 116, 117, 118, 119, 120, 121, 239, 146, 147, 148, 149, 150, 151, 152, 153, 154, 155, 156, 157, 158, 159, 160, 161, 162, 163, 164, 688, 689, 690, 691, 704, 705, 706, 707, 708, 709, 710, 711, 712, 713, 714, 715, 716] (by decide +kernel) (by decide +kernel)) (goodIn_sub (fun _ h => List.mem_append_left _ (List.mem_append_right _ h)) (by decide +kernel))) (goodIn_sub (fun _ h => List.mem_append_right _ h) (by decide +kernel))
set_option maxRecDepth 20000 in
theorem gL_law_L_life : GoodIn wsL_law (va_wsS RL 145 yL_life wsL_life) := goodIn_app (goodIn_of _ (by decide +kernel)) ggL_law_L_life
set_option maxRecDepth 20000 in
theorem ggL_law_X4_life : GoodIn wsL_law wsX4_life := goodIn_r _ [619, 169, 170, 171, 5, 172, 173, 174, 175, 263, 264, 265, 266, 176, 177, 178, 620, 621, 622, 623, 56, 57, 214, 215, 216, 244, 245, 246, 217, 218, 219, 179, 180, 181, 182, 183, 184, 185, 186, 187, 188, 189, 190, 191, 192, 193, 194, 195, 196, 197, 198, 199, 200, 201, 202, 203, 204, 205, 206, 207, 208, 220, 221, 222, 692, 693, 694, 695, 696, 697, 698, 699, 700, 701, 702, 703] (by decide +kernel) (by decide +kernel)
set_option maxRecDepth 20000 in
theorem gL_law_X4_life : GoodIn wsL_law (wsV RL 147 RX4 yX4_life wsX4_life) := goodIn_app (goodIn_of _ (by decide +kernel)) ggL_law_X4_life
set_option maxRecDepth 20000 in
theorem ggL_law_X3_share : GoodIn wsL_law wsX3_share := goodIn_r _ [627, 16, 510, 509, 688, 689, 690, 691, 704, 705, 706, 707, 708, 709, 710, 711, 712, 713, 714, 715, 716] (by decide +kernel) (by decide +kernel)
set_option maxRecDepth 20000 in
theorem gL_law_X3_share : GoodIn wsL_law (wsV RL 148 RX3 yX3_share wsX3_share) := goodIn_app (goodIn_of _ (by decide +kernel)) ggL_law_X3_share
set_option maxRecDepth 20000 in
theorem ggL_law_X4_share : GoodIn wsL_law wsX4_share := goodIn_r _ [631, 169, 632, 633, 634, 5, 635, 56, 692, 693, 694, 695, 696, 697, 698, 699, 700, 701, 702, 703] (by decide +kernel) (by decide +kernel)
set_option maxRecDepth 20000 in
theorem gL_law_X4_share : GoodIn wsL_law (wsV RL 152 RX4 yX4_share wsX4_share) := goodIn_app (goodIn_of _ (by decide +kernel)) ggL_law_X4_share
set_option maxRecDepth 20000 in
theorem ggL_law_X3_digest : GoodIn wsL_law wsX3_digest := goodIn_ca (goodIn_ca (goodIn_r _ [639, 640, 641, 16, 301, 25, 642, 505, 506, 2, 507, 508, 509, 510, 511, 512, 21, 416, 447, 448, 449, 85, 86, 79, 80, 81, 513, 514, 515, 15, 516, 95, 96, 97, 98, 32, 38, 99, 100, 101, 102, 103, 104, 105, 517, 518, 519, 520, 33, 114, 115, 116, 117, 118, 119, 120, 121, 521, 522, 523, 524, 106, 107, 108, 109, 35, 525, 526, 527, 528, 149, 150, 151, 152, 34, 153, 154, 155, 156, 31, 643, 644, 645, 646, 647, 429, 430, 431, 74, 75, 76, 77, 78, 432, 648, 441, 442, 443, 254, 444, 445, 446, 450, 649, 576, 577, 578, 82, 83, 84, 87, 88, 89, 90, 91, 92, 93, 94, 110, 111, 112, 113, 650, 587, 588, 589, 590, 591, 592, 593, 594, 595, 596, 597, 598, 599, 651, 652, 653, 654, 655, 463, 464, 465, 466, 467, 276, 277, 278, 468, 469, 470, 471, 472, 473, 474, 475, 476, 477, 656, 560, 561, 562, 563, 564, 282, 283, 284, 285, 657, 612, 613, 614, 17, 615, 133, 134, 135, 136, 137, 138, 139, 36, 37, 140, 141, 142, 143, 144, 234, 235, 236, 237, 238, 239, 146, 147, 148, 157, 158, 159, 160, 161, 162, 163, 164, 658, 625, 626, 627, 659, 660, 661, 662, 663, 664, 665, 666, 667, 24, 668, 669, 321, 49, 688, 689, 690, 691, 704, 705, 706, 707, 708, 709, 710, 711, 712, 713, 714, 715, 716, 717, 718, 719, 720, 721, 722, 723, 724, 725, 726] (by decide +kernel) (by decide +kernel)) (goodIn_sub (fun _ h => List.mem_append_right _ h) (by decide +kernel))) (goodIn_sub (fun _ h => List.mem_append_left _ (List.mem_append_right _ h)) (by decide +kernel))
set_option maxRecDepth 20000 in
theorem gL_law_X3_digest : GoodIn wsL_law (wsV RL 153 RX3 yX3_digest wsX3_digest) := goodIn_app (goodIn_of _ (by decide +kernel)) ggL_law_X3_digest
set_option maxRecDepth 20000 in
theorem ggL_law_X4_digest : GoodIn wsL_law wsX4_digest := goodIn_r _ [673, 169, 674, 675, 56, 326, 59, 533, 534, 535, 5, 536, 213, 537, 538, 539, 540, 194, 195, 196, 197, 198, 199, 203, 204, 205, 185, 186, 187, 188, 189, 190, 191, 192, 193, 200, 201, 202, 206, 207, 208, 541, 542, 543, 544, 455, 456, 457, 458, 182, 183, 184, 220, 221, 222, 179, 180, 181, 604, 605, 606, 607, 569, 570, 571, 482, 483, 484, 485, 486, 487, 488, 489, 620, 621, 622, 623, 57, 214, 215, 216, 244, 245, 246, 217, 218, 219, 632, 633, 634, 635, 676, 677, 678, 679, 680, 681, 682, 683, 684, 685, 686, 687, 692, 693, 694, 695, 696, 697, 698, 699, 700, 701, 702, 703] (by decide +kernel) (by decide +kernel)
set_option maxRecDepth 20000 in
theorem gL_law_X4_digest : GoodIn wsL_law (wsV RL 157 RX4 yX4_digest wsX4_digest) := goodIn_app (goodIn_of _ (by decide +kernel)) ggL_law_X4_digest
