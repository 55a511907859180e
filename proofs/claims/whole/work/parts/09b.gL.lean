set_option maxRecDepth 20000 in
theorem ggL_law_X4_init : GoodIn wsL_law wsX4_init := goodIn_r _ [9, 10, 11, 12, 13, 14, 15, 16, 17, 18, 19, 20, 21, 22, 23, 24, 25, 26, 27, 28, 29, 30, 31, 32, 33, 34, 35, 36, 37, 38, 39, 40, 41, 42, 43, 44, 45, 46, 47, 48, 49, 50, 51, 52, 53, 54, 55, 56, 57, 58, 59, 60, 61, 62, 63, 64, 65, 66, 67, 68, 69, 70, 71, 72, 73, 727, 728, 729, 730, 731, 732, 733, 734, 735, 736, 737, 738, 739, 692, 693, 694, 695, 740, 741, 742, 743, 744, 745, 746, 747, 748, 749, 750, 751, 752] (by decide +kernel) (by decide +kernel)
set_option maxRecDepth 20000 in
theorem gL_law_X4_init : GoodIn wsL_law (wsX4_init) := ggL_law_X4_init
set_option maxRecDepth 20000 in
theorem ggL_law_X5_init : GoodIn wsL_law wsX5_init := goodIn_r _ [76, 77, 11, 12, 35, 78, 79, 80, 81, 82, 83, 84, 85, 86, 87, 88, 89, 90, 91, 92, 93, 94, 95, 96, 51, 97, 98, 696, 697, 698, 699, 700, 701, 702, 703, 704, 705, 706, 707, 708, 709, 710, 711, 712, 713, 714, 715, 716, 717, 718, 719, 720, 721, 722, 723, 724, 725, 726] (by decide +kernel) (by decide +kernel)
set_option maxRecDepth 20000 in
theorem gL_law_X5_init : GoodIn wsL_law (wsX5_init) := ggL_law_X5_init
set_option maxRecDepth 20000 in
theorem ggL_law_L_length : GoodIn wsL_law wsL_length := goodIn_ca (goodIn_r _ [102, 103, 104, 105, 106, 2, 107, 108, 109, 21, 692, 693, 694, 695] (by decide +kernel) (by decide +kernel)) (goodIn_sub (fun _ h => List.mem_append_left _ (List.mem_append_left _ (List.mem_append_right _ h))) (by decide +kernel))
set_option maxRecDepth 20000 in
theorem gL_law_L_length : GoodIn wsL_law (va_wsS RL 73 yL_length wsL_length) := goodIn_app (goodIn_of _ (by decide +kernel)) ggL_law_L_length
set_option maxRecDepth 20000 in
theorem ggL_law_X5_length : GoodIn wsL_law wsX5_length := goodIn_r _ [113, 114, 92, 696, 697, 698, 699, 700, 701, 702, 703, 704, 705, 706, 707, 708, 709, 710, 711, 712, 713, 714, 715, 716, 717, 718, 719, 720, 721, 722, 723, 724, 725, 726] (by decide +kernel) (by decide +kernel)
set_option maxRecDepth 20000 in
theorem gL_law_X5_length : GoodIn wsL_law (wsV RL 78 RX5 yX5_length wsX5_length) := goodIn_app (goodIn_of _ (by decide +kernel)) ggL_law_X5_length
set_option maxRecDepth 20000 in
theorem ggL_law_X5_thrown : GoodIn wsL_law wsX5_thrown := goodIn_r _ [118, 114, 696, 697, 698, 699, 700, 701, 702, 703, 704, 705, 706, 707, 708, 709, 710, 711, 712, 713, 714, 715, 716, 717, 718, 719, 720, 721, 722, 723, 724, 725, 726] (by decide +kernel) (by decide +kernel)
set_option maxRecDepth 20000 in
theorem gL_law_X5_thrown : GoodIn wsL_law (wsV RL 79 RX5 yX5_thrown wsX5_thrown) := goodIn_app (goodIn_of _ (by decide +kernel)) ggL_law_X5_thrown
set_option maxRecDepth 20000 in
theorem ggL_law_L_make : GoodIn wsL_law wsL_make := goodIn_ca (goodIn_ca (goodIn_r _ [121, 122, 103, 123, 124, 125, 2, 126, 108, 109, 16, 21, 22, 127, 128, 129, 130, 131, 132, 133, 134, 135, 136, 137, 15, 138, 34, 139, 140, 141, 142, 30, 143, 144, 145, 33, 146, 61, 59, 147, 148, 149, 29, 150, 53, 151, 152, 153, 154, 155, 156, 157, 158, 159, 160, 161, 162, 42, 45, 37, 39, 163, 164, 165, 166, 167, 168, 169, 170, 171, 60, 172, 173, 174, 175, 36, 176, 177, 178, 179, 180, 181, 182, 183, 184, 185, 52, 186, 187, 188, 189, 50, 190, 191, 192, 193, 43, 46, 63, 64, 65, 66, 194, 195, 196, 197, 198, 199, 200, 201, 202, 203, 204, 205, 206, 207, 208, 209, 62, 210, 211, 212, 213, 214, 215, 216, 217, 218, 219, 220, 221, 222, 44, 223, 224, 225, 226, 40, 41, 227, 228, 229, 230, 231, 232, 233, 234, 235, 236, 237, 238, 239, 240, 241, 242, 243, 244, 245, 246, 247, 248, 249, 250, 251, 252, 253, 254, 255, 256, 257, 258, 259, 260, 261, 262, 263, 264, 54, 55, 265, 266, 267, 268, 269, 270, 271, 272, 273, 274, 275, 276, 277, 278, 279, 280, 281, 282, 283, 284, 285, 286, 287, 288, 289, 290, 291, 292, 293, 294, 295, 296, 297, 298, 299, 300, 301, 302, 38, 303, 304, 305, 306, 307, 308, 309, 310, 311, 312, 313, 314, 315, 692, 693, 694, 695, 727, 728, 729, 730, 731, 732, 733, 734, 735, 736, 737, 738, 739, 749, 750, 751, 752, 744, 745, 746, 747, 748] (by decide +kernel) (by decide +kernel)) (goodIn_sub (fun _ h => List.mem_append_left _ (List.mem_append_left _ (List.mem_append_right _ h))) (by decide +kernel))) (goodIn_sub (fun _ h => List.mem_append_left _ (List.mem_append_right _ h)) (by decide +kernel))
set_option maxRecDepth 20000 in
theorem gL_law_L_make : GoodIn wsL_law (va_wsS RL 83 yL_make wsL_make) := goodIn_app (goodIn_of _ (by decide +kernel)) ggL_law_L_make
set_option maxRecDepth 20000 in
theorem ggL_law_X5_make : GoodIn wsL_law wsX5_make := goodIn_r _ [319, 114, 320, 89, 92, 78, 321, 81, 82, 83, 84, 91, 322, 323, 5, 324, 325, 326, 327, 328, 329, 330, 331, 332, 333, 334, 335, 336, 90, 337, 338, 339, 340, 85, 341, 342, 343, 344, 345, 346, 347, 348, 349, 350, 93, 351, 95, 96, 97, 79, 352, 353, 354, 355, 356, 357, 358, 359, 360, 361, 362, 363, 86, 87, 364, 365, 366, 367, 368, 88, 369, 370, 371, 372, 373, 374, 375, 376, 377, 378, 379, 380, 381, 382, 383, 384, 385, 386, 387, 388, 389, 390, 391, 392, 393, 94, 394, 395, 396, 397, 398, 399, 400, 401, 402, 403, 404, 405, 406, 407, 408, 409, 410, 411, 80, 696, 697, 698, 699, 700, 701, 702, 703, 704, 705, 706, 707, 708, 709, 710, 711, 712, 713, 714, 715, 716, 717, 718, 719, 720, 721, 722, 723, 724, 725, 726] (by decide +kernel) (by decide +kernel)
set_option maxRecDepth 20000 in
theorem gL_law_X5_make : GoodIn wsL_law (wsV RL 86 RX5 yX5_make wsX5_make) := goodIn_app (goodIn_of _ (by decide +kernel)) ggL_law_X5_make
set_option maxRecDepth 20000 in
theorem ggL_law_L_copy : GoodIn wsL_law wsL_copy := goodIn_ca (goodIn_r _ [414, 122, 415, 416, 417, 2, 418, 16, 127, 128, 129, 130, 131, 419, 250, 251, 29, 252, 231, 187, 188, 189, 50, 692, 693, 694, 695, 727, 728, 729, 730, 731, 732, 733, 734, 735, 736, 737, 738, 739, 744, 745, 746, 747, 748] (by decide +kernel) (by decide +kernel)) (goodIn_sub (fun _ h => List.mem_append_left _ (List.mem_append_right _ h)) (by decide +kernel))
set_option maxRecDepth 20000 in
theorem gL_law_L_copy : GoodIn wsL_law (va_wsS RL 87 yL_copy wsL_copy) := goodIn_app (goodIn_of _ (by decide +kernel)) ggL_law_L_copy
set_option maxRecDepth 20000 in
theorem ggL_law_X5_copy : GoodIn wsL_law wsX5_copy := goodIn_r _ [423, 114, 91, 322, 323, 5, 324, 424, 425, 426, 427, 78, 696, 697, 698, 699, 700, 701, 702, 703, 704, 705, 706, 707, 708, 709, 710, 711, 712, 713, 714, 715, 716, 717, 718, 719, 720, 721, 722, 723, 724, 725, 726] (by decide +kernel) (by decide +kernel)
set_option maxRecDepth 20000 in
theorem gL_law_X5_copy : GoodIn wsL_law (wsV RL 90 RX5 yX5_copy wsX5_copy) := goodIn_app (goodIn_of _ (by decide +kernel)) ggL_law_X5_copy
set_option maxRecDepth 20000 in
theorem ggL_law_L_drop : GoodIn wsL_law wsL_drop := goodIn_ca (goodIn_r _ [430, 122, 431, 432, 433, 2, 434, 16, 127, 128, 129, 130, 131, 419, 250, 251, 29, 252, 231, 187, 188, 189, 50, 692, 693, 694, 695, 727, 728, 729, 730, 731, 732, 733, 734, 735, 736, 737, 738, 739, 744, 745, 746, 747, 748] (by decide +kernel) (by decide +kernel)) (goodIn_sub (fun _ h => List.mem_append_left _ (List.mem_append_right _ h)) (by decide +kernel))
set_option maxRecDepth 20000 in
theorem gL_law_L_drop : GoodIn wsL_law (va_wsS RL 91 yL_drop wsL_drop) := goodIn_app (goodIn_of _ (by decide +kernel)) ggL_law_L_drop
set_option maxRecDepth 20000 in
theorem ggL_law_X5_drop : GoodIn wsL_law wsX5_drop := goodIn_r _ [438, 114, 91, 322, 323, 5, 324, 424, 425, 426, 427, 78, 696, 697, 698, 699, 700, 701, 702, 703, 704, 705, 706, 707, 708, 709, 710, 711, 712, 713, 714, 715, 716, 717, 718, 719, 720, 721, 722, 723, 724, 725, 726] (by decide +kernel) (by decide +kernel)
set_option maxRecDepth 20000 in
theorem gL_law_X5_drop : GoodIn wsL_law (wsV RL 93 RX5 yX5_drop wsX5_drop) := goodIn_app (goodIn_of _ (by decide +kernel)) ggL_law_X5_drop
set_option maxRecDepth 20000 in
theorem ggL_law_L_set : GoodIn wsL_law wsL_set := goodIn_ca (goodIn_ca (goodIn_ca (goodIn_r _ [441, 122, 442, 103, 443, 444, 445, 2, 446, 16, 127, 128, 129, 130, 131, 447, 448, 449, 450, 108, 109, 451, 452, 453, 454, 455, 456, 457, 254, 255, 29, 256, 231, 187, 188, 189, 50, 458, 419, 250, 251, 252, 459, 267, 268, 269, 692, 693, 694, 695, 727, 728, 729, 730, 731, 732, 733, 734, 735, 736, 737, 738, 739, 744, 745, 746, 747, 748] (by decide +kernel) (by decide +kernel)) (goodIn_sub (fun _ h => List.mem_append_left _ (List.mem_append_right _ h)) (by decide +kernel))) (goodIn_sub (fun _ h => List.mem_append_left _ (List.mem_append_left _ (List.mem_append_right _ h))) (by decide +kernel))) (goodIn_sub (fun _ h => List.mem_append_right _ h) (by decide +kernel))
set_option maxRecDepth 20000 in
theorem gL_law_L_set : GoodIn wsL_law (va_wsS RL 94 yL_set wsL_set) := goodIn_app (goodIn_of _ (by decide +kernel)) ggL_law_L_set
set_option maxRecDepth 20000 in
theorem ggL_law_X5_set : GoodIn wsL_law wsX5_set := goodIn_r _ [463, 91, 81, 114, 83, 322, 323, 5, 324, 424, 425, 426, 427, 78, 696, 697, 698, 699, 700, 701, 702, 703, 704, 705, 706, 707, 708, 709, 710, 711, 712, 713, 714, 715, 716, 717, 718, 719, 720, 721, 722, 723, 724, 725, 726] (by decide +kernel) (by decide +kernel)
set_option maxRecDepth 20000 in
theorem gL_law_X5_set : GoodIn wsL_law (wsV RL 96 RX5 yX5_set wsX5_set) := goodIn_app (goodIn_of _ (by decide +kernel)) ggL_law_X5_set
set_option maxRecDepth 20000 in
theorem ggL_law_L_get : GoodIn wsL_law wsL_get := goodIn_ca (goodIn_ca (goodIn_ca (goodIn_r _ [466, 122, 442, 103, 467, 468, 469, 2, 470, 16, 127, 128, 129, 130, 131, 447, 448, 449, 450, 108, 109, 451, 452, 453, 454, 455, 456, 457, 254, 255, 29, 256, 231, 187, 188, 189, 50, 458, 419, 250, 251, 252, 692, 693, 694, 695, 727, 728, 729, 730, 731, 732, 733, 734, 735, 736, 737, 738, 739, 744, 745, 746, 747, 748] (by decide +kernel) (by decide +kernel)) (goodIn_sub (fun _ h => List.mem_append_left _ (List.mem_append_right _ h)) (by decide +kernel))) (goodIn_sub (fun _ h => List.mem_append_left _ (List.mem_append_left _ (List.mem_append_right _ h))) (by decide +kernel))) (goodIn_sub (fun _ h => List.mem_append_right _ h) (by decide +kernel))
set_option maxRecDepth 20000 in
theorem gL_law_L_get : GoodIn wsL_law (va_wsS RL 97 yL_get wsL_get) := goodIn_app (goodIn_of _ (by decide +kernel)) ggL_law_L_get
set_option maxRecDepth 20000 in
theorem ggL_law_X5_get : GoodIn wsL_law wsX5_get := goodIn_r _ [474, 91, 81, 114, 83, 322, 323, 5, 324, 424, 425, 426, 427, 78, 696, 697, 698, 699, 700, 701, 702, 703, 704, 705, 706, 707, 708, 709, 710, 711, 712, 713, 714, 715, 716, 717, 718, 719, 720, 721, 722, 723, 724, 725, 726] (by decide +kernel) (by decide +kernel)
set_option maxRecDepth 20000 in
theorem gL_law_X5_get : GoodIn wsL_law (wsV RL 99 RX5 yX5_get wsX5_get) := goodIn_app (goodIn_of _ (by decide +kernel)) ggL_law_X5_get
set_option maxRecDepth 20000 in
theorem ggL_law_L_put : GoodIn wsL_law wsL_put := goodIn_ca (goodIn_ca (goodIn_ca (goodIn_r _ [477, 122, 442, 103, 478, 479, 480, 2, 481, 16, 482, 483, 484, 485, 108, 109, 451, 452, 453, 454, 455, 456, 127, 128, 129, 130, 131, 486, 258, 259, 29, 260, 231, 187, 188, 189, 50, 457, 254, 255, 256, 458, 459, 267, 268, 269, 692, 693, 694, 695, 727, 728, 729, 730, 731, 732, 733, 734, 735, 736, 737, 738, 739, 744, 745, 746, 747, 748] (by decide +kernel) (by decide +kernel)) (goodIn_sub (fun _ h => List.mem_append_left _ (List.mem_append_left _ (List.mem_append_right _ h))) (by decide +kernel))) (goodIn_sub (fun _ h => List.mem_append_right _ h) (by decide +kernel))) (goodIn_sub (fun _ h => List.mem_append_left _ (List.mem_append_right _ h)) (by decide +kernel))
set_option maxRecDepth 20000 in
theorem gL_law_L_put : GoodIn wsL_law (va_wsS RL 100 yL_put wsL_put) := goodIn_app (goodIn_of _ (by decide +kernel)) ggL_law_L_put
set_option maxRecDepth 20000 in
theorem ggL_law_X5_put : GoodIn wsL_law wsX5_put := goodIn_r _ [490, 91, 84, 491, 492, 493, 5, 494, 82, 114, 322, 323, 324, 696, 697, 698, 699, 700, 701, 702, 703, 704, 705, 706, 707, 708, 709, 710, 711, 712, 713, 714, 715, 716, 717, 718, 719, 720, 721, 722, 723, 724, 725, 726] (by decide +kernel) (by decide +kernel)
set_option maxRecDepth 20000 in
theorem gL_law_X5_put : GoodIn wsL_law (wsV RL 102 RX5 yX5_put wsX5_put) := goodIn_app (goodIn_of _ (by decide +kernel)) ggL_law_X5_put
set_option maxRecDepth 20000 in
theorem ggL_law_L_number : GoodIn wsL_law wsL_number := goodIn_ca (goodIn_ca (goodIn_ca (goodIn_r _ [497, 122, 442, 103, 498, 499, 500, 2, 501, 16, 482, 483, 484, 485, 108, 109, 451, 452, 453, 454, 455, 456, 127, 128, 129, 130, 131, 486, 258, 259, 29, 260, 231, 187, 188, 189, 50, 457, 254, 255, 256, 458, 692, 693, 694, 695, 727, 728, 729, 730, 731, 732, 733, 734, 735, 736, 737, 738, 739, 744, 745, 746, 747, 748] (by decide +kernel) (by decide +kernel)) (goodIn_sub (fun _ h => List.mem_append_left _ (List.mem_append_left _ (List.mem_append_right _ h))) (by decide +kernel))) (goodIn_sub (fun _ h => List.mem_append_right _ h) (by decide +kernel))) (goodIn_sub (fun _ h => List.mem_append_left _ (List.mem_append_right _ h)) (by decide +kernel))
set_option maxRecDepth 20000 in
theorem gL_law_L_number : GoodIn wsL_law (va_wsS RL 103 yL_number wsL_number) := goodIn_app (goodIn_of _ (by decide +kernel)) ggL_law_L_number
set_option maxRecDepth 20000 in
theorem ggL_law_X5_number : GoodIn wsL_law wsX5_number := goodIn_r _ [505, 84, 91, 491, 492, 493, 5, 494, 82, 114, 322, 323, 324, 696, 697, 698, 699, 700, 701, 702, 703, 704, 705, 706, 707, 708, 709, 710, 711, 712, 713, 714, 715, 716, 717, 718, 719, 720, 721, 722, 723, 724, 725, 726] (by decide +kernel) (by decide +kernel)
set_option maxRecDepth 20000 in
theorem gL_law_X5_number : GoodIn wsL_law (wsV RL 105 RX5 yX5_number wsX5_number) := goodIn_app (goodIn_of _ (by decide +kernel)) ggL_law_X5_number
set_option maxRecDepth 20000 in
theorem ggL_law_X4_step : GoodIn wsL_law wsX4_step := goodIn_r _ [509, 16, 155, 156, 157, 15, 158, 34, 151, 152, 153, 33, 154, 61, 159, 160, 161, 162, 30, 42, 45, 37, 39, 163, 164, 165, 166, 167, 144, 145, 146, 59, 168, 169, 170, 171, 60, 172, 173, 174, 175, 36, 176, 2, 177, 178, 179, 180, 181, 182, 183, 184, 29, 185, 53, 52, 186, 187, 188, 189, 50, 190, 191, 192, 193, 43, 46, 143, 63, 64, 65, 66, 194, 195, 196, 197, 198, 199, 200, 201, 202, 203, 204, 205, 206, 207, 208, 209, 62, 210, 211, 212, 213, 214, 215, 216, 217, 218, 219, 220, 221, 222, 44, 223, 224, 225, 226, 40, 41, 227, 228, 229, 230, 231, 232, 233, 234, 235, 236, 237, 238, 239, 240, 241, 242, 243, 147, 148, 149, 150, 244, 245, 246, 247, 248, 249, 250, 251, 252, 253, 254, 255, 256, 257, 258, 259, 260, 261, 262, 263, 264, 54, 55, 265, 266, 267, 268, 269, 270, 271, 272, 273, 274, 275, 276, 277, 278, 279, 280, 281, 282, 283, 284, 285, 286, 287, 288, 289, 290, 291, 292, 293, 294, 295, 296, 297, 298, 299, 300, 301, 302, 38, 303, 304, 305, 306, 307, 308, 309, 310, 692, 693, 694, 695, 727, 728, 729, 730, 731, 732, 733, 734, 735, 736, 737, 738, 739, 749, 750, 751, 752, 744, 745, 746, 747, 748] (by decide +kernel) (by decide +kernel)
set_option maxRecDepth 20000 in
theorem gL_law_X4_step : GoodIn wsL_law (wsV RL 106 RX4 yX4_step wsX4_step) := goodIn_app (goodIn_of _ (by decide +kernel)) ggL_law_X4_step
set_option maxRecDepth 20000 in
theorem ggL_law_X5_step : GoodIn wsL_law wsX5_step := goodIn_r _ [513, 114, 341, 342, 343, 5, 344, 320, 325, 326, 327, 328, 89, 345, 346, 347, 348, 349, 90, 350, 93, 91, 351, 95, 83, 96, 97, 79, 352, 353, 354, 355, 78, 81, 356, 357, 358, 359, 360, 361, 362, 363, 86, 87, 85, 364, 365, 366, 367, 368, 88, 369, 370, 371, 372, 373, 374, 375, 376, 377, 378, 379, 380, 381, 382, 383, 384, 385, 386, 387, 388, 389, 390, 391, 392, 393, 94, 394, 395, 396, 397, 398, 399, 400, 401, 402, 403, 82, 404, 405, 406, 407, 333, 334, 335, 336, 337, 338, 339, 340, 408, 409, 410, 411, 80, 696, 697, 698, 699, 700, 701, 702, 703, 704, 705, 706, 707, 708, 709, 710, 711, 712, 713, 714, 715, 716, 717, 718, 719, 720, 721, 722, 723, 724, 725, 726] (by decide +kernel) (by decide +kernel)
set_option maxRecDepth 20000 in
theorem gL_law_X5_step : GoodIn wsL_law (wsV RL 109 RX5 yX5_step wsX5_step) := goodIn_app (goodIn_of _ (by decide +kernel)) ggL_law_X5_step
set_option maxRecDepth 20000 in
theorem ggL_law_L_collect : GoodIn wsL_law wsL_collect := goodIn_ca (goodIn_r _ [516, 103, 517, 518, 519, 2, 520, 108, 109, 16, 155, 156, 157, 15, 158, 34, 151, 152, 153, 33, 154, 61, 159, 160, 161, 162, 30, 42, 45, 37, 39, 163, 164, 165, 166, 167, 144, 145, 146, 59, 168, 169, 170, 171, 60, 172, 173, 174, 175, 36, 176, 177, 178, 179, 180, 181, 182, 183, 184, 29, 185, 53, 52, 186, 187, 188, 189, 50, 190, 191, 192, 193, 43, 46, 143, 63, 64, 65, 66, 194, 195, 196, 197, 198, 199, 200, 201, 202, 203, 204, 205, 206, 207, 208, 209, 62, 210, 211, 212, 213, 214, 215, 216, 217, 218, 219, 220, 221, 222, 44, 223, 224, 225, 226, 40, 41, 227, 228, 229, 230, 231, 232, 233, 234, 235, 236, 237, 238, 239, 240, 241, 242, 243, 147, 148, 149, 150, 244, 245, 246, 247, 248, 249, 250, 251, 252, 253, 254, 255, 256, 257, 258, 259, 260, 261, 262, 263, 264, 54, 55, 265, 266, 267, 268, 269, 270, 271, 272, 273, 274, 275, 276, 277, 278, 279, 280, 281, 282, 283, 284, 285, 286, 287, 288, 289, 290, 291, 292, 293, 294, 295, 296, 297, 298, 299, 300, 301, 302, 38, 303, 304, 305, 306, 307, 308, 309, 310, 692, 693, 694, 695, 727, 728, 729, 730, 731, 732, 733, 734, 735, 736, 737, 738, 739, 749, 750, 751, 752, 744, 745, 746, 747, 748] (by decide +kernel) (by decide +kernel)) (goodIn_sub (fun _ h => List.mem_append_left _ (List.mem_append_left _ (List.mem_append_right _ h))) (by decide +kernel))
set_option maxRecDepth 20000 in
theorem gL_law_L_collect : GoodIn wsL_law (va_wsS RL 110 yL_collect wsL_collect) := goodIn_app (goodIn_of _ (by decide +kernel)) ggL_law_L_collect
set_option maxRecDepth 20000 in
theorem ggL_law_X5_collect : GoodIn wsL_law wsX5_collect := goodIn_r _ [524, 114, 325, 326, 327, 5, 328, 320, 89, 341, 342, 343, 344, 345, 346, 347, 348, 349, 90, 350, 93, 91, 351, 95, 83, 96, 97, 79, 352, 353, 354, 355, 78, 81, 356, 357, 358, 359, 360, 361, 362, 363, 86, 87, 85, 364, 365, 366, 367, 368, 88, 369, 370, 371, 372, 373, 374, 375, 376, 377, 378, 379, 380, 381, 382, 383, 384, 385, 386, 387, 388, 389, 390, 391, 392, 393, 94, 394, 395, 396, 397, 398, 399, 400, 401, 402, 403, 82, 404, 405, 406, 407, 333, 334, 335, 336, 337, 338, 339, 340, 408, 409, 410, 411, 80, 696, 697, 698, 699, 700, 701, 702, 703, 704, 705, 706, 707, 708, 709, 710, 711, 712, 713, 714, 715, 716, 717, 718, 719, 720, 721, 722, 723, 724, 725, 726] (by decide +kernel) (by decide +kernel)
set_option maxRecDepth 20000 in
theorem gL_law_X5_collect : GoodIn wsL_law (wsV RL 112 RX5 yX5_collect wsX5_collect) := goodIn_app (goodIn_of _ (by decide +kernel)) ggL_law_X5_collect
set_option maxRecDepth 20000 in
theorem ggL_law_L_thing : GoodIn wsL_law wsL_thing := goodIn_ca (goodIn_ca (goodIn_r _ [527, 122, 442, 528, 529, 530, 2, 531, 16, 532, 533, 534, 130, 131, 451, 452, 453, 454, 455, 456, 127, 128, 129, 419, 250, 251, 29, 252, 231, 187, 188, 189, 50, 535, 176, 177, 178, 179, 180, 536, 169, 170, 33, 171, 60, 457, 254, 255, 256, 486, 258, 259, 260, 692, 693, 694, 695, 727, 728, 729, 730, 731, 732, 733, 734, 735, 736, 737, 738, 739, 744, 745, 746, 747, 748, 749, 750, 751, 752] (by decide +kernel) (by decide +kernel)) (goodIn_sub (fun _ h => List.mem_append_left _ (List.mem_append_right _ h)) (by decide +kernel))) (goodIn_sub (fun _ h => List.mem_append_right _ h) (by decide +kernel))
set_option maxRecDepth 20000 in
theorem gL_law_L_thing : GoodIn wsL_law (va_wsS RL 113 yL_thing wsL_thing) := goodIn_app (goodIn_of _ (by decide +kernel)) ggL_law_L_thing
set_option maxRecDepth 20000 in
theorem ggL_law_X5_thing : GoodIn wsL_law wsX5_thing := goodIn_r _ [540, 91, 114, 78, 88, 79, 81, 82, 322, 323, 5, 324, 541, 542, 543, 544, 80, 356, 357, 358, 359, 320, 89, 90, 696, 697, 698, 699, 700, 701, 702, 703, 704, 705, 706, 707, 708, 709, 710, 711, 712, 713, 714, 715, 716, 717, 718, 719, 720, 721, 722, 723, 724, 725, 726] (by decide +kernel) (by decide +kernel)
set_option maxRecDepth 20000 in
theorem gL_law_X5_thing : GoodIn wsL_law (wsV RL 115 RX5 yX5_thing wsX5_thing) := goodIn_app (goodIn_of _ (by decide +kernel)) ggL_law_X5_thing
set_option maxRecDepth 20000 in
theorem ggL_law_L_label : GoodIn wsL_law wsL_label := goodIn_ca (goodIn_ca (goodIn_ca (goodIn_r _ [547, 122, 442, 103, 548, 549, 550, 2, 551, 16, 447, 448, 449, 450, 108, 109, 451, 452, 453, 454, 455, 456, 127, 128, 129, 130, 131, 457, 254, 255, 29, 256, 231, 187, 188, 189, 50, 458, 419, 250, 251, 252, 692, 693, 694, 695, 727, 728, 729, 730, 731, 732, 733, 734, 735, 736, 737, 738, 739, 744, 745, 746, 747, 748] (by decide +kernel) (by decide +kernel)) (goodIn_sub (fun _ h => List.mem_append_left _ (List.mem_append_left _ (List.mem_append_right _ h))) (by decide +kernel))) (goodIn_sub (fun _ h => List.mem_append_right _ h) (by decide +kernel))) (goodIn_sub (fun _ h => List.mem_append_left _ (List.mem_append_right _ h)) (by decide +kernel))
set_option maxRecDepth 20000 in
theorem gL_law_L_label : GoodIn wsL_law (va_wsS RL 116 yL_label wsL_label) := goodIn_app (goodIn_of _ (by decide +kernel)) ggL_law_L_label
set_option maxRecDepth 20000 in
theorem ggL_law_X5_label : GoodIn wsL_law wsX5_label := goodIn_r _ [555, 91, 81, 114, 83, 322, 323, 5, 324, 424, 425, 426, 427, 78, 696, 697, 698, 699, 700, 701, 702, 703, 704, 705, 706, 707, 708, 709, 710, 711, 712, 713, 714, 715, 716, 717, 718, 719, 720, 721, 722, 723, 724, 725, 726] (by decide +kernel) (by decide +kernel)
set_option maxRecDepth 20000 in
theorem gL_law_X5_label : GoodIn wsL_law (wsV RL 118 RX5 yX5_label wsX5_label) := goodIn_app (goodIn_of _ (by decide +kernel)) ggL_law_X5_label
set_option maxRecDepth 20000 in
theorem ggL_law_L_train : GoodIn wsL_law wsL_train := goodIn_ca (goodIn_r _ [558, 122, 559, 560, 561, 2, 562, 16, 532, 533, 534, 130, 131, 563, 564, 565, 566, 567, 568, 569, 33, 570, 61, 167, 144, 145, 146, 59, 168, 169, 170, 171, 60, 571, 536, 572, 304, 305, 306, 573, 308, 309, 15, 310, 30, 34, 143, 276, 277, 278, 29, 279, 54, 280, 281, 692, 693, 694, 695, 727, 728, 729, 730, 731, 732, 733, 734, 735, 736, 737, 738, 739, 749, 750, 751, 752, 744, 745, 746, 747, 748] (by decide +kernel) (by decide +kernel)) (goodIn_sub (fun _ h => List.mem_append_left _ (List.mem_append_right _ h)) (by decide +kernel))
set_option maxRecDepth 20000 in
theorem gL_law_L_train : GoodIn wsL_law (va_wsS RL 119 yL_train wsL_train) := goodIn_app (goodIn_of _ (by decide +kernel)) ggL_law_L_train
set_option maxRecDepth 20000 in
theorem ggL_law_X5_train : GoodIn wsL_law wsX5_train := goodIn_r _ [577, 320, 114, 89, 86, 90, 88, 696, 697, 698, 699, 700, 701, 702, 703, 704, 705, 706, 707, 708, 709, 710, 711, 712, 713, 714, 715, 716, 717, 718, 719, 720, 721, 722, 723, 724, 725, 726] (by decide +kernel) (by decide +kernel)
set_option maxRecDepth 20000 in
theorem gL_law_X5_train : GoodIn wsL_law (wsV RL 121 RX5 yX5_train wsX5_train) := goodIn_app (goodIn_of _ (by decide +kernel)) ggL_law_X5_train
set_option maxRecDepth 20000 in
theorem ggL_law_L_car : GoodIn wsL_law wsL_car := goodIn_ca (goodIn_r _ [580, 122, 581, 582, 583, 2, 584, 130, 131, 16, 563, 564, 565, 566, 567, 568, 569, 33, 570, 61, 167, 144, 145, 146, 59, 168, 169, 170, 171, 60, 571, 536, 572, 304, 305, 306, 692, 693, 694, 695, 727, 728, 729, 730, 731, 732, 733, 734, 735, 736, 737, 738, 739, 749, 750, 751, 752] (by decide +kernel) (by decide +kernel)) (goodIn_sub (fun _ h => List.mem_append_left _ (List.mem_append_right _ h)) (by decide +kernel))
set_option maxRecDepth 20000 in
theorem gL_law_L_car : GoodIn wsL_law (va_wsS RL 122 yL_car wsL_car) := goodIn_app (goodIn_of _ (by decide +kernel)) ggL_law_L_car
set_option maxRecDepth 20000 in
theorem ggL_law_X5_car : GoodIn wsL_law wsX5_car := goodIn_r _ [588, 320, 89, 114, 90, 696, 697, 698, 699, 700, 701, 702, 703, 704, 705, 706, 707, 708, 709, 710, 711, 712, 713, 714, 715, 716, 717, 718, 719, 720, 721, 722, 723, 724, 725, 726] (by decide +kernel) (by decide +kernel)
set_option maxRecDepth 20000 in
theorem gL_law_X5_car : GoodIn wsL_law (wsV RL 124 RX5 yX5_car wsX5_car) := goodIn_app (goodIn_of _ (by decide +kernel)) ggL_law_X5_car
set_option maxRecDepth 20000 in
theorem ggL_law_L_about : GoodIn wsL_law wsL_about := goodIn_ca (goodIn_r _ [591, 122, 592, 593, 594, 2, 595, 16, 596, 597, 598, 130, 131, 599, 280, 281, 532, 533, 534, 536, 169, 170, 33, 171, 60, 600, 148, 149, 29, 150, 53, 601, 277, 278, 279, 54, 602, 603, 604, 15, 605, 606, 607, 608, 609, 34, 30, 610, 611, 612, 613, 61, 59, 182, 183, 184, 185, 52, 186, 187, 188, 189, 50, 176, 177, 178, 179, 180, 614, 615, 616, 617, 55, 618, 249, 250, 251, 252, 231, 692, 693, 694, 695, 727, 728, 729, 730, 731, 732, 733, 734, 735, 736, 737, 738, 739, 749, 750, 751, 752, 744, 745, 746, 747, 748] (by decide +kernel) (by decide +kernel)) (goodIn_sub (fun _ h => List.mem_append_left _ (List.mem_append_right _ h)) (by decide +kernel))
set_option maxRecDepth 20000 in
theorem gL_law_L_about : GoodIn wsL_law (va_wsS RL 125 yL_about wsL_about) := goodIn_app (goodIn_of _ (by decide +kernel)) ggL_law_L_about
set_option maxRecDepth 20000 in
theorem ggL_law_X5_about : GoodIn wsL_law wsX5_about := goodIn_r _ [622, 114, 88, 85, 86, 78, 87, 356, 357, 358, 5, 359, 320, 89, 90, 623, 624, 625, 626, 81, 83, 79, 627, 628, 629, 630, 631, 632, 633, 634, 541, 542, 543, 544, 80, 696, 697, 698, 699, 700, 701, 702, 703, 704, 705, 706, 707, 708, 709, 710, 711, 712, 713, 714, 715, 716, 717, 718, 719, 720, 721, 722, 723, 724, 725, 726] (by decide +kernel) (by decide +kernel)
set_option maxRecDepth 20000 in
theorem gL_law_X5_about : GoodIn wsL_law (wsV RL 127 RX5 yX5_about wsX5_about) := goodIn_app (goodIn_of _ (by decide +kernel)) ggL_law_X5_about
set_option maxRecDepth 20000 in
theorem ggL_law_L_remembered : GoodIn wsL_law wsL_remembered := goodIn_ca (goodIn_r _ [637, 122, 638, 639, 640, 2, 641, 16, 596, 597, 598, 130, 131, 599, 280, 281, 642, 607, 608, 15, 609, 34, 30, 610, 611, 612, 33, 613, 61, 59, 182, 183, 184, 29, 185, 53, 52, 186, 187, 188, 189, 50, 176, 177, 178, 179, 180, 692, 693, 694, 695, 727, 728, 729, 730, 731, 732, 733, 734, 735, 736, 737, 738, 739, 749, 750, 751, 752, 744, 745, 746, 747, 748] (by decide +kernel) (by decide +kernel)) (goodIn_sub (fun _ h => List.mem_append_left _ (List.mem_append_right _ h)) (by decide +kernel))
set_option maxRecDepth 20000 in
theorem gL_law_L_remembered : GoodIn wsL_law (va_wsS RL 128 yL_remembered wsL_remembered) := goodIn_app (goodIn_of _ (by decide +kernel)) ggL_law_L_remembered
set_option maxRecDepth 20000 in
theorem ggL_law_X5_remembered : GoodIn wsL_law wsX5_remembered := goodIn_r _ [646, 114, 623, 624, 625, 5, 626, 86, 87, 81, 83, 79, 356, 357, 358, 359, 320, 89, 90, 627, 628, 629, 630, 631, 632, 633, 634, 541, 542, 543, 544, 80, 696, 697, 698, 699, 700, 701, 702, 703, 704, 705, 706, 707, 708, 709, 710, 711, 712, 713, 714, 715, 716, 717, 718, 719, 720, 721, 722, 723, 724, 725, 726] (by decide +kernel) (by decide +kernel)
set_option maxRecDepth 20000 in
theorem gL_law_X5_remembered : GoodIn wsL_law (wsV RL 130 RX5 yX5_remembered wsX5_remembered) := goodIn_app (goodIn_of _ (by decide +kernel)) ggL_law_X5_remembered
set_option maxRecDepth 20000 in
theorem ggL_law_L_word : GoodIn wsL_law wsL_word := goodIn_ca (goodIn_r _ [649, 122, 650, 651, 652, 2, 653, 130, 131, 16, 178, 179, 180, 458, 187, 188, 29, 189, 50, 692, 693, 694, 695, 727, 728, 729, 730, 731, 732, 733, 734, 735, 736, 737, 738, 739, 744, 745, 746, 747, 748] (by decide +kernel) (by decide +kernel)) (goodIn_sub (fun _ h => List.mem_append_left _ (List.mem_append_right _ h)) (by decide +kernel))
set_option maxRecDepth 20000 in
theorem gL_law_L_word : GoodIn wsL_law (va_wsS RL 131 yL_word wsL_word) := goodIn_app (goodIn_of _ (by decide +kernel)) ggL_law_L_word
set_option maxRecDepth 20000 in
theorem ggL_law_X5_word : GoodIn wsL_law wsX5_word := goodIn_r _ [657, 114, 86, 87, 80, 81, 83, 78, 82, 84, 400, 401, 402, 5, 403, 541, 542, 543, 544, 79, 696, 697, 698, 699, 700, 701, 702, 703, 704, 705, 706, 707, 708, 709, 710, 711, 712, 713, 714, 715, 716, 717, 718, 719, 720, 721, 722, 723, 724, 725, 726] (by decide +kernel) (by decide +kernel)
set_option maxRecDepth 20000 in
theorem gL_law_X5_word : GoodIn wsL_law (wsV RL 133 RX5 yX5_word wsX5_word) := goodIn_app (goodIn_of _ (by decide +kernel)) ggL_law_X5_word
set_option maxRecDepth 20000 in
theorem ggL_law_X4_reached : GoodIn wsL_law wsX4_reached := goodIn_r _ [661, 20, 16, 662, 663, 664, 19, 665, 73, 72, 71, 666, 667, 668, 669, 70, 179, 2, 180, 670, 254, 255, 29, 256, 231, 187, 188, 189, 50, 671, 692, 693, 694, 695, 727, 728, 729, 730, 731, 732, 733, 734, 735, 736, 737, 738, 739, 740, 741, 742, 743, 744, 745, 746, 747, 748] (by decide +kernel) (by decide +kernel)
set_option maxRecDepth 20000 in
theorem gL_law_X4_reached : GoodIn wsL_law (wsV RL 134 RX4 yX4_reached wsX4_reached) := goodIn_app (goodIn_of _ (by decide +kernel)) ggL_law_X4_reached
set_option maxRecDepth 20000 in
theorem ggL_law_X5_reached : GoodIn wsL_law wsX5_reached := goodIn_r _ [675, 114, 98, 91, 94, 81, 83, 696, 697, 698, 699, 700, 701, 702, 703, 704, 705, 706, 707, 708, 709, 710, 711, 712, 713, 714, 715, 716, 717, 718, 719, 720, 721, 722, 723, 724, 725, 726] (by decide +kernel) (by decide +kernel)
set_option maxRecDepth 20000 in
theorem gL_law_X5_reached : GoodIn wsL_law (wsV RL 137 RX5 yX5_reached wsX5_reached) := goodIn_app (goodIn_of _ (by decide +kernel)) ggL_law_X5_reached
set_option maxRecDepth 20000 in
theorem ggL_law_L_told : GoodIn wsL_law wsL_told := goodIn_ca (goodIn_r _ [678, 122, 679, 680, 681, 2, 682, 16, 22, 532, 533, 534, 130, 131, 683, 684, 685, 33, 686, 61, 167, 144, 145, 146, 59, 168, 169, 170, 171, 60, 687, 152, 153, 154, 573, 308, 309, 15, 310, 30, 34, 143, 276, 277, 278, 29, 279, 54, 280, 281, 692, 693, 694, 695, 727, 728, 729, 730, 731, 732, 733, 734, 735, 736, 737, 738, 739, 749, 750, 751, 752, 744, 745, 746, 747, 748] (by decide +kernel) (by decide +kernel)) (goodIn_sub (fun _ h => List.mem_append_left _ (List.mem_append_right _ h)) (by decide +kernel))
set_option maxRecDepth 20000 in
theorem gL_law_L_told : GoodIn wsL_law (va_wsS RL 138 yL_told wsL_told) := goodIn_app (goodIn_of _ (by decide +kernel)) ggL_law_L_told
set_option maxRecDepth 20000 in
theorem ggL_law_X5_told : GoodIn wsL_law wsX5_told := goodIn_r _ [691, 114, 78, 320, 349, 350, 364, 398, 399, 381, 321, 325, 326, 327, 5, 328, 89, 696, 697, 698, 699, 700, 701, 702, 703, 704, 705, 706, 707, 708, 709, 710, 711, 712, 713, 714, 715, 716, 717, 718, 719, 720, 721, 722, 723, 724, 725, 726] (by decide +kernel) (by decide +kernel)
set_option maxRecDepth 20000 in
theorem gL_law_X5_told : GoodIn wsL_law (wsV RL 140 RX5 yX5_told wsX5_told) := goodIn_app (goodIn_of _ (by decide +kernel)) ggL_law_X5_told
