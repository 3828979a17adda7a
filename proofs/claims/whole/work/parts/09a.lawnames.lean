set_option maxRecDepth 20000 in
theorem ggL_law_X7_init : GoodIn wsL_law wsX7_init := goodIn_r _ [8, 9, 10, 11, 12, 13, 14, 15, 16, 17, 18, 19, 20, 21, 22, 23, 24, 25, 26, 27, 28, 29, 30, 31, 32, 33, 34, 35, 36, 37, 38, 39, 40, 41, 42, 43, 44, 45, 46, 47, 48, 49, 50, 51, 52, 53, 54, 55, 56, 57, 58, 59, 60, 61, 62, 63, 64, 65, 66, 67, 68, 69, 70, 71, 72, 73, 74, 75, 76, 77, 78, 79, 80, 81, 82, 83, 84, 85, 86, 87, 88, 89, 90, 91, 92, 93, 94, 95, 96, 97, 98, 99, 100, 101, 102, 103, 104, 105, 106, 107, 108, 109, 110, 111, 112, 113, 114, 115, 116, 117, 118, 119, 120, 121, 122, 123, 124, 125, 126, 127, 128, 129, 130, 131, 132, 133, 134, 135, 136, 137, 138, 139, 140, 141, 2, 142, 143, 144, 145, 146, 147, 148, 149, 150, 151, 152, 153, 154, 155, 156, 157, 158, 159, 160, 161, 162, 163, 164, 165, 166, 167, 168, 169, 170, 171, 172, 173, 174, 175, 176, 177, 178, 179, 180, 181, 182, 183, 184, 185, 186, 187, 188, 189, 190, 191, 192, 193, 194, 195, 196, 197, 198, 199, 200, 201, 202, 203, 204, 205, 206, 207, 208, 209, 210, 211, 212, 213, 214, 215, 216, 217, 218, 219, 220, 221, 222, 223, 224, 225, 226, 227, 228, 229, 230, 231, 232, 233, 234, 235, 236, 237, 238, 239, 240, 241, 242, 243, 244, 245, 246, 247, 248, 249, 250, 251, 252, 253, 254, 255, 256, 257, 258, 259, 260, 261, 262, 263, 264, 265, 266, 267, 268, 269, 270, 271, 272, 273, 274, 275, 276, 277, 278, 279, 280, 281, 282, 283, 284, 285, 286, 287, 288, 289, 290, 291, 292, 293, 294, 295, 296, 297, 298, 299, 300, 301, 302, 303, 304, 305, 306, 307, 308, 309, 310, 311, 312, 313, 314, 315, 316, 317, 318, 319, 320, 321, 322, 323, 324, 325, 326, 327, 328, 329, 330, 331, 332, 333, 334, 335, 336, 337, 338, 339, 340, 341, 342, 343, 344, 345, 923, 924, 896, 897, 898, 899, 900, 901, 902, 925, 926, 927, 928, 929, 930, 931, 932, 933, 934, 935, 936, 937, 938, 939, 940, 941, 942, 943, 944, 945, 946, 947, 948, 949, 950, 951, 952, 953] (by decide +kernel) (by decide +kernel)
set_option maxRecDepth 20000 in
theorem gL_law_X7_init : GoodIn wsL_law (wsX7_init) := ggL_law_X7_init
set_option maxRecDepth 20000 in
theorem ggL_law_X8_init : GoodIn wsL_law wsX8_init := goodIn_r _ [348, 349, 10, 11, 47, 350, 351, 352, 353, 354, 355, 356, 357, 358, 359, 360, 361, 362, 363, 364, 5, 365, 366, 367, 368, 369, 370, 371, 372, 373, 374, 375, 376, 377, 903, 904, 905, 906, 907, 908, 909, 910, 911, 912, 913, 914, 915, 916, 917, 918, 919, 920, 921, 922] (by decide +kernel) (by decide +kernel)
set_option maxRecDepth 20000 in
theorem gL_law_X8_init : GoodIn wsL_law (wsX8_init) := ggL_law_X8_init
set_option maxRecDepth 20000 in
theorem ggL_law_X7_write : GoodIn wsL_law wsX7_write := goodIn_r _ [381, 15, 382, 176, 2, 177, 383, 136, 137, 14, 138, 134, 41, 130, 131, 132, 133, 135, 384, 165, 166, 167, 896, 897, 898, 899, 900, 901, 902, 923, 924] (by decide +kernel) (by decide +kernel)
set_option maxRecDepth 20000 in
theorem gL_law_X7_write : GoodIn wsL_law (wsV RL 13 RX7 yX7_write wsX7_write) := goodIn_app (goodIn_of _ (by decide +kernel)) ggL_law_X7_write
set_option maxRecDepth 20000 in
theorem ggL_law_X8_write : GoodIn wsL_law wsX8_write := goodIn_r _ [388, 389, 350, 903, 904, 905, 906, 907, 908, 909, 910, 911, 912, 913, 914, 915, 916, 917, 918, 919, 920, 921, 922] (by decide +kernel) (by decide +kernel)
set_option maxRecDepth 20000 in
theorem gL_law_X8_write : GoodIn wsL_law (wsV RL 17 RX8 yX8_write wsX8_write) := goodIn_app (goodIn_of _ (by decide +kernel)) ggL_law_X8_write
set_option maxRecDepth 20000 in
theorem ggL_law_X7_wipe : GoodIn wsL_law wsX7_wipe := goodIn_r _ [393, 15, 384, 165, 166, 14, 167, 134, 342, 343, 344, 345, 896, 897, 898, 899, 900, 901, 902, 923, 924] (by decide +kernel) (by decide +kernel)
set_option maxRecDepth 20000 in
theorem gL_law_X7_wipe : GoodIn wsL_law (wsV RL 18 RX7 yX7_wipe wsX7_wipe) := goodIn_app (goodIn_of _ (by decide +kernel)) ggL_law_X7_wipe
set_option maxRecDepth 20000 in
theorem ggL_law_X8_wipe : GoodIn wsL_law wsX8_wipe := goodIn_r _ [397, 389, 903, 904, 905, 906, 907, 908, 909, 910, 911, 912, 913, 914, 915, 916, 917, 918, 919, 920, 921, 922] (by decide +kernel) (by decide +kernel)
set_option maxRecDepth 20000 in
theorem gL_law_X8_wipe : GoodIn wsL_law (wsV RL 22 RX8 yX8_wipe wsX8_wipe) := goodIn_app (goodIn_of _ (by decide +kernel)) ggL_law_X8_wipe
set_option maxRecDepth 20000 in
theorem ggL_law_X7_fault : GoodIn wsL_law wsX7_fault := goodIn_r _ [401, 19, 15, 143, 144, 145, 18, 146, 46, 147, 148, 149, 22, 150, 52, 151, 152, 153, 154, 155, 156, 157, 158, 159, 160, 161, 162, 163, 54, 55, 56, 164, 165, 166, 14, 167, 134, 168, 169, 170, 171, 172, 173, 174, 175, 41, 176, 2, 177, 178, 179, 180, 181, 182, 183, 184, 48, 185, 186, 187, 188, 189, 190, 191, 192, 193, 194, 195, 196, 197, 198, 199, 200, 201, 202, 203, 204, 205, 206, 207, 208, 209, 210, 211, 212, 213, 214, 215, 216, 217, 218, 219, 220, 221, 222, 223, 224, 225, 226, 227, 228, 229, 230, 231, 232, 233, 234, 235, 236, 237, 238, 239, 240, 241, 242, 243, 244, 245, 246, 247, 248, 249, 250, 896, 897, 898, 899, 900, 901, 902, 925, 926, 927, 928, 929, 930, 931, 932, 933, 934, 935, 923, 924] (by decide +kernel) (by decide +kernel)
set_option maxRecDepth 20000 in
theorem gL_law_X7_fault : GoodIn wsL_law (wsV RL 23 RX7 yX7_fault wsX7_fault) := goodIn_app (goodIn_of _ (by decide +kernel)) ggL_law_X7_fault
set_option maxRecDepth 20000 in
theorem ggL_law_X8_fault : GoodIn wsL_law wsX8_fault := goodIn_r _ [405, 406, 407, 408, 5, 409, 389, 350, 410, 362, 363, 364, 365, 361, 354, 352, 411, 412, 413, 414, 415, 416, 417, 418, 419, 420, 421, 422, 423, 424, 425, 426, 427, 428, 429, 430, 431, 432, 433, 434, 435, 436, 437, 366, 367, 368, 369, 438, 439, 440, 441, 442, 443, 444, 445, 903, 904, 905, 906, 907, 908, 909, 910, 911, 912, 913, 914, 915, 916, 917, 918, 919, 920, 921, 922] (by decide +kernel) (by decide +kernel)
set_option maxRecDepth 20000 in
theorem gL_law_X8_fault : GoodIn wsL_law (wsV RL 26 RX8 yX8_fault wsX8_fault) := goodIn_app (goodIn_of _ (by decide +kernel)) ggL_law_X8_fault
set_option maxRecDepth 20000 in
theorem ggL_law_X7_lay : GoodIn wsL_law wsX7_lay := goodIn_r _ [449, 139, 140, 141, 2, 142, 19, 15, 23, 36, 143, 144, 145, 18, 146, 46, 147, 148, 149, 22, 150, 52, 151, 152, 153, 154, 155, 156, 157, 158, 159, 160, 161, 162, 163, 54, 55, 56, 164, 165, 166, 14, 167, 134, 168, 169, 170, 171, 172, 173, 174, 175, 41, 176, 177, 178, 179, 180, 181, 182, 183, 184, 48, 185, 186, 187, 188, 189, 190, 191, 192, 193, 194, 195, 196, 197, 198, 199, 200, 201, 202, 203, 204, 205, 206, 207, 208, 209, 210, 211, 212, 213, 214, 215, 216, 217, 218, 219, 220, 221, 222, 223, 224, 225, 226, 227, 228, 229, 230, 231, 232, 233, 234, 235, 236, 237, 238, 239, 240, 241, 242, 243, 244, 245, 246, 247, 248, 249, 250, 251, 252, 253, 254, 255, 256, 257, 258, 259, 260, 261, 262, 263, 264, 265, 266, 35, 267, 268, 269, 270, 271, 272, 27, 31, 273, 274, 275, 26, 276, 60, 277, 278, 279, 280, 281, 282, 283, 284, 285, 286, 287, 288, 289, 290, 291, 292, 293, 294, 295, 296, 297, 298, 30, 299, 68, 65, 66, 67, 300, 301, 302, 303, 304, 305, 306, 307, 308, 309, 310, 311, 312, 313, 314, 315, 316, 317, 318, 319, 320, 321, 322, 323, 324, 325, 326, 327, 328, 329, 330, 331, 332, 69, 333, 334, 335, 336, 337, 338, 339, 340, 341, 896, 897, 898, 899, 900, 901, 902, 925, 926, 927, 928, 929, 930, 931, 932, 933, 934, 935, 923, 924, 943, 944, 945, 936, 937, 938, 939, 940, 941, 942] (by decide +kernel) (by decide +kernel)
set_option maxRecDepth 20000 in
theorem gL_law_X7_lay : GoodIn wsL_law (wsV RL 27 RX7 yX7_lay wsX7_lay) := goodIn_app (goodIn_of _ (by decide +kernel)) ggL_law_X7_lay
set_option maxRecDepth 20000 in
theorem ggL_law_X8_lay : GoodIn wsL_law wsX8_lay := goodIn_r _ [453, 361, 374, 406, 407, 408, 5, 409, 389, 350, 410, 362, 363, 364, 365, 354, 352, 411, 412, 413, 414, 415, 416, 417, 418, 419, 420, 421, 422, 423, 424, 425, 426, 427, 428, 429, 430, 431, 432, 433, 434, 435, 436, 437, 366, 367, 368, 369, 438, 439, 440, 441, 442, 443, 444, 445, 370, 371, 372, 373, 375, 376, 351, 377, 903, 904, 905, 906, 907, 908, 909, 910, 911, 912, 913, 914, 915, 916, 917, 918, 919, 920, 921, 922] (by decide +kernel) (by decide +kernel)
set_option maxRecDepth 20000 in
theorem gL_law_X8_lay : GoodIn wsL_law (wsV RL 30 RX8 yX8_lay wsX8_lay) := goodIn_app (goodIn_of _ (by decide +kernel)) ggL_law_X8_lay
set_option maxRecDepth 20000 in
theorem ggL_law_X7_link : GoodIn wsL_law wsX7_link := goodIn_r _ [457, 23, 458, 206, 207, 22, 208, 209, 210, 211, 212, 151, 382, 176, 2, 177, 459, 214, 215, 216, 52, 460, 218, 219, 220, 152, 461, 462, 463, 464, 36, 465, 466, 467, 35, 468, 469, 470, 471, 472, 75, 473, 268, 474, 475, 327, 476, 477, 478, 479, 77, 480, 481, 482, 483, 484, 485, 486, 222, 223, 224, 225, 269, 270, 271, 272, 27, 31, 273, 274, 275, 26, 276, 60, 277, 278, 190, 191, 192, 279, 280, 281, 282, 283, 284, 285, 286, 287, 288, 289, 290, 291, 292, 293, 294, 295, 155, 296, 297, 298, 30, 299, 68, 65, 66, 67, 300, 301, 302, 303, 304, 54, 55, 305, 306, 307, 308, 153, 154, 309, 310, 311, 312, 313, 314, 315, 316, 317, 318, 319, 56, 320, 321, 322, 323, 324, 325, 326, 328, 329, 330, 331, 332, 69, 333, 334, 335, 336, 337, 338, 339, 340, 341, 896, 897, 898, 899, 900, 901, 902, 927, 928, 929, 930, 931, 932, 933, 934, 935, 943, 944, 945, 946, 947, 948, 949, 950, 951, 952, 953, 936, 937, 938, 939, 940, 941, 942] (by decide +kernel) (by decide +kernel)
set_option maxRecDepth 20000 in
theorem gL_law_X7_link : GoodIn wsL_law (wsV RL 31 RX7 yX7_link wsX7_link) := goodIn_app (goodIn_of _ (by decide +kernel)) ggL_law_X7_link
set_option maxRecDepth 20000 in
theorem ggL_law_X8_link : GoodIn wsL_law wsX8_link := goodIn_r _ [490, 351, 491, 492, 493, 5, 494, 495, 496, 497, 498, 374, 424, 425, 426, 435, 436, 437, 499, 500, 501, 502, 377, 353, 503, 504, 505, 506, 903, 904, 905, 906, 907, 908, 909, 910, 911, 912, 913, 914, 915, 916, 917, 918, 919, 920, 921, 922] (by decide +kernel) (by decide +kernel)
set_option maxRecDepth 20000 in
theorem gL_law_X8_link : GoodIn wsL_law (wsV RL 35 RX8 yX8_link wsX8_link) := goodIn_app (goodIn_of _ (by decide +kernel)) ggL_law_X8_link
set_option maxRecDepth 20000 in
theorem ggL_law_X7_unlink : GoodIn wsL_law wsX7_unlink := goodIn_r _ [510, 23, 458, 206, 207, 22, 208, 209, 210, 211, 212, 151, 459, 214, 215, 216, 52, 461, 462, 463, 2, 464, 36, 465, 466, 467, 35, 468, 469, 470, 471, 472, 75, 473, 268, 474, 475, 327, 476, 477, 478, 479, 77, 480, 481, 482, 483, 484, 485, 486, 222, 223, 224, 152, 225, 269, 270, 271, 272, 27, 31, 273, 274, 275, 26, 276, 60, 277, 278, 190, 191, 192, 279, 280, 281, 282, 283, 284, 285, 286, 287, 288, 289, 290, 291, 292, 293, 294, 295, 155, 296, 297, 298, 30, 299, 68, 65, 66, 67, 300, 301, 302, 303, 304, 54, 55, 305, 306, 307, 308, 153, 154, 309, 310, 311, 312, 313, 314, 315, 316, 317, 318, 319, 56, 320, 321, 322, 323, 324, 325, 326, 328, 329, 330, 331, 332, 69, 333, 334, 335, 336, 337, 338, 339, 340, 341, 896, 897, 898, 899, 900, 901, 902, 927, 928, 929, 930, 931, 932, 933, 934, 935, 943, 944, 945, 946, 947, 948, 949, 950, 951, 952, 953, 936, 937, 938, 939, 940, 941, 942] (by decide +kernel) (by decide +kernel)
set_option maxRecDepth 20000 in
theorem gL_law_X7_unlink : GoodIn wsL_law (wsV RL 36 RX7 yX7_unlink wsX7_unlink) := goodIn_app (goodIn_of _ (by decide +kernel)) ggL_law_X7_unlink
set_option maxRecDepth 20000 in
theorem ggL_law_X8_unlink : GoodIn wsL_law wsX8_unlink := goodIn_r _ [514, 351, 491, 492, 493, 5, 494, 495, 496, 497, 498, 374, 424, 425, 426, 499, 500, 501, 502, 377, 353, 503, 504, 505, 506, 903, 904, 905, 906, 907, 908, 909, 910, 911, 912, 913, 914, 915, 916, 917, 918, 919, 920, 921, 922] (by decide +kernel) (by decide +kernel)
set_option maxRecDepth 20000 in
theorem gL_law_X8_unlink : GoodIn wsL_law (wsV RL 40 RX8 yX8_unlink wsX8_unlink) := goodIn_app (goodIn_of _ (by decide +kernel)) ggL_law_X8_unlink
set_option maxRecDepth 20000 in
theorem ggL_law_X7_delay : GoodIn wsL_law wsX7_delay := goodIn_r _ [518, 23, 31, 36, 519, 210, 211, 22, 212, 151, 382, 176, 2, 177, 520, 521, 522, 30, 523, 65, 524, 525, 526, 35, 527, 469, 470, 471, 472, 75, 473, 268, 474, 475, 327, 476, 528, 529, 530, 77, 531, 481, 482, 532, 533, 534, 535, 536, 537, 538, 54, 539, 293, 294, 295, 155, 540, 302, 303, 304, 55, 305, 306, 307, 308, 153, 154, 309, 310, 311, 312, 313, 314, 315, 541, 317, 318, 319, 56, 542, 232, 233, 234, 292, 296, 297, 298, 299, 68, 66, 67, 300, 190, 191, 192, 301, 316, 320, 321, 322, 323, 324, 325, 326, 328, 329, 330, 331, 332, 69, 333, 334, 335, 336, 337, 285, 286, 26, 287, 60, 338, 339, 340, 341, 896, 897, 898, 899, 900, 901, 902, 927, 928, 929, 930, 931, 932, 933, 934, 935, 937, 938, 939, 940, 941, 942, 943, 944, 945, 946, 947, 948, 949, 950, 951, 952, 953, 936] (by decide +kernel) (by decide +kernel)
set_option maxRecDepth 20000 in
theorem gL_law_X7_delay : GoodIn wsL_law (wsV RL 41 RX7 yX7_delay wsX7_delay) := goodIn_app (goodIn_of _ (by decide +kernel)) ggL_law_X7_delay
set_option maxRecDepth 20000 in
theorem ggL_law_X8_delay : GoodIn wsL_law wsX8_delay := goodIn_r _ [546, 356, 351, 495, 496, 497, 5, 498, 374, 424, 425, 426, 547, 548, 549, 550, 551, 552, 553, 554, 357, 555, 556, 557, 558, 355, 559, 560, 561, 562, 563, 375, 376, 564, 565, 566, 567, 568, 569, 570, 571, 572, 573, 574, 575, 358, 359, 360, 576, 577, 578, 579, 580, 581, 582, 583, 499, 500, 501, 502, 377, 353, 903, 904, 905, 906, 907, 908, 909, 910, 911, 912, 913, 914, 915, 916, 917, 918, 919, 920, 921, 922] (by decide +kernel) (by decide +kernel)
set_option maxRecDepth 20000 in
theorem gL_law_X8_delay : GoodIn wsL_law (wsV RL 44 RX8 yX8_delay wsX8_delay) := goodIn_app (goodIn_of _ (by decide +kernel)) ggL_law_X8_delay
set_option maxRecDepth 20000 in
theorem ggL_law_X7_drawn : GoodIn wsL_law wsX7_drawn := goodIn_r _ [587, 23, 36, 31, 519, 210, 211, 22, 212, 151, 588, 536, 537, 538, 54, 524, 525, 526, 35, 527, 469, 470, 471, 472, 75, 473, 268, 474, 475, 327, 476, 528, 529, 530, 77, 531, 481, 482, 532, 533, 534, 535, 539, 293, 294, 295, 155, 540, 302, 303, 304, 55, 305, 306, 307, 308, 153, 154, 309, 310, 311, 312, 313, 314, 315, 541, 317, 318, 319, 56, 589, 161, 162, 163, 292, 296, 297, 298, 30, 299, 68, 65, 66, 67, 300, 190, 191, 192, 301, 316, 320, 321, 322, 323, 324, 325, 326, 328, 329, 330, 331, 332, 69, 333, 334, 335, 336, 337, 285, 286, 26, 287, 60, 338, 339, 340, 341, 520, 521, 522, 523, 896, 897, 898, 899, 900, 901, 902, 927, 928, 929, 930, 931, 932, 933, 934, 935, 943, 944, 945, 946, 947, 948, 949, 950, 951, 952, 953, 937, 938, 939, 940, 941, 942, 936] (by decide +kernel) (by decide +kernel)
set_option maxRecDepth 20000 in
theorem gL_law_X7_drawn : GoodIn wsL_law (wsV RL 45 RX7 yX7_drawn wsX7_drawn) := goodIn_app (goodIn_of _ (by decide +kernel)) ggL_law_X7_drawn
set_option maxRecDepth 20000 in
theorem ggL_law_X8_drawn : GoodIn wsL_law wsX8_drawn := goodIn_r _ [593, 351, 495, 496, 497, 5, 498, 374, 424, 425, 426, 499, 500, 501, 502, 377, 353, 560, 561, 562, 563, 375, 376, 564, 565, 566, 567, 568, 569, 570, 903, 904, 905, 906, 907, 908, 909, 910, 911, 912, 913, 914, 915, 916, 917, 918, 919, 920, 921, 922] (by decide +kernel) (by decide +kernel)
set_option maxRecDepth 20000 in
theorem gL_law_X8_drawn : GoodIn wsL_law (wsV RL 48 RX8 yX8_drawn wsX8_drawn) := goodIn_app (goodIn_of _ (by decide +kernel)) ggL_law_X8_drawn
set_option maxRecDepth 20000 in
theorem ggL_law_X7_draws : GoodIn wsL_law wsX7_draws := goodIn_r _ [597, 23, 36, 31, 382, 176, 2, 177, 292, 293, 294, 22, 295, 155, 598, 599, 600, 35, 601, 469, 470, 471, 472, 75, 473, 268, 474, 475, 327, 476, 602, 603, 604, 77, 605, 481, 606, 539, 607, 248, 249, 250, 296, 297, 298, 30, 299, 68, 65, 66, 67, 300, 190, 191, 192, 151, 301, 302, 303, 304, 54, 55, 305, 306, 307, 308, 153, 154, 309, 310, 311, 312, 313, 314, 315, 316, 317, 318, 319, 56, 320, 321, 322, 323, 324, 325, 326, 328, 329, 330, 331, 332, 69, 333, 334, 335, 336, 337, 285, 286, 26, 287, 60, 338, 339, 340, 341, 896, 897, 898, 899, 900, 901, 902, 927, 928, 929, 930, 931, 932, 933, 934, 935, 943, 944, 945, 946, 947, 948, 949, 950, 951, 952, 953, 937, 938, 939, 940, 941, 942, 936] (by decide +kernel) (by decide +kernel)
set_option maxRecDepth 20000 in
theorem gL_law_X7_draws : GoodIn wsL_law (wsV RL 49 RX7 yX7_draws wsX7_draws) := goodIn_app (goodIn_of _ (by decide +kernel)) ggL_law_X7_draws
set_option maxRecDepth 20000 in
theorem ggL_law_X8_draws : GoodIn wsL_law wsX8_draws := goodIn_r _ [611, 351, 424, 425, 5, 426, 499, 500, 501, 502, 377, 353, 903, 904, 905, 906, 907, 908, 909, 910, 911, 912, 913, 914, 915, 916, 917, 918, 919, 920, 921, 922] (by decide +kernel) (by decide +kernel)
set_option maxRecDepth 20000 in
theorem gL_law_X8_draws : GoodIn wsL_law (wsV RL 52 RX8 yX8_draws wsX8_draws) := goodIn_app (goodIn_of _ (by decide +kernel)) ggL_law_X8_draws
set_option maxRecDepth 20000 in
theorem ggL_law_X7_undo : GoodIn wsL_law wsX7_undo := goodIn_r _ [615, 36, 23, 616, 617, 618, 35, 619, 268, 620, 621, 622, 623, 473, 75, 624, 625, 626, 77, 627, 481, 482, 483, 484, 606, 532, 533, 534, 628, 222, 223, 22, 224, 152, 52, 225, 214, 215, 216, 629, 248, 249, 250, 155, 630, 232, 233, 234, 54, 55, 56, 631, 161, 162, 163, 269, 270, 271, 2, 272, 27, 31, 273, 274, 275, 26, 276, 60, 277, 278, 190, 191, 192, 151, 279, 280, 281, 282, 283, 284, 285, 286, 287, 288, 289, 290, 291, 292, 293, 294, 295, 296, 297, 298, 30, 299, 68, 65, 66, 67, 300, 301, 302, 303, 304, 305, 306, 307, 308, 153, 154, 309, 310, 311, 312, 313, 314, 315, 316, 317, 318, 319, 320, 321, 322, 323, 324, 325, 326, 327, 328, 329, 330, 331, 332, 69, 333, 334, 335, 336, 337, 338, 339, 340, 341, 896, 897, 898, 899, 900, 901, 902, 943, 944, 945, 946, 947, 948, 949, 950, 951, 952, 953, 927, 928, 929, 930, 931, 932, 933, 934, 935, 936, 937, 938, 939, 940, 941, 942] (by decide +kernel) (by decide +kernel)
set_option maxRecDepth 20000 in
theorem gL_law_X7_undo : GoodIn wsL_law (wsV RL 53 RX7 yX7_undo wsX7_undo) := goodIn_app (goodIn_of _ (by decide +kernel)) ggL_law_X7_undo
set_option maxRecDepth 20000 in
theorem ggL_law_X8_undo : GoodIn wsL_law wsX8_undo := goodIn_r _ [635, 377, 351, 353, 903, 904, 905, 906, 907, 908, 909, 910, 911, 912, 913, 914, 915, 916, 917, 918, 919, 920, 921, 922] (by decide +kernel) (by decide +kernel)
set_option maxRecDepth 20000 in
theorem gL_law_X8_undo : GoodIn wsL_law (wsV RL 56 RX8 yX8_undo wsX8_undo) := goodIn_app (goodIn_of _ (by decide +kernel)) ggL_law_X8_undo
set_option maxRecDepth 20000 in
theorem ggL_law_X7_place : GoodIn wsL_law wsX7_place := goodIn_r _ [639, 23, 31, 519, 210, 211, 22, 212, 151, 520, 521, 522, 30, 523, 65, 640, 641, 642, 643, 66, 588, 536, 537, 538, 54, 644, 334, 335, 336, 324, 645, 646, 647, 648, 67, 649, 650, 651, 652, 653, 654, 655, 656, 657, 658, 659, 660, 661, 662, 663, 664, 69, 337, 285, 286, 26, 287, 60, 665, 666, 667, 668, 333, 669, 670, 671, 672, 673, 68, 300, 190, 191, 192, 674, 214, 215, 216, 52, 675, 676, 677, 678, 679, 680, 681, 682, 225, 896, 897, 898, 899, 900, 901, 902, 927, 928, 929, 930, 931, 932, 933, 934, 935, 937, 938, 939, 940, 941, 942, 936] (by decide +kernel) (by decide +kernel)
set_option maxRecDepth 20000 in
theorem gL_law_X7_place : GoodIn wsL_law (wsV RL 57 RX7 yX7_place wsX7_place) := goodIn_app (goodIn_of _ (by decide +kernel)) ggL_law_X7_place
set_option maxRecDepth 20000 in
theorem ggL_law_X8_place : GoodIn wsL_law wsX8_place := goodIn_r _ [686, 356, 357, 351, 358, 360, 359, 374, 495, 496, 497, 5, 498, 424, 425, 426, 547, 548, 549, 550, 551, 552, 553, 554, 555, 556, 557, 558, 355, 559, 560, 561, 562, 563, 375, 376, 564, 565, 566, 567, 568, 569, 570, 571, 572, 573, 574, 575, 576, 577, 578, 579, 580, 581, 582, 583, 687, 688, 689, 690, 691, 692, 693, 694, 903, 904, 905, 906, 907, 908, 909, 910, 911, 912, 913, 914, 915, 916, 917, 918, 919, 920, 921, 922] (by decide +kernel) (by decide +kernel)
set_option maxRecDepth 20000 in
theorem gL_law_X8_place : GoodIn wsL_law (wsV RL 60 RX8 yX8_place wsX8_place) := goodIn_app (goodIn_of _ (by decide +kernel)) ggL_law_X8_place
set_option maxRecDepth 20000 in
theorem ggL_law_X7_far : GoodIn wsL_law wsX7_far := goodIn_r _ [698, 23, 27, 519, 210, 211, 22, 212, 151, 699, 281, 282, 26, 283, 277, 284, 285, 286, 287, 60, 700, 896, 897, 898, 899, 900, 901, 902, 927, 928, 929, 930, 931, 932, 933, 934, 935, 936] (by decide +kernel) (by decide +kernel)
set_option maxRecDepth 20000 in
theorem gL_law_X7_far : GoodIn wsL_law (wsV RL 61 RX7 yX7_far wsX7_far) := goodIn_app (goodIn_of _ (by decide +kernel)) ggL_law_X7_far
set_option maxRecDepth 20000 in
theorem ggL_law_X8_far : GoodIn wsL_law wsX8_far := goodIn_r _ [704, 355, 559, 495, 496, 497, 5, 498, 374, 424, 425, 426, 555, 556, 557, 558, 351, 903, 904, 905, 906, 907, 908, 909, 910, 911, 912, 913, 914, 915, 916, 917, 918, 919, 920, 921, 922] (by decide +kernel) (by decide +kernel)
set_option maxRecDepth 20000 in
theorem gL_law_X8_far : GoodIn wsL_law (wsV RL 64 RX8 yX8_far wsX8_far) := goodIn_app (goodIn_of _ (by decide +kernel)) ggL_law_X8_far
set_option maxRecDepth 20000 in
theorem ggL_law_X7_front : GoodIn wsL_law wsX7_front := goodIn_r _ [708, 23, 31, 382, 176, 2, 177, 255, 190, 191, 22, 192, 151, 665, 666, 667, 30, 668, 67, 333, 334, 335, 336, 324, 65, 669, 662, 663, 664, 69, 337, 285, 286, 26, 287, 60, 896, 897, 898, 899, 900, 901, 902, 927, 928, 929, 930, 931, 932, 933, 934, 935, 937, 938, 939, 940, 941, 942, 936] (by decide +kernel) (by decide +kernel)
set_option maxRecDepth 20000 in
theorem gL_law_X7_front : GoodIn wsL_law (wsV RL 65 RX7 yX7_front wsX7_front) := goodIn_app (goodIn_of _ (by decide +kernel)) ggL_law_X7_front
set_option maxRecDepth 20000 in
theorem ggL_law_X8_front : GoodIn wsL_law wsX8_front := goodIn_r _ [712, 374, 359, 424, 425, 5, 426, 547, 548, 549, 550, 351, 551, 552, 553, 554, 356, 357, 555, 556, 557, 558, 355, 559, 560, 561, 562, 563, 375, 376, 564, 565, 566, 567, 568, 569, 570, 571, 572, 573, 574, 575, 358, 360, 576, 577, 578, 579, 580, 581, 582, 583, 903, 904, 905, 906, 907, 908, 909, 910, 911, 912, 913, 914, 915, 916, 917, 918, 919, 920, 921, 922] (by decide +kernel) (by decide +kernel)
set_option maxRecDepth 20000 in
theorem gL_law_X8_front : GoodIn wsL_law (wsV RL 68 RX8 yX8_front wsX8_front) := goodIn_app (goodIn_of _ (by decide +kernel)) ggL_law_X8_front
set_option maxRecDepth 20000 in
theorem ggL_law_X7_linkOf : GoodIn wsL_law wsX7_linkOf := goodIn_r _ [716, 23, 31, 458, 206, 207, 22, 208, 209, 210, 211, 212, 151, 382, 176, 2, 177, 459, 214, 215, 216, 52, 717, 718, 719, 30, 720, 675, 676, 677, 678, 67, 721, 671, 672, 673, 68, 657, 658, 659, 660, 300, 190, 191, 192, 674, 669, 662, 663, 664, 69, 337, 285, 286, 26, 287, 60, 896, 897, 898, 899, 900, 901, 902, 927, 928, 929, 930, 931, 932, 933, 934, 935, 937, 938, 939, 940, 941, 942, 936] (by decide +kernel) (by decide +kernel)
set_option maxRecDepth 20000 in
theorem gL_law_X7_linkOf : GoodIn wsL_law (wsV RL 69 RX7 yX7_linkOf wsX7_linkOf) := goodIn_app (goodIn_of _ (by decide +kernel)) ggL_law_X7_linkOf
set_option maxRecDepth 20000 in
theorem ggL_law_X8_linkOf : GoodIn wsL_law wsX8_linkOf := goodIn_r _ [725, 351, 491, 492, 493, 5, 494, 495, 496, 497, 498, 374, 424, 425, 426, 547, 548, 549, 550, 551, 552, 553, 554, 356, 357, 555, 556, 557, 558, 355, 559, 560, 561, 562, 563, 375, 376, 564, 565, 566, 567, 568, 569, 570, 571, 572, 573, 574, 575, 358, 359, 360, 576, 577, 578, 579, 580, 581, 582, 583, 726, 727, 728, 729, 691, 692, 693, 694, 687, 688, 689, 690, 903, 904, 905, 906, 907, 908, 909, 910, 911, 912, 913, 914, 915, 916, 917, 918, 919, 920, 921, 922] (by decide +kernel) (by decide +kernel)
set_option maxRecDepth 20000 in
theorem gL_law_X8_linkOf : GoodIn wsL_law (wsV RL 72 RX8 yX8_linkOf wsX8_linkOf) := goodIn_app (goodIn_of _ (by decide +kernel)) ggL_law_X8_linkOf
set_option maxRecDepth 20000 in
theorem ggL_law_X7_cluster : GoodIn wsL_law wsX7_cluster := goodIn_r _ [733, 31, 734, 735, 736, 2, 737, 738, 739, 740, 30, 741, 68, 300, 190, 191, 22, 192, 151, 653, 654, 655, 656, 657, 658, 659, 660, 67, 382, 176, 177, 742, 743, 744, 745, 746, 650, 651, 652, 747, 748, 749, 750, 751, 752, 753, 754, 755, 756, 757, 758, 759, 760, 761, 325, 326, 327, 328, 669, 662, 663, 664, 69, 337, 285, 286, 26, 287, 60, 762, 763, 764, 765, 766, 767, 768, 769, 770, 771, 772, 773, 674, 214, 215, 216, 52, 774, 775, 776, 777, 896, 897, 898, 899, 900, 901, 902, 937, 938, 939, 940, 941, 942, 927, 928, 929, 930, 931, 932, 933, 934, 935, 936] (by decide +kernel) (by decide +kernel)
set_option maxRecDepth 20000 in
theorem gL_law_X7_cluster : GoodIn wsL_law (wsV RL 73 RX7 yX7_cluster wsX7_cluster) := goodIn_app (goodIn_of _ (by decide +kernel)) ggL_law_X7_cluster
set_option maxRecDepth 20000 in
theorem ggL_law_X8_cluster : GoodIn wsL_law wsX8_cluster := goodIn_r _ [781, 575, 374, 358, 547, 548, 549, 5, 550, 351, 551, 552, 553, 554, 356, 357, 555, 556, 557, 558, 355, 559, 560, 561, 562, 563, 375, 376, 564, 565, 566, 567, 568, 569, 570, 571, 572, 573, 574, 359, 360, 576, 577, 578, 579, 580, 581, 582, 583, 424, 425, 426, 782, 783, 784, 785, 786, 787, 788, 789, 687, 688, 689, 690, 790, 791, 792, 793, 903, 904, 905, 906, 907, 908, 909, 910, 911, 912, 913, 914, 915, 916, 917, 918, 919, 920, 921, 922] (by decide +kernel) (by decide +kernel)
set_option maxRecDepth 20000 in
theorem gL_law_X8_cluster : GoodIn wsL_law (wsV RL 76 RX8 yX8_cluster wsX8_cluster) := goodIn_app (goodIn_of _ (by decide +kernel)) ggL_law_X8_cluster
set_option maxRecDepth 20000 in
theorem ggL_law_X7_beside : GoodIn wsL_law wsX7_beside := goodIn_r _ [797, 31, 734, 735, 736, 2, 737, 738, 739, 740, 30, 741, 68, 300, 190, 191, 22, 192, 151, 653, 654, 655, 656, 657, 658, 659, 660, 67, 382, 176, 177, 742, 743, 744, 745, 746, 650, 651, 652, 798, 767, 768, 769, 770, 771, 772, 773, 674, 214, 215, 216, 52, 799, 800, 801, 802, 896, 897, 898, 899, 900, 901, 902, 937, 938, 939, 940, 941, 942, 927, 928, 929, 930, 931, 932, 933, 934, 935] (by decide +kernel) (by decide +kernel)
set_option maxRecDepth 20000 in
theorem gL_law_X7_beside : GoodIn wsL_law (wsV RL 77 RX7 yX7_beside wsX7_beside) := goodIn_app (goodIn_of _ (by decide +kernel)) ggL_law_X7_beside
set_option maxRecDepth 20000 in
theorem ggL_law_X8_beside : GoodIn wsL_law wsX8_beside := goodIn_r _ [806, 575, 547, 548, 549, 5, 550, 351, 551, 552, 553, 554, 374, 356, 357, 555, 556, 557, 558, 355, 559, 560, 561, 562, 563, 375, 376, 564, 565, 566, 567, 568, 569, 570, 571, 572, 573, 574, 358, 359, 360, 576, 577, 578, 579, 580, 581, 582, 583, 424, 425, 426, 790, 791, 792, 793, 903, 904, 905, 906, 907, 908, 909, 910, 911, 912, 913, 914, 915, 916, 917, 918, 919, 920, 921, 922] (by decide +kernel) (by decide +kernel)
set_option maxRecDepth 20000 in
theorem gL_law_X8_beside : GoodIn wsL_law (wsV RL 80 RX8 yX8_beside wsX8_beside) := goodIn_app (goodIn_of _ (by decide +kernel)) ggL_law_X8_beside
set_option maxRecDepth 20000 in
theorem ggL_law_X7_tried : GoodIn wsL_law wsX7_tried := goodIn_r _ [810, 32, 382, 176, 2, 177, 296, 297, 298, 30, 299, 68, 65, 66, 67, 300, 190, 191, 22, 192, 151, 301, 302, 303, 304, 54, 55, 305, 306, 307, 308, 153, 154, 309, 310, 311, 312, 313, 314, 315, 316, 317, 318, 319, 56, 320, 321, 322, 323, 324, 325, 326, 327, 328, 329, 330, 331, 332, 69, 333, 334, 335, 336, 337, 285, 286, 26, 287, 60, 338, 339, 340, 341, 738, 739, 740, 741, 653, 654, 655, 656, 657, 658, 659, 660, 811, 812, 813, 814, 674, 214, 215, 216, 52, 675, 676, 677, 678, 815, 816, 817, 818, 669, 662, 663, 664, 819, 820, 821, 822, 823, 666, 667, 668, 896, 897, 898, 899, 900, 901, 902, 937, 938, 939, 940, 941, 942, 927, 928, 929, 930, 931, 932, 933, 934, 935, 936] (by decide +kernel) (by decide +kernel)
set_option maxRecDepth 20000 in
theorem gL_law_X7_tried : GoodIn wsL_law (wsV RL 81 RX7 yX7_tried wsX7_tried) := goodIn_app (goodIn_of _ (by decide +kernel)) ggL_law_X7_tried
set_option maxRecDepth 20000 in
theorem ggL_law_X8_tried : GoodIn wsL_law wsX8_tried := goodIn_r _ [827, 575, 424, 425, 5, 426, 551, 552, 553, 554, 374, 351, 356, 357, 555, 556, 557, 558, 355, 559, 560, 561, 562, 563, 375, 376, 564, 565, 566, 567, 568, 569, 570, 571, 572, 573, 574, 358, 359, 360, 576, 577, 578, 579, 580, 581, 582, 583, 828, 829, 830, 831, 726, 727, 728, 729, 691, 692, 693, 694, 687, 688, 689, 690, 786, 787, 788, 789, 832, 833, 834, 835, 903, 904, 905, 906, 907, 908, 909, 910, 911, 912, 913, 914, 915, 916, 917, 918, 919, 920, 921, 922] (by decide +kernel) (by decide +kernel)
set_option maxRecDepth 20000 in
theorem gL_law_X8_tried : GoodIn wsL_law (wsV RL 84 RX8 yX8_tried wsX8_tried) := goodIn_app (goodIn_of _ (by decide +kernel)) ggL_law_X8_tried
set_option maxRecDepth 20000 in
theorem ggL_law_X7_best : GoodIn wsL_law wsX7_best := goodIn_r _ [839, 32, 382, 176, 2, 177, 296, 297, 298, 30, 299, 68, 65, 66, 67, 300, 190, 191, 22, 192, 151, 301, 302, 303, 304, 54, 55, 305, 306, 307, 308, 153, 154, 309, 310, 311, 312, 313, 314, 315, 316, 317, 318, 319, 56, 320, 321, 322, 323, 324, 325, 326, 327, 328, 329, 330, 331, 332, 69, 333, 334, 335, 336, 337, 285, 286, 26, 287, 60, 338, 339, 340, 341, 815, 816, 817, 818, 669, 662, 663, 664, 811, 812, 813, 814, 674, 214, 215, 216, 52, 675, 676, 677, 678, 896, 897, 898, 899, 900, 901, 902, 937, 938, 939, 940, 941, 942, 927, 928, 929, 930, 931, 932, 933, 934, 935, 936] (by decide +kernel) (by decide +kernel)
set_option maxRecDepth 20000 in
theorem gL_law_X7_best : GoodIn wsL_law (wsV RL 85 RX7 yX7_best wsX7_best) := goodIn_app (goodIn_of _ (by decide +kernel)) ggL_law_X7_best
set_option maxRecDepth 20000 in
theorem ggL_law_X8_best : GoodIn wsL_law wsX8_best := goodIn_r _ [843, 424, 425, 5, 426, 551, 552, 553, 554, 374, 351, 356, 357, 555, 556, 557, 558, 355, 559, 560, 561, 562, 563, 375, 376, 564, 565, 566, 567, 568, 569, 570, 571, 572, 573, 574, 575, 358, 359, 360, 576, 577, 578, 579, 580, 581, 582, 583, 828, 829, 830, 831, 726, 727, 728, 729, 691, 692, 693, 694, 687, 688, 689, 690, 786, 787, 788, 789, 903, 904, 905, 906, 907, 908, 909, 910, 911, 912, 913, 914, 915, 916, 917, 918, 919, 920, 921, 922] (by decide +kernel) (by decide +kernel)
set_option maxRecDepth 20000 in
theorem gL_law_X8_best : GoodIn wsL_law (wsV RL 88 RX8 yX8_best wsX8_best) := goodIn_app (goodIn_of _ (by decide +kernel)) ggL_law_X8_best
set_option maxRecDepth 20000 in
theorem ggL_law_X7_chance : GoodIn wsL_law wsX7_chance := goodIn_r _ [847, 23, 32, 458, 206, 207, 22, 208, 209, 210, 211, 212, 151, 382, 176, 2, 177, 459, 214, 215, 216, 52, 296, 297, 298, 30, 299, 68, 65, 66, 67, 300, 190, 191, 192, 301, 302, 303, 304, 54, 55, 305, 306, 307, 308, 153, 154, 309, 310, 311, 312, 313, 314, 315, 316, 317, 318, 319, 56, 320, 321, 322, 323, 324, 325, 326, 327, 328, 329, 330, 331, 332, 69, 333, 334, 335, 336, 337, 285, 286, 26, 287, 60, 338, 339, 340, 341, 848, 676, 677, 678, 849, 850, 851, 896, 897, 898, 899, 900, 901, 902, 927, 928, 929, 930, 931, 932, 933, 934, 935, 937, 938, 939, 940, 941, 942, 936] (by decide +kernel) (by decide +kernel)
set_option maxRecDepth 20000 in
theorem gL_law_X7_chance : GoodIn wsL_law (wsV RL 89 RX7 yX7_chance wsX7_chance) := goodIn_app (goodIn_of _ (by decide +kernel)) ggL_law_X7_chance
set_option maxRecDepth 20000 in
theorem ggL_law_X8_chance : GoodIn wsL_law wsX8_chance := goodIn_r _ [855, 351, 358, 491, 492, 493, 5, 494, 495, 496, 497, 498, 374, 424, 425, 426, 551, 552, 553, 554, 356, 357, 555, 556, 557, 558, 355, 559, 560, 561, 562, 563, 375, 376, 564, 565, 566, 567, 568, 569, 570, 571, 572, 573, 574, 575, 359, 360, 576, 577, 578, 579, 580, 581, 582, 583, 903, 904, 905, 906, 907, 908, 909, 910, 911, 912, 913, 914, 915, 916, 917, 918, 919, 920, 921, 922] (by decide +kernel) (by decide +kernel)
set_option maxRecDepth 20000 in
theorem gL_law_X8_chance : GoodIn wsL_law (wsV RL 93 RX8 yX8_chance wsX8_chance) := goodIn_app (goodIn_of _ (by decide +kernel)) ggL_law_X8_chance
