theorem goodIn_cons {big ws : List Cond} {c : Cond} (hc : GoodIn big [c]) (h : GoodIn big ws) : GoodIn big (c :: ws) := goodIn_app (a := [c]) hc h
theorem goodIn_nil {big : List Cond} : GoodIn big [] := fun _ h => absurd h List.not_mem_nil
set_option maxRecDepth 20000 in
theorem gt_X4_init_r1 : GoodIn lw_tbl wsX4_init_r1 := goodIn_r wsX4_init_r1 [55, 56, 57, 58, 59, 44, 189, 74, 75, 45, 190, 96, 97, 46, 191, 192, 193, 152, 153, 47, 194, 195, 196, 61] (by decide +kernel) (by decide +kernel)
set_option maxRecDepth 20000 in
theorem gt_X4_init_r2 : GoodIn lw_tbl wsX4_init_r2 := goodIn_r wsX4_init_r2 [62, 63, 73, 64, 77, 78, 79, 80, 81, 99, 100, 101, 102, 105, 121, 125, 126, 154, 155, 156, 157, 160, 161, 162] (by decide +kernel) (by decide +kernel)
set_option maxRecDepth 20000 in
theorem gt_X4_init_r3 : GoodIn lw_tbl wsX4_init_r3 := goodIn_r wsX4_init_r3 [163, 164, 165, 166, 167, 158, 159] (by decide +kernel) (by decide +kernel)
set_option maxRecDepth 20000 in
theorem gt_X20 : GoodIn lw_tbl wsX20 := goodIn_r wsX20 [68, 70] (by decide +kernel) (by decide +kernel)
set_option maxRecDepth 20000 in
theorem gt_X40 : GoodIn lw_tbl wsX40 := goodIn_r wsX40 [197, 199, 201, 203, 205, 207, 209, 211] (by decide +kernel) (by decide +kernel)
set_option maxRecDepth 20000 in
theorem gt_X00 : GoodIn lw_tbl wsX00 := goodIn_r wsX00 [87, 89, 91, 93] (by decide +kernel) (by decide +kernel)
set_option maxRecDepth 20000 in
theorem gt_X30 : GoodIn lw_tbl wsX30 := goodIn_r wsX30 [127, 129, 131, 133, 135, 137, 139, 141, 143, 145, 147, 149] (by decide +kernel) (by decide +kernel)
set_option maxRecDepth 20000 in
theorem gt_X10 : GoodIn lw_tbl wsX10 := goodIn_r wsX10 [168, 170, 172, 174, 176, 178, 180, 182, 184, 186] (by decide +kernel) (by decide +kernel)
set_option maxRecDepth 20000 in
theorem gt_X4_init : GoodIn lw_tbl wsX4_init := goodIn_cons (goodIn_r _ [54] (by decide +kernel) (by decide +kernel)) (goodIn_app (goodIn_app (goodIn_app (goodIn_app (goodIn_app (goodIn_app (gt_X4_init_r1) (goodIn_app (gt_X4_init_r2) (gt_X4_init_r3))) (gt_X20)) (gt_X40)) (gt_X00)) (gt_X30)) (gt_X10))
set_option maxRecDepth 20000 in
theorem gt_X4_letter : GoodIn lw_tbl wsX4_letter := goodIn_cons (goodIn_r _ [217] (by decide +kernel) (by decide +kernel)) (goodIn_app (goodIn_app (goodIn_r _ [189, 218, 219, 220, 44, 221, 65, 64, 223, 43, 224] (by decide +kernel) (by decide +kernel)) (gt_X40)) (gt_X20))
set_option maxRecDepth 20000 in
theorem gT_X4_letter : GoodIn lw_tbl (wsV RL 13 RX4 yX4_letter wsX4_letter) := goodIn_app (goodIn_r _ [214, 215, 216, 43] (by decide +kernel) (by decide +kernel)) gt_X4_letter
set_option maxRecDepth 20000 in
theorem gt_X4_blank : GoodIn lw_tbl wsX4_blank := goodIn_cons (goodIn_r _ [228] (by decide +kernel) (by decide +kernel)) (goodIn_app (goodIn_app (goodIn_r _ [189, 229, 230, 231, 44, 232, 65] (by decide +kernel) (by decide +kernel)) (gt_X40)) (gt_X20))
set_option maxRecDepth 20000 in
theorem gT_X4_blank : GoodIn lw_tbl (wsV RL 18 RX4 yX4_blank wsX4_blank) := goodIn_app (goodIn_r _ [225, 226, 227, 43] (by decide +kernel) (by decide +kernel)) gt_X4_blank
set_option maxRecDepth 20000 in
theorem gt_X4_fault : GoodIn lw_tbl wsX4_fault := goodIn_cons (goodIn_r _ [236] (by decide +kernel) (by decide +kernel)) (goodIn_app (goodIn_app (goodIn_r _ [189, 237, 238, 239, 44, 240, 65, 241, 242, 243, 244, 64, 246, 43, 247, 248, 249, 250, 251, 252, 253, 254, 255, 256] (by decide +kernel) (by decide +kernel)) (gt_X40)) (gt_X20))
set_option maxRecDepth 20000 in
theorem gT_X4_fault : GoodIn lw_tbl (wsV RL 23 RX4 yX4_fault wsX4_fault) := goodIn_app (goodIn_r _ [233, 234, 235, 43] (by decide +kernel) (by decide +kernel)) gt_X4_fault
set_option maxRecDepth 20000 in
theorem gt_X4_court_r1 : GoodIn lw_tbl wsX4_court_r1 := goodIn_r wsX4_court_r1 [189, 190, 191, 195, 196, 261, 262, 263, 44, 264, 65, 241, 242, 243, 244, 64, 246, 43, 247, 265, 238, 239, 240, 248] (by decide +kernel) (by decide +kernel)
set_option maxRecDepth 20000 in
theorem gt_X4_court_r2 : GoodIn lw_tbl wsX4_court_r2 := goodIn_r wsX4_court_r2 [249, 250, 251, 252, 253, 254, 255, 256, 266, 267, 268, 45, 269, 270, 271, 49, 272, 82, 80, 81, 84, 273, 274, 223] (by decide +kernel) (by decide +kernel)
set_option maxRecDepth 20000 in
theorem gt_X4_court_r3 : GoodIn lw_tbl wsX4_court_r3 := goodIn_r wsX4_court_r3 [224, 229, 230, 231, 232, 276, 277, 278, 46, 279, 113, 115, 117, 119, 123, 121, 280, 282, 0, 283, 102, 105, 109, 111] (by decide +kernel) (by decide +kernel)
set_option maxRecDepth 20000 in
theorem gt_X4_court_r4 : GoodIn lw_tbl wsX4_court_r4 := goodIn_r wsX4_court_r4 [285, 286] (by decide +kernel) (by decide +kernel)
set_option maxRecDepth 20000 in
theorem gt_X4_court : GoodIn lw_tbl wsX4_court := goodIn_cons (goodIn_r _ [260] (by decide +kernel) (by decide +kernel)) (goodIn_app (goodIn_app (goodIn_app (goodIn_app (goodIn_app (gt_X4_court_r1) (goodIn_app (gt_X4_court_r2) (goodIn_app (gt_X4_court_r3) (gt_X4_court_r4)))) (gt_X40)) (gt_X00)) (gt_X20)) (gt_X30))
set_option maxRecDepth 20000 in
theorem gT_X4_court : GoodIn lw_tbl (wsV RL 27 RX4 yX4_court wsX4_court) := goodIn_app (goodIn_r _ [257, 258, 259, 43] (by decide +kernel) (by decide +kernel)) gt_X4_court
set_option maxRecDepth 20000 in
theorem gt_X4_seat_r1 : GoodIn lw_tbl wsX4_seat_r1 := goodIn_r wsX4_seat_r1 [190, 191, 194, 291, 292, 293, 45, 294, 82, 295, 296, 297, 298, 80, 299, 300, 301, 302, 81, 303, 304, 43, 305, 306] (by decide +kernel) (by decide +kernel)
set_option maxRecDepth 20000 in
theorem gt_X4_seat_r2 : GoodIn lw_tbl wsX4_seat_r2 := goodIn_r wsX4_seat_r2 [307, 308, 309, 310, 312, 314, 1, 315, 316, 246, 247, 317, 318, 319, 47, 320, 162, 344, 271, 49, 272, 321, 323, 2] (by decide +kernel) (by decide +kernel)
set_option maxRecDepth 20000 in
theorem gt_X4_seat_r3 : GoodIn lw_tbl wsX4_seat_r3 := goodIn_r wsX4_seat_r3 [324, 158, 159, 160, 161, 325, 326, 327, 328, 329, 330, 331, 332, 223, 224, 334, 335, 336, 337, 285, 286, 339, 341, 3] (by decide +kernel) (by decide +kernel)
set_option maxRecDepth 20000 in
theorem gt_X4_seat_r4 : GoodIn lw_tbl wsX4_seat_r4 := goodIn_r wsX4_seat_r4 [342, 345, 346, 347, 348] (by decide +kernel) (by decide +kernel)
set_option maxRecDepth 20000 in
theorem gt_X4_seat : GoodIn lw_tbl wsX4_seat := goodIn_cons (goodIn_r _ [290] (by decide +kernel) (by decide +kernel)) (goodIn_app (goodIn_app (goodIn_app (goodIn_app (goodIn_app (gt_X4_seat_r1) (goodIn_app (gt_X4_seat_r2) (goodIn_app (gt_X4_seat_r3) (gt_X4_seat_r4)))) (gt_X40)) (gt_X30)) (gt_X00)) (gt_X10))
set_option maxRecDepth 20000 in
theorem gT_X4_seat : GoodIn lw_tbl (wsV RL 31 RX4 yX4_seat wsX4_seat) := goodIn_app (goodIn_r _ [287, 288, 289, 43] (by decide +kernel) (by decide +kernel)) gt_X4_seat
set_option maxRecDepth 20000 in
theorem gt_X4_as : GoodIn lw_tbl wsX4_as := goodIn_cons (goodIn_r _ [352] (by decide +kernel) (by decide +kernel)) (goodIn_app (goodIn_app (goodIn_r _ [190, 291, 292, 293, 45, 294, 82, 353, 354, 355, 356, 310, 296, 297, 298, 80, 357] (by decide +kernel) (by decide +kernel)) (gt_X40)) (gt_X00))
set_option maxRecDepth 20000 in
theorem gT_X4_as : GoodIn lw_tbl (wsV RL 36 RX4 yX4_as wsX4_as) := goodIn_app (goodIn_r _ [349, 350, 351, 43] (by decide +kernel) (by decide +kernel)) gt_X4_as
set_option maxRecDepth 20000 in
theorem gt_X4_breath_r1 : GoodIn lw_tbl wsX4_breath_r1 := goodIn_r wsX4_breath_r1 [190, 191, 362, 363, 364, 45, 365, 82, 366, 367, 368, 369, 370, 371, 372, 46, 373, 102, 109, 119, 111, 304, 43, 305] (by decide +kernel) (by decide +kernel)
set_option maxRecDepth 20000 in
theorem gt_X4_breath_r2 : GoodIn lw_tbl wsX4_breath_r2 := goodIn_r wsX4_breath_r2 [375, 307, 308, 309, 310, 296, 297, 298, 80, 312, 314, 1, 315, 376, 378, 4, 379, 105, 380, 300, 301, 302, 81, 381] (by decide +kernel) (by decide +kernel)
set_option maxRecDepth 20000 in
theorem gt_X4_breath_r3 : GoodIn lw_tbl wsX4_breath_r3 := goodIn_r wsX4_breath_r3 [383, 5, 384, 113, 115, 117, 280, 282, 0, 283, 385, 387, 6, 388, 121, 246, 247, 223, 224, 391, 335, 336, 337, 392] (by decide +kernel) (by decide +kernel)
set_option maxRecDepth 20000 in
theorem gt_X4_breath_r4 : GoodIn lw_tbl wsX4_breath_r4 := goodIn_r wsX4_breath_r4 [330, 331, 332] (by decide +kernel) (by decide +kernel)
set_option maxRecDepth 20000 in
theorem gt_X4_breath : GoodIn lw_tbl wsX4_breath := goodIn_cons (goodIn_r _ [361] (by decide +kernel) (by decide +kernel)) (goodIn_app (goodIn_app (goodIn_app (goodIn_app (gt_X4_breath_r1) (goodIn_app (gt_X4_breath_r2) (goodIn_app (gt_X4_breath_r3) (gt_X4_breath_r4)))) (gt_X40)) (gt_X00)) (gt_X30))
set_option maxRecDepth 20000 in
theorem gT_X4_breath : GoodIn lw_tbl (wsV RL 40 RX4 yX4_breath wsX4_breath) := goodIn_app (goodIn_r _ [358, 359, 360, 43] (by decide +kernel) (by decide +kernel)) gt_X4_breath
set_option maxRecDepth 20000 in
theorem gt_X4_get_r1 : GoodIn lw_tbl wsX4_get_r1 := goodIn_r wsX4_get_r1 [190, 194, 291, 292, 293, 45, 294, 82, 317, 318, 319, 47, 320, 162, 344, 271, 49, 272, 321, 323, 2, 324, 158, 159] (by decide +kernel) (by decide +kernel)
set_option maxRecDepth 20000 in
theorem gt_X4_get_r2 : GoodIn lw_tbl wsX4_get_r2 := goodIn_r wsX4_get_r2 [160, 161, 325, 307, 308, 309, 310, 296, 297, 298, 80, 304, 43, 305, 312, 314, 1, 315, 326, 327, 328, 329, 330, 331] (by decide +kernel) (by decide +kernel)
set_option maxRecDepth 20000 in
theorem gt_X4_get_r3 : GoodIn lw_tbl wsX4_get_r3 := goodIn_r wsX4_get_r3 [332, 223, 224, 334, 335, 336, 337, 285, 286, 339, 341, 3, 342, 246, 247, 345, 346, 347, 348, 397, 398, 399, 400, 401] (by decide +kernel) (by decide +kernel)
set_option maxRecDepth 20000 in
theorem gt_X4_get : GoodIn lw_tbl wsX4_get := goodIn_cons (goodIn_r _ [396] (by decide +kernel) (by decide +kernel)) (goodIn_app (goodIn_app (goodIn_app (goodIn_app (goodIn_app (gt_X4_get_r1) (goodIn_app (gt_X4_get_r2) (gt_X4_get_r3))) (gt_X40)) (gt_X00)) (gt_X10)) (gt_X30))
set_option maxRecDepth 20000 in
theorem gT_X4_get : GoodIn lw_tbl (wsV RL 44 RX4 yX4_get wsX4_get) := goodIn_app (goodIn_r _ [393, 394, 395, 43] (by decide +kernel) (by decide +kernel)) gt_X4_get
set_option maxRecDepth 20000 in
theorem gt_X4_play_r1 : GoodIn lw_tbl wsX4_play_r1 := goodIn_r wsX4_play_r1 [190, 194, 366, 367, 368, 45, 369, 82, 406, 407, 408, 47, 409, 163, 321, 323, 2, 324, 158, 159, 160, 161, 325, 307] (by decide +kernel) (by decide +kernel)
set_option maxRecDepth 20000 in
theorem gt_X4_play_r2 : GoodIn lw_tbl wsX4_play_r2 := goodIn_r wsX4_play_r2 [308, 309, 310, 296, 297, 298, 80, 304, 43, 305, 312, 314, 1, 315, 326, 327, 328, 329, 330, 331, 332, 223, 224, 334] (by decide +kernel) (by decide +kernel)
set_option maxRecDepth 20000 in
theorem gt_X4_play_r3 : GoodIn lw_tbl wsX4_play_r3 := goodIn_r wsX4_play_r3 [335, 336, 337, 410, 411, 412, 413, 415, 7, 416, 417, 300, 301, 302, 81, 418, 420, 8, 421, 164, 422, 424, 9, 425] (by decide +kernel) (by decide +kernel)
set_option maxRecDepth 20000 in
theorem gt_X4_play_r4 : GoodIn lw_tbl wsX4_play_r4 := goodIn_r wsX4_play_r4 [426, 428, 10, 429, 246, 247, 430, 432, 11, 433, 434, 435, 436, 437, 438, 49, 439, 344, 271, 272, 441, 442, 316, 443] (by decide +kernel) (by decide +kernel)
