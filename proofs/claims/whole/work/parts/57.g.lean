set_option maxRecDepth 20000 in
theorem gt_X4_play_r5 : GoodIn lw_tbl wsX4_play_r5 := goodIn_r wsX4_play_r5 [444, 445, 446, 447, 448, 449, 450, 451] (by decide +kernel) (by decide +kernel)
set_option maxRecDepth 20000 in
theorem gt_X4_play : GoodIn lw_tbl wsX4_play := goodIn_cons (goodIn_r _ [405] (by decide +kernel) (by decide +kernel)) (goodIn_app (goodIn_app (goodIn_app (goodIn_app (goodIn_app (gt_X4_play_r1) (goodIn_app (gt_X4_play_r2) (goodIn_app (gt_X4_play_r3) (goodIn_app (gt_X4_play_r4) (gt_X4_play_r5))))) (gt_X40)) (gt_X00)) (gt_X10)) (gt_X30))
set_option maxRecDepth 20000 in
theorem gT_X4_play : GoodIn lw_tbl (wsV RL 48 RX4 yX4_play wsX4_play) := goodIn_app (goodIn_r _ [402, 403, 404, 43] (by decide +kernel) (by decide +kernel)) gt_X4_play
set_option maxRecDepth 20000 in
theorem gt_X4_hear : GoodIn lw_tbl wsX4_hear := goodIn_cons (goodIn_r _ [455] (by decide +kernel) (by decide +kernel)) (goodIn_app (goodIn_app (goodIn_app (goodIn_r _ [190, 191, 291, 292, 293, 45, 294, 82, 456, 457, 458, 46, 459, 123, 125, 126, 223, 43, 224] (by decide +kernel) (by decide +kernel)) (gt_X40)) (gt_X30)) (gt_X00))
set_option maxRecDepth 20000 in
theorem gT_X4_hear : GoodIn lw_tbl (wsV RL 52 RX4 yX4_hear wsX4_hear) := goodIn_app (goodIn_r _ [452, 453, 454, 43] (by decide +kernel) (by decide +kernel)) gt_X4_hear
set_option maxRecDepth 20000 in
theorem gt_X4_forget : GoodIn lw_tbl wsX4_forget := goodIn_cons (goodIn_r _ [463] (by decide +kernel) (by decide +kernel)) (goodIn_app (goodIn_app (goodIn_r _ [191] (by decide +kernel) (by decide +kernel)) (gt_X40)) (gt_X30))
set_option maxRecDepth 20000 in
theorem gT_X4_forget : GoodIn lw_tbl (wsV RL 56 RX4 yX4_forget wsX4_forget) := goodIn_app (goodIn_r _ [460, 461, 462, 43] (by decide +kernel) (by decide +kernel)) gt_X4_forget
set_option maxRecDepth 20000 in
theorem gt_X4_rows_r1 : GoodIn lw_tbl wsX4_rows_r1 := goodIn_r wsX4_rows_r1 [190, 194, 366, 367, 368, 45, 369, 82, 468, 469, 470, 47, 471, 165, 159, 160, 321, 323, 2, 324, 158, 161, 325, 307] (by decide +kernel) (by decide +kernel)
set_option maxRecDepth 20000 in
theorem gt_X4_rows_r2 : GoodIn lw_tbl wsX4_rows_r2 := goodIn_r wsX4_rows_r2 [308, 309, 310, 296, 297, 298, 80, 304, 43, 305, 312, 314, 1, 315, 326, 327, 328, 329, 330, 331, 332, 223, 224, 334] (by decide +kernel) (by decide +kernel)
set_option maxRecDepth 20000 in
theorem gt_X4_rows_r3 : GoodIn lw_tbl wsX4_rows_r3 := goodIn_r wsX4_rows_r3 [335, 336, 337, 285, 286, 472, 473, 474, 475, 476, 477, 46, 478, 123, 125, 126, 246, 247, 479, 481, 12, 482, 483, 484] (by decide +kernel) (by decide +kernel)
set_option maxRecDepth 20000 in
theorem gt_X4_rows_r4 : GoodIn lw_tbl wsX4_rows_r4 := goodIn_r wsX4_rows_r4 [485, 486, 487, 488, 489, 490] (by decide +kernel) (by decide +kernel)
set_option maxRecDepth 20000 in
theorem gt_X4_rows : GoodIn lw_tbl wsX4_rows := goodIn_cons (goodIn_r _ [467] (by decide +kernel) (by decide +kernel)) (goodIn_app (goodIn_app (goodIn_app (goodIn_app (goodIn_app (gt_X4_rows_r1) (goodIn_app (gt_X4_rows_r2) (goodIn_app (gt_X4_rows_r3) (gt_X4_rows_r4)))) (gt_X40)) (gt_X00)) (gt_X10)) (gt_X30))
set_option maxRecDepth 20000 in
theorem gT_X4_rows : GoodIn lw_tbl (wsV RL 60 RX4 yX4_rows wsX4_rows) := goodIn_app (goodIn_r _ [464, 465, 466, 43] (by decide +kernel) (by decide +kernel)) gt_X4_rows
set_option maxRecDepth 20000 in
theorem gt_X4_when_r1 : GoodIn lw_tbl wsX4_when_r1 := goodIn_r wsX4_when_r1 [190, 194, 366, 367, 368, 45, 369, 82, 495, 496, 497, 47, 498, 499, 469, 470, 471, 165, 159, 160, 321, 323, 2, 324] (by decide +kernel) (by decide +kernel)
set_option maxRecDepth 20000 in
theorem gt_X4_when_r2 : GoodIn lw_tbl wsX4_when_r2 := goodIn_r wsX4_when_r2 [158, 161, 325, 307, 308, 309, 310, 296, 297, 298, 80, 304, 43, 305, 312, 314, 1, 315, 326, 327, 328, 329, 330, 331] (by decide +kernel) (by decide +kernel)
set_option maxRecDepth 20000 in
theorem gt_X4_when_r3 : GoodIn lw_tbl wsX4_when_r3 := goodIn_r wsX4_when_r3 [332, 223, 224, 334, 335, 336, 337, 285, 286, 472, 473, 474, 475, 476, 477, 46, 478, 123, 125, 126, 246, 247, 479, 481] (by decide +kernel) (by decide +kernel)
set_option maxRecDepth 20000 in
theorem gt_X4_when_r4 : GoodIn lw_tbl wsX4_when_r4 := goodIn_r wsX4_when_r4 [12, 482, 500, 484, 485, 486, 501, 503, 13, 504, 166, 505, 507, 14, 508, 167, 437, 438, 49, 439] (by decide +kernel) (by decide +kernel)
set_option maxRecDepth 20000 in
theorem gt_X4_when : GoodIn lw_tbl wsX4_when := goodIn_cons (goodIn_r _ [494] (by decide +kernel) (by decide +kernel)) (goodIn_app (goodIn_app (goodIn_app (goodIn_app (goodIn_app (gt_X4_when_r1) (goodIn_app (gt_X4_when_r2) (goodIn_app (gt_X4_when_r3) (gt_X4_when_r4)))) (gt_X40)) (gt_X00)) (gt_X10)) (gt_X30))
set_option maxRecDepth 20000 in
theorem gT_X4_when : GoodIn lw_tbl (wsV RL 64 RX4 yX4_when wsX4_when) := goodIn_app (goodIn_r _ [491, 492, 493, 43] (by decide +kernel) (by decide +kernel)) gt_X4_when
set_option maxRecDepth 20000 in
theorem gt_X4_sessions_r1 : GoodIn lw_tbl wsX4_sessions_r1 := goodIn_r wsX4_sessions_r1 [190, 193, 191, 366, 367, 368, 45, 369, 82, 513, 514, 515, 46, 516, 102, 105, 109, 111, 113, 115, 117, 119, 123, 121] (by decide +kernel) (by decide +kernel)
set_option maxRecDepth 20000 in
theorem gt_X4_sessions_r2 : GoodIn lw_tbl wsX4_sessions_r2 := goodIn_r wsX4_sessions_r2 [125, 126, 441, 43, 442, 316, 246, 247, 518, 520, 15, 521, 528, 529, 522, 523, 524, 525, 526, 527, 370, 371, 372, 373] (by decide +kernel) (by decide +kernel)
set_option maxRecDepth 20000 in
theorem gt_X4_sessions_r3 : GoodIn lw_tbl wsX4_sessions_r3 := goodIn_r wsX4_sessions_r3 [304, 305, 375, 307, 308, 309, 310, 296, 297, 298, 80, 312, 314, 1, 315, 376, 378, 4, 379, 380, 300, 301, 302, 81] (by decide +kernel) (by decide +kernel)
set_option maxRecDepth 20000 in
theorem gt_X4_sessions_r4 : GoodIn lw_tbl wsX4_sessions_r4 := goodIn_r wsX4_sessions_r4 [381, 383, 5, 384, 280, 282, 0, 283, 385, 387, 6, 388, 223, 224, 391, 335, 336, 337, 392, 330, 331, 332] (by decide +kernel) (by decide +kernel)
set_option maxRecDepth 20000 in
theorem gt_X4_sessions : GoodIn lw_tbl wsX4_sessions := goodIn_cons (goodIn_r _ [512] (by decide +kernel) (by decide +kernel)) (goodIn_app (goodIn_app (goodIn_app (goodIn_app (gt_X4_sessions_r1) (goodIn_app (gt_X4_sessions_r2) (goodIn_app (gt_X4_sessions_r3) (gt_X4_sessions_r4)))) (gt_X40)) (gt_X30)) (gt_X00))
set_option maxRecDepth 20000 in
theorem gT_X4_sessions : GoodIn lw_tbl (wsV RL 68 RX4 yX4_sessions wsX4_sessions) := goodIn_app (goodIn_r _ [509, 510, 511, 43] (by decide +kernel) (by decide +kernel)) gt_X4_sessions
set_option maxRecDepth 20000 in
theorem gt_X4_image_r1 : GoodIn lw_tbl wsX4_image_r1 := goodIn_r wsX4_image_r1 [190, 192, 191, 195, 366, 367, 368, 45, 369, 82, 513, 514, 515, 46, 516, 102, 105, 109, 111, 113, 115, 117, 119, 123] (by decide +kernel) (by decide +kernel)
set_option maxRecDepth 20000 in
theorem gt_X4_image_r2 : GoodIn lw_tbl wsX4_image_r2 := goodIn_r wsX4_image_r2 [121, 125, 126, 441, 43, 442, 316, 246, 247] (by decide +kernel) (by decide +kernel)
set_option maxRecDepth 20000 in
theorem gt_X4_image : GoodIn lw_tbl wsX4_image := goodIn_cons (goodIn_r _ [533] (by decide +kernel) (by decide +kernel)) (goodIn_app (goodIn_app (goodIn_app (goodIn_app (gt_X4_image_r1) (gt_X4_image_r2)) (gt_X40)) (gt_X30)) (gt_X00))
set_option maxRecDepth 20000 in
theorem gT_X4_image : GoodIn lw_tbl (wsV RL 73 RX4 yX4_image wsX4_image) := goodIn_app (goodIn_r _ [530, 531, 532, 43] (by decide +kernel) (by decide +kernel)) gt_X4_image
set_option maxRecDepth 20000 in
theorem gt_X4_restore_r1 : GoodIn lw_tbl wsX4_restore_r1 := goodIn_r wsX4_restore_r1 [195, 191, 192, 513, 514, 515, 46, 516, 102, 105, 109, 111, 113, 115, 117, 119, 123, 121, 125, 126, 441, 43, 442, 316] (by decide +kernel) (by decide +kernel)
set_option maxRecDepth 20000 in
theorem gt_X4_restore_r2 : GoodIn lw_tbl wsX4_restore_r2 := goodIn_r wsX4_restore_r2 [246, 247] (by decide +kernel) (by decide +kernel)
set_option maxRecDepth 20000 in
theorem gt_X4_restore : GoodIn lw_tbl wsX4_restore := goodIn_cons (goodIn_r _ [537] (by decide +kernel) (by decide +kernel)) (goodIn_app (goodIn_app (goodIn_app (gt_X4_restore_r1) (gt_X4_restore_r2)) (gt_X40)) (gt_X30))
set_option maxRecDepth 20000 in
theorem gT_X4_restore : GoodIn lw_tbl (wsV RL 77 RX4 yX4_restore wsX4_restore) := goodIn_app (goodIn_r _ [534, 535, 536, 43] (by decide +kernel) (by decide +kernel)) gt_X4_restore
set_option maxRecDepth 20000 in
theorem gt_X4_count : GoodIn lw_tbl wsX4_count := goodIn_cons (goodIn_r _ [541] (by decide +kernel) (by decide +kernel)) (goodIn_app (goodIn_app (goodIn_app (goodIn_app (goodIn_r _ [190, 191, 189, 196] (by decide +kernel) (by decide +kernel)) (gt_X40)) (gt_X00)) (gt_X30)) (gt_X20))
set_option maxRecDepth 20000 in
theorem gT_X4_count : GoodIn lw_tbl (wsV RL 81 RX4 yX4_count wsX4_count) := goodIn_app (goodIn_r _ [538, 539, 540, 43] (by decide +kernel) (by decide +kernel)) gt_X4_count
set_option maxRecDepth 20000 in
theorem gt_X4_digest_r1 : GoodIn lw_tbl wsX4_digest_r1 := goodIn_r wsX4_digest_r1 [546, 190, 547, 189, 548, 288, 289, 43, 290, 191, 194, 291, 292, 293, 45, 294, 82, 295, 296, 297, 298, 80, 299, 300] (by decide +kernel) (by decide +kernel)
set_option maxRecDepth 20000 in
theorem gt_X4_digest_r2 : GoodIn lw_tbl wsX4_digest_r2 := goodIn_r wsX4_digest_r2 [301, 302, 81, 303, 304, 305, 306, 307, 308, 309, 310, 312, 314, 1, 315, 316, 246, 247, 317, 318, 319, 47, 320, 162] (by decide +kernel) (by decide +kernel)
set_option maxRecDepth 20000 in
theorem gt_X4_digest_r3 : GoodIn lw_tbl wsX4_digest_r3 := goodIn_r wsX4_digest_r3 [344, 271, 49, 272, 321, 323, 2, 324, 158, 159, 160, 161, 325, 326, 327, 328, 329, 330, 331, 332, 223, 224, 334, 335] (by decide +kernel) (by decide +kernel)
set_option maxRecDepth 20000 in
theorem gt_X4_digest_r4 : GoodIn lw_tbl wsX4_digest_r4 := goodIn_r wsX4_digest_r4 [336, 337, 285, 286, 339, 341, 3, 342, 345, 346, 347, 348, 549, 394, 395, 396, 397, 398, 399, 400, 401, 366, 367, 368] (by decide +kernel) (by decide +kernel)
set_option maxRecDepth 20000 in
theorem gt_X4_digest_r5 : GoodIn lw_tbl wsX4_digest_r5 := goodIn_r wsX4_digest_r5 [369, 550, 403, 404, 405, 406, 407, 408, 409, 163, 410, 411, 412, 413, 415, 7, 416, 417, 418, 420, 8, 421, 164, 422] (by decide +kernel) (by decide +kernel)
set_option maxRecDepth 20000 in
theorem gt_X4_digest_r6 : GoodIn lw_tbl wsX4_digest_r6 := goodIn_r wsX4_digest_r6 [424, 9, 425, 426, 428, 10, 429, 430, 432, 11, 433, 434, 435, 436, 437, 438, 439, 441, 442, 443, 444, 445, 446, 447] (by decide +kernel) (by decide +kernel)
set_option maxRecDepth 20000 in
theorem gt_X4_digest_r7 : GoodIn lw_tbl wsX4_digest_r7 := goodIn_r wsX4_digest_r7 [448, 449, 450, 451, 551, 465, 466, 467, 468, 469, 470, 471, 165, 472, 473, 474, 475, 476, 477, 46, 478, 123, 125, 126] (by decide +kernel) (by decide +kernel)
set_option maxRecDepth 20000 in
theorem gt_X4_digest_r8 : GoodIn lw_tbl wsX4_digest_r8 := goodIn_r wsX4_digest_r8 [479, 481, 12, 482, 483, 484, 485, 486, 487, 488, 489, 490, 552, 492, 493, 494, 495, 496, 497, 498, 499, 500, 501, 503] (by decide +kernel) (by decide +kernel)
set_option maxRecDepth 20000 in
theorem gt_X4_digest_r9 : GoodIn lw_tbl wsX4_digest_r9 := goodIn_r wsX4_digest_r9 [13, 504, 166, 505, 507, 14, 508, 167, 553, 242, 243, 44, 244, 65, 64, 554, 539, 540, 541, 196] (by decide +kernel) (by decide +kernel)
set_option maxRecDepth 20000 in
theorem gt_X4_digest : GoodIn lw_tbl wsX4_digest := goodIn_cons (goodIn_r _ [545] (by decide +kernel) (by decide +kernel)) (goodIn_app (goodIn_app (goodIn_app (goodIn_app (goodIn_app (goodIn_app (gt_X4_digest_r1) (goodIn_app (gt_X4_digest_r2) (goodIn_app (gt_X4_digest_r3) (goodIn_app (gt_X4_digest_r4) (goodIn_app (gt_X4_digest_r5) (goodIn_app (gt_X4_digest_r6) (goodIn_app (gt_X4_digest_r7) (goodIn_app (gt_X4_digest_r8) (gt_X4_digest_r9))))))))) (gt_X40)) (gt_X00)) (gt_X20)) (gt_X30)) (gt_X10))
set_option maxRecDepth 20000 in
theorem gT_X4_digest : GoodIn lw_tbl (wsV RL 85 RX4 yX4_digest wsX4_digest) := goodIn_app (goodIn_r _ [542, 543, 544, 43] (by decide +kernel) (by decide +kernel)) gt_X4_digest
