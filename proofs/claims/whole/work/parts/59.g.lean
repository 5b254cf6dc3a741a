set_option maxRecDepth 20000 in
theorem gT_X5_hear : GoodIn lw_tbl (wsV RL 55 RX5 yX5_hear wsX5_hear) := goodIn_app (goodIn_r _ [783, 784, 785, 48] (by decide +kernel) (by decide +kernel)) gt_X5_hear
set_option maxRecDepth 20000 in
theorem gt_X5_forget : GoodIn lw_tbl wsX5_forget := goodIn_cons (goodIn_r _ [791] (by decide +kernel) (by decide +kernel)) (goodIn_app (goodIn_r _ [582] (by decide +kernel) (by decide +kernel)) (gt_X50))
set_option maxRecDepth 20000 in
theorem gT_X5_forget : GoodIn lw_tbl (wsV RL 59 RX5 yX5_forget wsX5_forget) := goodIn_app (goodIn_r _ [788, 789, 790, 48] (by decide +kernel) (by decide +kernel)) gt_X5_forget
set_option maxRecDepth 20000 in
theorem gt_X5_rows_r1 : GoodIn lw_tbl wsX5_rows_r1 := goodIn_r wsX5_rows_r1 [767, 672, 673, 48, 674, 703, 705, 18, 706, 567, 796, 798, 32, 799, 584, 800, 802, 33, 803, 585, 569, 804, 806, 34] (by decide +kernel) (by decide +kernel)
set_option maxRecDepth 20000 in
theorem gt_X5_rows_r2 : GoodIn lw_tbl wsX5_rows_r2 := goodIn_r wsX5_rows_r2 [807, 582, 583, 715, 717, 21, 718, 577, 570, 722, 724, 22, 725] (by decide +kernel) (by decide +kernel)
set_option maxRecDepth 20000 in
theorem gt_X5_rows : GoodIn lw_tbl wsX5_rows := goodIn_cons (goodIn_r _ [795] (by decide +kernel) (by decide +kernel)) (goodIn_app (goodIn_app (gt_X5_rows_r1) (gt_X5_rows_r2)) (gt_X50))
set_option maxRecDepth 20000 in
theorem gT_X5_rows : GoodIn lw_tbl (wsV RL 63 RX5 yX5_rows wsX5_rows) := goodIn_app (goodIn_r _ [792, 793, 794, 48] (by decide +kernel) (by decide +kernel)) gt_X5_rows
set_option maxRecDepth 20000 in
theorem gt_X5_when_r1 : GoodIn lw_tbl wsX5_when_r1 := goodIn_r wsX5_when_r1 [703, 705, 18, 48, 706, 567, 812, 814, 35, 815, 586, 584, 585, 800, 802, 33, 803, 569, 804, 806, 34, 807, 582, 583] (by decide +kernel) (by decide +kernel)
set_option maxRecDepth 20000 in
theorem gt_X5_when_r2 : GoodIn lw_tbl wsX5_when_r2 := goodIn_r wsX5_when_r2 [715, 717, 21, 718, 577, 570, 722, 724, 22, 725] (by decide +kernel) (by decide +kernel)
set_option maxRecDepth 20000 in
theorem gt_X5_when : GoodIn lw_tbl wsX5_when := goodIn_cons (goodIn_r _ [811] (by decide +kernel) (by decide +kernel)) (goodIn_app (goodIn_app (gt_X5_when_r1) (gt_X5_when_r2)) (gt_X50))
set_option maxRecDepth 20000 in
theorem gT_X5_when : GoodIn lw_tbl (wsV RL 67 RX5 yX5_when wsX5_when) := goodIn_app (goodIn_r _ [808, 809, 810, 48] (by decide +kernel) (by decide +kernel)) gt_X5_when
set_option maxRecDepth 20000 in
theorem gt_X5_sessions_r1 : GoodIn lw_tbl wsX5_sessions_r1 := goodIn_r wsX5_sessions_r1 [836, 837, 577, 593, 594, 592, 567, 572, 573, 672, 673, 48, 674, 703, 705, 18, 706, 780, 781, 782, 820, 822, 36, 823] (by decide +kernel) (by decide +kernel)
set_option maxRecDepth 20000 in
theorem gt_X5_sessions_r2 : GoodIn lw_tbl wsX5_sessions_r2 := goodIn_r wsX5_sessions_r2 [569, 570, 571, 574, 575, 838, 840, 38, 841, 842, 843, 844, 845, 707, 709, 19, 710, 568, 711, 713, 20, 714, 715, 717] (by decide +kernel) (by decide +kernel)
set_option maxRecDepth 20000 in
theorem gt_X5_sessions_r3 : GoodIn lw_tbl wsX5_sessions_r3 := goodIn_r wsX5_sessions_r3 [21, 718, 719, 720, 721, 722, 724, 22, 725, 726, 728, 23, 729, 828, 830, 37, 831] (by decide +kernel) (by decide +kernel)
set_option maxRecDepth 20000 in
theorem gt_X5_sessions : GoodIn lw_tbl wsX5_sessions := goodIn_cons (goodIn_r _ [835] (by decide +kernel) (by decide +kernel)) (goodIn_app (goodIn_app (gt_X5_sessions_r1) (goodIn_app (gt_X5_sessions_r2) (gt_X5_sessions_r3))) (gt_X50))
set_option maxRecDepth 20000 in
theorem gT_X5_sessions : GoodIn lw_tbl (wsV RL 72 RX5 yX5_sessions wsX5_sessions) := goodIn_app (goodIn_r _ [832, 833, 834, 48] (by decide +kernel) (by decide +kernel)) gt_X5_sessions
set_option maxRecDepth 20000 in
theorem gt_X5_image_r1 : GoodIn lw_tbl wsX5_image_r1 := goodIn_r wsX5_image_r1 [577, 587, 583, 589, 588, 582, 590, 576, 591, 575, 703, 705, 18, 48, 706, 567, 780, 781, 782, 820, 822, 36, 823, 569] (by decide +kernel) (by decide +kernel)
set_option maxRecDepth 20000 in
theorem gt_X5_image_r2 : GoodIn lw_tbl wsX5_image_r2 := goodIn_r wsX5_image_r2 [570, 571, 572, 573, 574] (by decide +kernel) (by decide +kernel)
set_option maxRecDepth 20000 in
theorem gt_X5_image : GoodIn lw_tbl wsX5_image := goodIn_cons (goodIn_r _ [819] (by decide +kernel) (by decide +kernel)) (goodIn_app (goodIn_app (gt_X5_image_r1) (gt_X5_image_r2)) (gt_X50))
set_option maxRecDepth 20000 in
theorem gT_X5_image : GoodIn lw_tbl (wsV RL 76 RX5 yX5_image wsX5_image) := goodIn_app (goodIn_r _ [816, 817, 818, 48] (by decide +kernel) (by decide +kernel)) gt_X5_image
set_option maxRecDepth 20000 in
theorem gt_X5_restore : GoodIn lw_tbl wsX5_restore := goodIn_cons (goodIn_r _ [827] (by decide +kernel) (by decide +kernel)) (goodIn_app (goodIn_r _ [591, 576, 587, 577, 589, 583, 588, 590, 582, 575, 780, 781, 48, 782, 828, 830, 37, 831, 569, 570, 571, 572, 573, 574] (by decide +kernel) (by decide +kernel)) (gt_X50))
set_option maxRecDepth 20000 in
theorem gT_X5_restore : GoodIn lw_tbl (wsV RL 80 RX5 yX5_restore wsX5_restore) := goodIn_app (goodIn_r _ [824, 825, 826, 48] (by decide +kernel) (by decide +kernel)) gt_X5_restore
set_option maxRecDepth 20000 in
theorem gt_X5_count : GoodIn lw_tbl wsX5_count := goodIn_cons (goodIn_r _ [849] (by decide +kernel) (by decide +kernel)) (goodIn_app (goodIn_r _ [850, 852, 39, 48, 853, 569, 567, 568, 571, 572, 573, 574, 575, 582, 562, 576] (by decide +kernel) (by decide +kernel)) (gt_X50))
set_option maxRecDepth 20000 in
theorem gT_X5_count : GoodIn lw_tbl (wsV RL 84 RX5 yX5_count wsX5_count) := goodIn_app (goodIn_r _ [846, 847, 848, 48] (by decide +kernel) (by decide +kernel)) gt_X5_count
set_option maxRecDepth 20000 in
theorem gt_X5_digest_r1 : GoodIn lw_tbl wsX5_digest_r1 := goodIn_r wsX5_digest_r1 [858, 595, 567, 562, 561, 738, 740, 25, 48, 741, 577, 570, 569, 715, 717, 21, 718, 742, 744, 26, 745, 578, 746, 748] (by decide +kernel) (by decide +kernel)
set_option maxRecDepth 20000 in
theorem gt_X5_digest_r2 : GoodIn lw_tbl wsX5_digest_r2 := goodIn_r wsX5_digest_r2 [27, 749, 722, 724, 22, 725, 859, 861, 40, 862, 863, 759, 761, 28, 762, 703, 705, 18, 706, 864, 866, 41, 867, 768] (by decide +kernel) (by decide +kernel)
set_option maxRecDepth 20000 in
theorem gt_X5_digest_r3 : GoodIn lw_tbl wsX5_digest_r3 := goodIn_r wsX5_digest_r3 [770, 29, 771, 581, 772, 774, 30, 775, 579, 580, 776, 778, 31, 779, 734, 736, 24, 737, 672, 673, 674, 780, 781, 782] (by decide +kernel) (by decide +kernel)
set_option maxRecDepth 20000 in
theorem gt_X5_digest_r4 : GoodIn lw_tbl wsX5_digest_r4 := goodIn_r wsX5_digest_r4 [796, 798, 32, 799, 584, 800, 802, 33, 803, 585, 804, 806, 34, 807, 582, 583, 812, 814, 35, 815, 586, 850, 852, 39] (by decide +kernel) (by decide +kernel)
set_option maxRecDepth 20000 in
theorem gt_X5_digest_r5 : GoodIn lw_tbl wsX5_digest_r5 := goodIn_r wsX5_digest_r5 [853, 568, 571, 572, 573, 574, 575, 576] (by decide +kernel) (by decide +kernel)
set_option maxRecDepth 20000 in
theorem gt_X5_digest : GoodIn lw_tbl wsX5_digest := goodIn_cons (goodIn_r _ [857] (by decide +kernel) (by decide +kernel)) (goodIn_app (goodIn_app (gt_X5_digest_r1) (goodIn_app (gt_X5_digest_r2) (goodIn_app (gt_X5_digest_r3) (goodIn_app (gt_X5_digest_r4) (gt_X5_digest_r5))))) (gt_X50))
set_option maxRecDepth 20000 in
theorem gT_X5_digest : GoodIn lw_tbl (wsV RL 89 RX5 yX5_digest wsX5_digest) := goodIn_app (goodIn_r _ [854, 855, 856, 48] (by decide +kernel) (by decide +kernel)) gt_X5_digest
