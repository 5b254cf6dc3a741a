set_option maxRecDepth 20000 in
theorem gt_X50 : GoodIn lw_tbl wsX50 := goodIn_r wsX50 [596, 598, 600, 602, 604, 606, 608, 610, 612, 614, 616, 618, 620, 622, 624, 626, 628, 630, 632, 634, 636, 638, 640, 642, 644, 646, 648, 650, 652, 654, 656, 658, 660, 662, 664] (by decide +kernel) (by decide +kernel)
set_option maxRecDepth 20000 in
theorem gt_X5_init : GoodIn lw_tbl wsX5_init := goodIn_cons (goodIn_r _ [559] (by decide +kernel) (by decide +kernel)) (goodIn_app (goodIn_r _ [560, 56, 57, 73, 561, 563, 577, 578, 579, 580, 583, 584, 585, 586, 587, 588, 589, 593, 594, 591, 569] (by decide +kernel) (by decide +kernel)) (gt_X50))
set_option maxRecDepth 20000 in
theorem gt_X5_letter : GoodIn lw_tbl wsX5_letter := goodIn_cons (goodIn_r _ [670] (by decide +kernel) (by decide +kernel)) (goodIn_app (goodIn_r _ [671, 562, 561, 672, 673, 48, 674] (by decide +kernel) (by decide +kernel)) (gt_X50))
set_option maxRecDepth 20000 in
theorem gT_X5_letter : GoodIn lw_tbl (wsV RL 17 RX5 yX5_letter wsX5_letter) := goodIn_app (goodIn_r _ [667, 668, 669, 48] (by decide +kernel) (by decide +kernel)) gt_X5_letter
set_option maxRecDepth 20000 in
theorem gt_X5_blank : GoodIn lw_tbl wsX5_blank := goodIn_cons (goodIn_r _ [678] (by decide +kernel) (by decide +kernel)) (goodIn_app (goodIn_r _ [562] (by decide +kernel) (by decide +kernel)) (gt_X50))
set_option maxRecDepth 20000 in
theorem gT_X5_blank : GoodIn lw_tbl (wsV RL 22 RX5 yX5_blank wsX5_blank) := goodIn_app (goodIn_r _ [675, 676, 677, 48] (by decide +kernel) (by decide +kernel)) gt_X5_blank
set_option maxRecDepth 20000 in
theorem gt_X5_fault : GoodIn lw_tbl wsX5_fault := goodIn_cons (goodIn_r _ [682] (by decide +kernel) (by decide +kernel)) (goodIn_app (goodIn_r _ [683, 685, 16, 48, 686, 564, 566, 562, 561, 687, 689, 17, 690, 563, 565, 694, 691, 692, 693, 672, 673, 674] (by decide +kernel) (by decide +kernel)) (gt_X50))
set_option maxRecDepth 20000 in
theorem gT_X5_fault : GoodIn lw_tbl (wsV RL 26 RX5 yX5_fault wsX5_fault) := goodIn_app (goodIn_r _ [679, 680, 681, 48] (by decide +kernel) (by decide +kernel)) gt_X5_fault
set_option maxRecDepth 20000 in
theorem gt_X5_court_r1 : GoodIn lw_tbl wsX5_court_r1 := goodIn_r wsX5_court_r1 [562, 566, 564, 567, 565, 568, 577, 563, 569, 570, 571, 572, 573, 574, 575, 582, 576, 683, 685, 16, 48, 686, 561, 687] (by decide +kernel) (by decide +kernel)
set_option maxRecDepth 20000 in
theorem gt_X5_court_r2 : GoodIn lw_tbl wsX5_court_r2 := goodIn_r wsX5_court_r2 [689, 17, 690, 694, 691, 692, 693, 672, 673, 674] (by decide +kernel) (by decide +kernel)
set_option maxRecDepth 20000 in
theorem gt_X5_court : GoodIn lw_tbl wsX5_court := goodIn_cons (goodIn_r _ [698] (by decide +kernel) (by decide +kernel)) (goodIn_app (goodIn_app (gt_X5_court_r1) (gt_X5_court_r2)) (gt_X50))
set_option maxRecDepth 20000 in
theorem gT_X5_court : GoodIn lw_tbl (wsV RL 30 RX5 yX5_court wsX5_court) := goodIn_app (goodIn_r _ [695, 696, 697, 48] (by decide +kernel) (by decide +kernel)) gt_X5_court
set_option maxRecDepth 20000 in
theorem gt_X5_seat_r1 : GoodIn lw_tbl wsX5_seat_r1 := goodIn_r wsX5_seat_r1 [734, 736, 24, 48, 737, 567, 672, 673, 674, 738, 740, 25, 741, 577, 570, 569, 715, 717, 21, 718, 742, 744, 26, 745] (by decide +kernel) (by decide +kernel)
set_option maxRecDepth 20000 in
theorem gt_X5_seat_r2 : GoodIn lw_tbl wsX5_seat_r2 := goodIn_r wsX5_seat_r2 [578, 746, 748, 27, 749, 722, 724, 22, 725] (by decide +kernel) (by decide +kernel)
set_option maxRecDepth 20000 in
theorem gt_X5_seat : GoodIn lw_tbl wsX5_seat := goodIn_cons (goodIn_r _ [733] (by decide +kernel) (by decide +kernel)) (goodIn_app (goodIn_app (gt_X5_seat_r1) (gt_X5_seat_r2)) (gt_X50))
set_option maxRecDepth 20000 in
theorem gT_X5_seat : GoodIn lw_tbl (wsV RL 35 RX5 yX5_seat wsX5_seat) := goodIn_app (goodIn_r _ [730, 731, 732, 48] (by decide +kernel) (by decide +kernel)) gt_X5_seat
set_option maxRecDepth 20000 in
theorem gt_X5_as : GoodIn lw_tbl wsX5_as := goodIn_cons (goodIn_r _ [753] (by decide +kernel) (by decide +kernel)) (goodIn_app (goodIn_r _ [754, 577, 734, 736, 24, 48, 737, 567, 672, 673, 674] (by decide +kernel) (by decide +kernel)) (gt_X50))
set_option maxRecDepth 20000 in
theorem gT_X5_as : GoodIn lw_tbl (wsV RL 39 RX5 yX5_as wsX5_as) := goodIn_app (goodIn_r _ [750, 751, 752, 48] (by decide +kernel) (by decide +kernel)) gt_X5_as
set_option maxRecDepth 20000 in
theorem gt_X5_breath_r1 : GoodIn lw_tbl wsX5_breath_r1 := goodIn_r wsX5_breath_r1 [567, 672, 673, 48, 674, 703, 705, 18, 706, 707, 709, 19, 710, 575, 571, 569, 577, 570, 568, 711, 713, 20, 714, 715] (by decide +kernel) (by decide +kernel)
set_option maxRecDepth 20000 in
theorem gt_X5_breath_r2 : GoodIn lw_tbl wsX5_breath_r2 := goodIn_r wsX5_breath_r2 [717, 21, 718, 719, 720, 721, 722, 724, 22, 725, 726, 728, 23, 729, 572, 573, 574] (by decide +kernel) (by decide +kernel)
set_option maxRecDepth 20000 in
theorem gt_X5_breath : GoodIn lw_tbl wsX5_breath := goodIn_cons (goodIn_r _ [702] (by decide +kernel) (by decide +kernel)) (goodIn_app (goodIn_app (gt_X5_breath_r1) (gt_X5_breath_r2)) (gt_X50))
set_option maxRecDepth 20000 in
theorem gT_X5_breath : GoodIn lw_tbl (wsV RL 43 RX5 yX5_breath wsX5_breath) := goodIn_app (goodIn_r _ [699, 700, 701, 48] (by decide +kernel) (by decide +kernel)) gt_X5_breath
set_option maxRecDepth 20000 in
theorem gt_X5_get_r1 : GoodIn lw_tbl wsX5_get_r1 := goodIn_r wsX5_get_r1 [569, 734, 736, 24, 48, 737, 567, 672, 673, 674, 742, 744, 26, 745, 578, 746, 748, 27, 749, 715, 717, 21, 718, 577] (by decide +kernel) (by decide +kernel)
set_option maxRecDepth 20000 in
theorem gt_X5_get_r2 : GoodIn lw_tbl wsX5_get_r2 := goodIn_r wsX5_get_r2 [570, 722, 724, 22, 725, 759, 761, 28, 762] (by decide +kernel) (by decide +kernel)
set_option maxRecDepth 20000 in
theorem gt_X5_get : GoodIn lw_tbl wsX5_get := goodIn_cons (goodIn_r _ [758] (by decide +kernel) (by decide +kernel)) (goodIn_app (goodIn_app (gt_X5_get_r1) (gt_X5_get_r2)) (gt_X50))
set_option maxRecDepth 20000 in
theorem gT_X5_get : GoodIn lw_tbl (wsV RL 47 RX5 yX5_get wsX5_get) := goodIn_app (goodIn_r _ [755, 756, 757, 48] (by decide +kernel) (by decide +kernel)) gt_X5_get
set_option maxRecDepth 20000 in
theorem gt_X5_play_r1 : GoodIn lw_tbl wsX5_play_r1 := goodIn_r wsX5_play_r1 [767, 672, 673, 48, 674, 703, 705, 18, 706, 567, 768, 770, 29, 771, 581, 772, 774, 30, 775, 579, 577, 580, 569, 776] (by decide +kernel) (by decide +kernel)
set_option maxRecDepth 20000 in
theorem gt_X5_play_r2 : GoodIn lw_tbl wsX5_play_r2 := goodIn_r wsX5_play_r2 [778, 31, 779, 734, 736, 24, 737, 715, 717, 21, 718, 570, 722, 724, 22, 725, 780, 781, 782] (by decide +kernel) (by decide +kernel)
set_option maxRecDepth 20000 in
theorem gt_X5_play : GoodIn lw_tbl wsX5_play := goodIn_cons (goodIn_r _ [766] (by decide +kernel) (by decide +kernel)) (goodIn_app (goodIn_app (gt_X5_play_r1) (gt_X5_play_r2)) (gt_X50))
set_option maxRecDepth 20000 in
theorem gT_X5_play : GoodIn lw_tbl (wsV RL 51 RX5 yX5_play wsX5_play) := goodIn_app (goodIn_r _ [763, 764, 765, 48] (by decide +kernel) (by decide +kernel)) gt_X5_play
set_option maxRecDepth 20000 in
theorem gt_X5_hear : GoodIn lw_tbl wsX5_hear := goodIn_cons (goodIn_r _ [786] (by decide +kernel) (by decide +kernel)) (goodIn_app (goodIn_r _ [787, 582, 583, 672, 673, 48, 674, 734, 736, 24, 737, 567] (by decide +kernel) (by decide +kernel)) (gt_X50))
