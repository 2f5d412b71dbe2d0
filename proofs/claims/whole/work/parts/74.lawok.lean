/-! ===== the law's links: each called method, its contract and its room ===== -/
set_option maxRecDepth 100000 in
theorem ok_X7_county (l : Launch) : lw_Ok l 6 13 4 C_X7_county := ⟨yX7_county, cX7_county, 8, (some .int), ip_rm 5, m_X7_county l, ip_in [226, 227, 228, 32, 229] (by decide +kernel) (by decide +kernel), rfl, ⟨by decide +kernel, by decide +kernel, by decide +kernel⟩, ⟨rfl, rfl, Nat.le_of_ble_eq_true rfl, Nat.le_of_ble_eq_true rfl⟩⟩
set_option maxRecDepth 100000 in
theorem ok_X8_county (l : Launch) : lw_Ok l 7 17 4 C_X8_county := ⟨yX8_county, cX8_county, 8, (some .int), ip_rm 5, m_X8_county l, ip_in [709, 710, 711, 39, 712] (by decide +kernel) (by decide +kernel), rfl, ⟨by decide +kernel, by decide +kernel, by decide +kernel⟩, ⟨rfl, rfl, Nat.le_of_ble_eq_true rfl, Nat.le_of_ble_eq_true rfl⟩⟩
set_option maxRecDepth 100000 in
theorem ok_X7_ofMan (l : Launch) : lw_Ok l 6 18 2 C_X7_ofMan := ⟨yX7_ofMan, cX7_ofMan, 4, (some .int), ip_rm 1, m_X7_ofMan l, ip_in [280, 281, 282, 32, 283] (by decide +kernel) (by decide +kernel), rfl, ⟨by decide +kernel, by decide +kernel, by decide +kernel⟩, ⟨rfl, rfl, Nat.le_of_ble_eq_true rfl, Nat.le_of_ble_eq_true rfl⟩⟩
set_option maxRecDepth 100000 in
theorem ok_X8_ofMan (l : Launch) : lw_Ok l 7 22 2 C_X8_ofMan := ⟨yX8_ofMan, cX8_ofMan, 3, (some .int), ip_rm 1, m_X8_ofMan l, ip_in [750, 751, 752, 39, 753] (by decide +kernel) (by decide +kernel), rfl, ⟨by decide +kernel, by decide +kernel, by decide +kernel⟩, ⟨rfl, rfl, Nat.le_of_ble_eq_true rfl, Nat.le_of_ble_eq_true rfl⟩⟩
set_option maxRecDepth 100000 in
theorem ok_X7_truth (l : Launch) : lw_Ok l 6 23 1 C_X7_truth := ⟨yX7_truth, cX7_truth, 3, (some .int), ip_rm 1, m_X7_truth l, ip_in [288, 289, 290, 32, 291] (by decide +kernel) (by decide +kernel), rfl, ⟨by decide +kernel, by decide +kernel, by decide +kernel⟩, ⟨rfl, rfl, Nat.le_of_ble_eq_true rfl, Nat.le_of_ble_eq_true rfl⟩⟩
set_option maxRecDepth 100000 in
theorem ok_X8_truth (l : Launch) : lw_Ok l 7 27 1 C_X8_truth := ⟨yX8_truth, cX8_truth, 3, (some .int), ip_rm 2, m_X8_truth l, ip_in [758, 759, 760, 39, 761] (by decide +kernel) (by decide +kernel), rfl, ⟨by decide +kernel, by decide +kernel, by decide +kernel⟩, ⟨rfl, rfl, Nat.le_of_ble_eq_true rfl, Nat.le_of_ble_eq_true rfl⟩⟩
set_option maxRecDepth 100000 in
theorem ok_X7_stand (l : Launch) : lw_Ok l 6 28 2 C_X7_stand := ⟨yX7_stand, cX7_stand, 5, (some .int), ip_rm 1, m_X7_stand l, ip_in [299, 300, 301, 32, 302] (by decide +kernel) (by decide +kernel), rfl, ⟨by decide +kernel, by decide +kernel, by decide +kernel⟩, ⟨rfl, rfl, Nat.le_of_ble_eq_true rfl, Nat.le_of_ble_eq_true rfl⟩⟩
set_option maxRecDepth 100000 in
theorem ok_X8_stand (l : Launch) : lw_Ok l 7 31 2 C_X8_stand := ⟨yX8_stand, cX8_stand, 4, (some .int), ip_rm 1, m_X8_stand l, ip_in [765, 766, 767, 39, 768] (by decide +kernel) (by decide +kernel), rfl, ⟨by decide +kernel, by decide +kernel, by decide +kernel⟩, ⟨rfl, rfl, Nat.le_of_ble_eq_true rfl, Nat.le_of_ble_eq_true rfl⟩⟩
set_option maxRecDepth 100000 in
theorem ok_X7_learn (l : Launch) : lw_Ok l 6 32 2 C_X7_learn := ⟨yX7_learn, cX7_learn, 5, (some .int), ip_rm 1, m_X7_learn l, ip_in [307, 308, 309, 32, 310] (by decide +kernel) (by decide +kernel), rfl, ⟨by decide +kernel, by decide +kernel, by decide +kernel⟩, ⟨rfl, rfl, Nat.le_of_ble_eq_true rfl, Nat.le_of_ble_eq_true rfl⟩⟩
set_option maxRecDepth 100000 in
theorem ok_X8_learn (l : Launch) : lw_Ok l 7 35 2 C_X8_learn := ⟨yX8_learn, cX8_learn, 4, (some .int), ip_rm 2, m_X8_learn l, ip_in [773, 774, 775, 39, 776] (by decide +kernel) (by decide +kernel), rfl, ⟨by decide +kernel, by decide +kernel, by decide +kernel⟩, ⟨rfl, rfl, Nat.le_of_ble_eq_true rfl, Nat.le_of_ble_eq_true rfl⟩⟩
set_option maxRecDepth 100000 in
theorem ok_X7_answer (l : Launch) : lw_Ok l 6 36 2 C_X7_answer := ⟨yX7_answer, cX7_answer, 5, (some .int), ip_rm 1, m_X7_answer l, ip_in [311, 312, 313, 32, 314] (by decide +kernel) (by decide +kernel), rfl, ⟨by decide +kernel, by decide +kernel, by decide +kernel⟩, ⟨rfl, rfl, Nat.le_of_ble_eq_true rfl, Nat.le_of_ble_eq_true rfl⟩⟩
set_option maxRecDepth 100000 in
theorem ok_X8_answer (l : Launch) : lw_Ok l 7 39 2 C_X8_answer := ⟨yX8_answer, cX8_answer, 3, (some .int), ip_rm 2, m_X8_answer l, ip_in [777, 778, 779, 39, 780] (by decide +kernel) (by decide +kernel), rfl, ⟨by decide +kernel, by decide +kernel, by decide +kernel⟩, ⟨rfl, rfl, Nat.le_of_ble_eq_true rfl, Nat.le_of_ble_eq_true rfl⟩⟩
set_option maxRecDepth 100000 in
theorem ok_X7_strikes (l : Launch) : lw_Ok l 6 40 2 C_X7_strikes := ⟨yX7_strikes, cX7_strikes, 3, (some .int), ip_rm 4, m_X7_strikes l, ip_in [329, 330, 331, 32, 332] (by decide +kernel) (by decide +kernel), rfl, ⟨by decide +kernel, by decide +kernel, by decide +kernel⟩, ⟨rfl, rfl, Nat.le_of_ble_eq_true rfl, Nat.le_of_ble_eq_true rfl⟩⟩
set_option maxRecDepth 100000 in
theorem ok_X8_strikes (l : Launch) : lw_Ok l 7 43 2 C_X8_strikes := ⟨yX8_strikes, cX8_strikes, 3, (some .int), ip_rm 3, m_X8_strikes l, ip_in [792, 793, 794, 39, 795] (by decide +kernel) (by decide +kernel), rfl, ⟨by decide +kernel, by decide +kernel, by decide +kernel⟩, ⟨rfl, rfl, Nat.le_of_ble_eq_true rfl, Nat.le_of_ble_eq_true rfl⟩⟩
set_option maxRecDepth 100000 in
theorem ok_X7_dangers (l : Launch) : lw_Ok l 6 44 1 C_X7_dangers := ⟨yX7_dangers, cX7_dangers, 2, (some .int), ip_rm 3, m_X7_dangers l, ip_in [352, 353, 354, 32, 355] (by decide +kernel) (by decide +kernel), rfl, ⟨by decide +kernel, by decide +kernel, by decide +kernel⟩, ⟨rfl, rfl, Nat.le_of_ble_eq_true rfl, Nat.le_of_ble_eq_true rfl⟩⟩
set_option maxRecDepth 100000 in
theorem ok_X8_dangers (l : Launch) : lw_Ok l 7 47 1 C_X8_dangers := ⟨yX8_dangers, cX8_dangers, 2, (some .int), ip_rm 4, m_X8_dangers l, ip_in [800, 801, 802, 39, 803] (by decide +kernel) (by decide +kernel), rfl, ⟨by decide +kernel, by decide +kernel, by decide +kernel⟩, ⟨rfl, rfl, Nat.le_of_ble_eq_true rfl, Nat.le_of_ble_eq_true rfl⟩⟩
set_option maxRecDepth 100000 in
theorem ok_X7_storm (l : Launch) : lw_Ok l 6 48 5 C_X7_storm := ⟨yX7_storm, cX7_storm, 7, (some .int), ip_rm 5, m_X7_storm l, ip_in [357, 358, 359, 32, 360] (by decide +kernel) (by decide +kernel), rfl, ⟨by decide +kernel, by decide +kernel, by decide +kernel⟩, ⟨rfl, rfl, Nat.le_of_ble_eq_true rfl, Nat.le_of_ble_eq_true rfl⟩⟩
set_option maxRecDepth 100000 in
theorem ok_X8_storm (l : Launch) : lw_Ok l 7 52 5 C_X8_storm := ⟨yX8_storm, cX8_storm, 11, (some .int), ip_rm 4, m_X8_storm l, ip_in [808, 809, 810, 39, 811] (by decide +kernel) (by decide +kernel), rfl, ⟨by decide +kernel, by decide +kernel, by decide +kernel⟩, ⟨rfl, rfl, Nat.le_of_ble_eq_true rfl, Nat.le_of_ble_eq_true rfl⟩⟩
set_option maxRecDepth 100000 in
theorem ok_X7_place (l : Launch) : lw_Ok l 6 53 5 C_X7_place := ⟨yX7_place, cX7_place, 7, (some .int), ip_rm 9, m_X7_place l, ip_in [387, 388, 389, 32, 390] (by decide +kernel) (by decide +kernel), rfl, ⟨by decide +kernel, by decide +kernel, by decide +kernel⟩, ⟨rfl, rfl, Nat.le_of_ble_eq_true rfl, Nat.le_of_ble_eq_true rfl⟩⟩
set_option maxRecDepth 100000 in
theorem ok_X8_place (l : Launch) : lw_Ok l 7 56 5 C_X8_place := ⟨yX8_place, cX8_place, 8, (some .int), ip_rm 5, m_X8_place l, ip_in [823, 824, 825, 39, 826] (by decide +kernel) (by decide +kernel), rfl, ⟨by decide +kernel, by decide +kernel, by decide +kernel⟩, ⟨rfl, rfl, Nat.le_of_ble_eq_true rfl, Nat.le_of_ble_eq_true rfl⟩⟩
set_option maxRecDepth 100000 in
theorem ok_X7_teach (l : Launch) : lw_Ok l 6 57 5 C_X7_teach := ⟨yX7_teach, cX7_teach, 8, (some .int), ip_rm 6, m_X7_teach l, ip_in [419, 420, 421, 32, 422] (by decide +kernel) (by decide +kernel), rfl, ⟨by decide +kernel, by decide +kernel, by decide +kernel⟩, ⟨rfl, rfl, Nat.le_of_ble_eq_true rfl, Nat.le_of_ble_eq_true rfl⟩⟩
set_option maxRecDepth 100000 in
theorem ok_X8_teach (l : Launch) : lw_Ok l 7 60 5 C_X8_teach := ⟨yX8_teach, cX8_teach, 10, (some .int), ip_rm 4, m_X8_teach l, ip_in [831, 832, 833, 39, 834] (by decide +kernel) (by decide +kernel), rfl, ⟨by decide +kernel, by decide +kernel, by decide +kernel⟩, ⟨rfl, rfl, Nat.le_of_ble_eq_true rfl, Nat.le_of_ble_eq_true rfl⟩⟩
set_option maxRecDepth 100000 in
theorem ok_X7_worst (l : Launch) : lw_Ok l 6 61 2 C_X7_worst := ⟨yX7_worst, cX7_worst, 6, (some .int), ip_rm 4, m_X7_worst l, ip_in [439, 440, 441, 32, 442] (by decide +kernel) (by decide +kernel), rfl, ⟨by decide +kernel, by decide +kernel, by decide +kernel⟩, ⟨rfl, rfl, Nat.le_of_ble_eq_true rfl, Nat.le_of_ble_eq_true rfl⟩⟩
set_option maxRecDepth 100000 in
theorem ok_X8_worst (l : Launch) : lw_Ok l 7 64 2 C_X8_worst := ⟨yX8_worst, cX8_worst, 5, (some .int), ip_rm 6, m_X8_worst l, ip_in [838, 839, 840, 39, 841] (by decide +kernel) (by decide +kernel), rfl, ⟨by decide +kernel, by decide +kernel, by decide +kernel⟩, ⟨rfl, rfl, Nat.le_of_ble_eq_true rfl, Nat.le_of_ble_eq_true rfl⟩⟩
set_option maxRecDepth 100000 in
theorem ok_X7_fair (l : Launch) : lw_Ok l 6 65 5 C_X7_fair := ⟨yX7_fair, cX7_fair, 13, (some .long), ip_rm 3, m_X7_fair l, ip_in [454, 455, 456, 32, 457] (by decide +kernel) (by decide +kernel), rfl, ⟨by decide +kernel, by decide +kernel, by decide +kernel⟩, ⟨rfl, rfl, Nat.le_of_ble_eq_true rfl, Nat.le_of_ble_eq_true rfl⟩⟩
set_option maxRecDepth 100000 in
theorem ok_X8_fair (l : Launch) : lw_Ok l 7 69 5 C_X8_fair := ⟨yX8_fair, cX8_fair, 13, (some .long), ip_rm 4, m_X8_fair l, ip_in [850, 851, 852, 39, 853] (by decide +kernel) (by decide +kernel), rfl, ⟨by decide +kernel, by decide +kernel, by decide +kernel⟩, ⟨rfl, rfl, Nat.le_of_ble_eq_true rfl, Nat.le_of_ble_eq_true rfl⟩⟩
set_option maxRecDepth 100000 in
theorem ok_X7_worth (l : Launch) : lw_Ok l 6 70 1 C_X7_worth := ⟨yX7_worth, cX7_worth, 2, (some .int), ip_rm 3, m_X7_worth l, ip_in [469, 470, 471, 32, 472] (by decide +kernel) (by decide +kernel), rfl, ⟨by decide +kernel, by decide +kernel, by decide +kernel⟩, ⟨rfl, rfl, Nat.le_of_ble_eq_true rfl, Nat.le_of_ble_eq_true rfl⟩⟩
set_option maxRecDepth 100000 in
theorem ok_X8_worth (l : Launch) : lw_Ok l 7 73 1 C_X8_worth := ⟨yX8_worth, cX8_worth, 4, (some .int), ip_rm 5, m_X8_worth l, ip_in [863, 864, 865, 39, 866] (by decide +kernel) (by decide +kernel), rfl, ⟨by decide +kernel, by decide +kernel, by decide +kernel⟩, ⟨rfl, rfl, Nat.le_of_ble_eq_true rfl, Nat.le_of_ble_eq_true rfl⟩⟩
set_option maxRecDepth 100000 in
theorem ok_X7_reading (l : Launch) : lw_Ok l 6 74 3 C_X7_reading := ⟨yX7_reading, cX7_reading, 4, (some .int), ip_rm 1, m_X7_reading l, ip_in [478, 479, 480, 32, 481] (by decide +kernel) (by decide +kernel), rfl, ⟨by decide +kernel, by decide +kernel, by decide +kernel⟩, ⟨rfl, rfl, Nat.le_of_ble_eq_true rfl, Nat.le_of_ble_eq_true rfl⟩⟩
set_option maxRecDepth 100000 in
theorem ok_X8_reading (l : Launch) : lw_Ok l 7 78 3 C_X8_reading := ⟨yX8_reading, cX8_reading, 4, (some .int), ip_rm 2, m_X8_reading l, ip_in [871, 872, 873, 39, 874] (by decide +kernel) (by decide +kernel), rfl, ⟨by decide +kernel, by decide +kernel, by decide +kernel⟩, ⟨rfl, rfl, Nat.le_of_ble_eq_true rfl, Nat.le_of_ble_eq_true rfl⟩⟩
set_option maxRecDepth 100000 in
theorem ok_X7_back (l : Launch) : lw_Ok l 6 79 1 C_X7_back := ⟨yX7_back, cX7_back, 2, (some .int), ip_rm 0, m_X7_back l, ip_in [486, 487, 488, 32, 489] (by decide +kernel) (by decide +kernel), rfl, ⟨by decide +kernel, by decide +kernel, by decide +kernel⟩, ⟨rfl, rfl, Nat.le_of_ble_eq_true rfl, Nat.le_of_ble_eq_true rfl⟩⟩
set_option maxRecDepth 100000 in
theorem ok_X8_back (l : Launch) : lw_Ok l 7 82 1 C_X8_back := ⟨yX8_back, cX8_back, 2, (some .int), ip_rm 1, m_X8_back l, ip_in [875, 876, 877, 39, 878] (by decide +kernel) (by decide +kernel), rfl, ⟨by decide +kernel, by decide +kernel, by decide +kernel⟩, ⟨rfl, rfl, Nat.le_of_ble_eq_true rfl, Nat.le_of_ble_eq_true rfl⟩⟩
set_option maxRecDepth 100000 in
theorem ok_X7_truths (l : Launch) : lw_Ok l 6 83 1 C_X7_truths := ⟨yX7_truths, cX7_truths, 5, (some .int), ip_rm 6, m_X7_truths l, ip_in [490, 491, 492, 32, 493] (by decide +kernel) (by decide +kernel), rfl, ⟨by decide +kernel, by decide +kernel, by decide +kernel⟩, ⟨rfl, rfl, Nat.le_of_ble_eq_true rfl, Nat.le_of_ble_eq_true rfl⟩⟩
set_option maxRecDepth 100000 in
theorem ok_X8_truths (l : Launch) : lw_Ok l 7 86 1 C_X8_truths := ⟨yX8_truths, cX8_truths, 7, (some .int), ip_rm 4, m_X8_truths l, ip_in [879, 880, 881, 39, 882] (by decide +kernel) (by decide +kernel), rfl, ⟨by decide +kernel, by decide +kernel, by decide +kernel⟩, ⟨rfl, rfl, Nat.le_of_ble_eq_true rfl, Nat.le_of_ble_eq_true rfl⟩⟩
set_option maxRecDepth 100000 in
theorem ok_X7_stood (l : Launch) : lw_Ok l 6 87 1 C_X7_stood := ⟨yX7_stood, cX7_stood, 3, (some .int), ip_rm 6, m_X7_stood l, ip_in [515, 516, 517, 32, 518] (by decide +kernel) (by decide +kernel), rfl, ⟨by decide +kernel, by decide +kernel, by decide +kernel⟩, ⟨rfl, rfl, Nat.le_of_ble_eq_true rfl, Nat.le_of_ble_eq_true rfl⟩⟩
set_option maxRecDepth 100000 in
theorem ok_X8_stood (l : Launch) : lw_Ok l 7 90 1 C_X8_stood := ⟨yX8_stood, cX8_stood, 5, (some .int), ip_rm 4, m_X8_stood l, ip_in [887, 888, 889, 39, 890] (by decide +kernel) (by decide +kernel), rfl, ⟨by decide +kernel, by decide +kernel, by decide +kernel⟩, ⟨rfl, rfl, Nat.le_of_ble_eq_true rfl, Nat.le_of_ble_eq_true rfl⟩⟩
set_option maxRecDepth 100000 in
theorem ok_X7_kinds (l : Launch) : lw_Ok l 6 91 1 C_X7_kinds := ⟨yX7_kinds, cX7_kinds, 3, (some .int), ip_rm 6, m_X7_kinds l, ip_in [523, 524, 525, 32, 526] (by decide +kernel) (by decide +kernel), rfl, ⟨by decide +kernel, by decide +kernel, by decide +kernel⟩, ⟨rfl, rfl, Nat.le_of_ble_eq_true rfl, Nat.le_of_ble_eq_true rfl⟩⟩
set_option maxRecDepth 100000 in
theorem ok_X8_kinds (l : Launch) : lw_Ok l 7 94 1 C_X8_kinds := ⟨yX8_kinds, cX8_kinds, 5, (some .int), ip_rm 4, m_X8_kinds l, ip_in [891, 892, 893, 39, 894] (by decide +kernel) (by decide +kernel), rfl, ⟨by decide +kernel, by decide +kernel, by decide +kernel⟩, ⟨rfl, rfl, Nat.le_of_ble_eq_true rfl, Nat.le_of_ble_eq_true rfl⟩⟩
set_option maxRecDepth 100000 in
theorem ok_X7_knew (l : Launch) : lw_Ok l 6 95 2 C_X7_knew := ⟨yX7_knew, cX7_knew, 6, (some .int), ip_rm 6, m_X7_knew l, ip_in [531, 532, 533, 32, 534] (by decide +kernel) (by decide +kernel), rfl, ⟨by decide +kernel, by decide +kernel, by decide +kernel⟩, ⟨rfl, rfl, Nat.le_of_ble_eq_true rfl, Nat.le_of_ble_eq_true rfl⟩⟩
set_option maxRecDepth 100000 in
theorem ok_X8_knew (l : Launch) : lw_Ok l 7 98 2 C_X8_knew := ⟨yX8_knew, cX8_knew, 7, (some .int), ip_rm 4, m_X8_knew l, ip_in [895, 896, 897, 39, 898] (by decide +kernel) (by decide +kernel), rfl, ⟨by decide +kernel, by decide +kernel, by decide +kernel⟩, ⟨rfl, rfl, Nat.le_of_ble_eq_true rfl, Nat.le_of_ble_eq_true rfl⟩⟩
set_option maxRecDepth 100000 in
theorem ok_X7_odds (l : Launch) : lw_Ok l 6 99 3 C_X7_odds := ⟨yX7_odds, cX7_odds, 8, (some .long), ip_rm 2, m_X7_odds l, ip_in [539, 540, 541, 32, 542] (by decide +kernel) (by decide +kernel), rfl, ⟨by decide +kernel, by decide +kernel, by decide +kernel⟩, ⟨rfl, rfl, Nat.le_of_ble_eq_true rfl, Nat.le_of_ble_eq_true rfl⟩⟩
set_option maxRecDepth 100000 in
theorem ok_X8_odds (l : Launch) : lw_Ok l 7 103 3 C_X8_odds := ⟨yX8_odds, cX8_odds, 6, (some .long), ip_rm 3, m_X8_odds l, ip_in [899, 900, 901, 39, 902] (by decide +kernel) (by decide +kernel), rfl, ⟨by decide +kernel, by decide +kernel, by decide +kernel⟩, ⟨rfl, rfl, Nat.le_of_ble_eq_true rfl, Nat.le_of_ble_eq_true rfl⟩⟩
set_option maxRecDepth 100000 in
theorem ok_X7_sheet (l : Launch) : lw_Ok l 6 104 3 C_X7_sheet := ⟨yX7_sheet, cX7_sheet, 5, (some .int), ip_rm 2, m_X7_sheet l, ip_in [545, 546, 547, 32, 548] (by decide +kernel) (by decide +kernel), rfl, ⟨by decide +kernel, by decide +kernel, by decide +kernel⟩, ⟨rfl, rfl, Nat.le_of_ble_eq_true rfl, Nat.le_of_ble_eq_true rfl⟩⟩
set_option maxRecDepth 100000 in
theorem ok_X8_sheet (l : Launch) : lw_Ok l 7 108 3 C_X8_sheet := ⟨yX8_sheet, cX8_sheet, 5, (some .int), ip_rm 2, m_X8_sheet l, ip_in [903, 904, 905, 39, 906] (by decide +kernel) (by decide +kernel), rfl, ⟨by decide +kernel, by decide +kernel, by decide +kernel⟩, ⟨rfl, rfl, Nat.le_of_ble_eq_true rfl, Nat.le_of_ble_eq_true rfl⟩⟩
set_option maxRecDepth 100000 in
theorem ok_X7_lose (l : Launch) : lw_Ok l 6 109 1 C_X7_lose := ⟨yX7_lose, cX7_lose, 4, (some .int), ip_rm 1, m_X7_lose l, ip_in [556, 557, 558, 32, 559] (by decide +kernel) (by decide +kernel), rfl, ⟨by decide +kernel, by decide +kernel, by decide +kernel⟩, ⟨rfl, rfl, Nat.le_of_ble_eq_true rfl, Nat.le_of_ble_eq_true rfl⟩⟩
set_option maxRecDepth 100000 in
theorem ok_X8_lose (l : Launch) : lw_Ok l 7 112 1 C_X8_lose := ⟨yX8_lose, cX8_lose, 3, (some .int), ip_rm 2, m_X8_lose l, ip_in [907, 908, 909, 39, 910] (by decide +kernel) (by decide +kernel), rfl, ⟨by decide +kernel, by decide +kernel, by decide +kernel⟩, ⟨rfl, rfl, Nat.le_of_ble_eq_true rfl, Nat.le_of_ble_eq_true rfl⟩⟩
set_option maxRecDepth 100000 in
theorem ok_X7_put (l : Launch) : lw_Ok l 6 113 3 C_X7_put := ⟨yX7_put, cX7_put, 6, (some .int), ip_rm 2, m_X7_put l, ip_in [560, 561, 562, 32, 563] (by decide +kernel) (by decide +kernel), rfl, ⟨by decide +kernel, by decide +kernel, by decide +kernel⟩, ⟨rfl, rfl, Nat.le_of_ble_eq_true rfl, Nat.le_of_ble_eq_true rfl⟩⟩
set_option maxRecDepth 100000 in
theorem ok_X8_put (l : Launch) : lw_Ok l 7 116 3 C_X8_put := ⟨yX8_put, cX8_put, 4, (some .int), ip_rm 2, m_X8_put l, ip_in [911, 912, 913, 39, 914] (by decide +kernel) (by decide +kernel), rfl, ⟨by decide +kernel, by decide +kernel, by decide +kernel⟩, ⟨rfl, rfl, Nat.le_of_ble_eq_true rfl, Nat.le_of_ble_eq_true rfl⟩⟩
set_option maxRecDepth 100000 in
theorem ok_X7_cell (l : Launch) : lw_Ok l 6 117 3 C_X7_cell := ⟨yX7_cell, cX7_cell, 5, (some .long), ip_rm 2, m_X7_cell l, ip_in [568, 569, 570, 32, 571] (by decide +kernel) (by decide +kernel), rfl, ⟨by decide +kernel, by decide +kernel, by decide +kernel⟩, ⟨rfl, rfl, Nat.le_of_ble_eq_true rfl, Nat.le_of_ble_eq_true rfl⟩⟩
set_option maxRecDepth 100000 in
theorem ok_X8_cell (l : Launch) : lw_Ok l 7 120 3 C_X8_cell := ⟨yX8_cell, cX8_cell, 4, (some .long), ip_rm 2, m_X8_cell l, ip_in [915, 916, 917, 39, 918] (by decide +kernel) (by decide +kernel), rfl, ⟨by decide +kernel, by decide +kernel, by decide +kernel⟩, ⟨rfl, rfl, Nat.le_of_ble_eq_true rfl, Nat.le_of_ble_eq_true rfl⟩⟩
set_option maxRecDepth 100000 in
theorem ok_X7_copy (l : Launch) : lw_Ok l 6 121 5 C_X7_copy := ⟨yX7_copy, cX7_copy, 8, (some .int), ip_rm 1, m_X7_copy l, ip_in [572, 573, 574, 32, 575] (by decide +kernel) (by decide +kernel), rfl, ⟨by decide +kernel, by decide +kernel, by decide +kernel⟩, ⟨rfl, rfl, Nat.le_of_ble_eq_true rfl, Nat.le_of_ble_eq_true rfl⟩⟩
set_option maxRecDepth 100000 in
theorem ok_X8_copy (l : Launch) : lw_Ok l 7 124 5 C_X8_copy := ⟨yX8_copy, cX8_copy, 10, (some .int), ip_rm 2, m_X8_copy l, ip_in [919, 920, 921, 39, 922] (by decide +kernel) (by decide +kernel), rfl, ⟨by decide +kernel, by decide +kernel, by decide +kernel⟩, ⟨rfl, rfl, Nat.le_of_ble_eq_true rfl, Nat.le_of_ble_eq_true rfl⟩⟩
set_option maxRecDepth 100000 in
theorem ok_X7_tell (l : Launch) : lw_Ok l 6 125 1 C_X7_tell := ⟨yX7_tell, cX7_tell, 3, (some .int), ip_rm 4, m_X7_tell l, ip_in [578, 579, 580, 32, 581] (by decide +kernel) (by decide +kernel), rfl, ⟨by decide +kernel, by decide +kernel, by decide +kernel⟩, ⟨rfl, rfl, Nat.le_of_ble_eq_true rfl, Nat.le_of_ble_eq_true rfl⟩⟩
set_option maxRecDepth 100000 in
theorem ok_X8_tell (l : Launch) : lw_Ok l 7 128 1 C_X8_tell := ⟨yX8_tell, cX8_tell, 3, (some .int), ip_rm 1, m_X8_tell l, ip_in [923, 924, 925, 39, 926] (by decide +kernel) (by decide +kernel), rfl, ⟨by decide +kernel, by decide +kernel, by decide +kernel⟩, ⟨rfl, rfl, Nat.le_of_ble_eq_true rfl, Nat.le_of_ble_eq_true rfl⟩⟩
set_option maxRecDepth 100000 in
theorem ok_X7_hail (l : Launch) : lw_Ok l 6 129 1 C_X7_hail := ⟨yX7_hail, cX7_hail, 3, (some .int), ip_rm 1, m_X7_hail l, ip_in [598, 599, 600, 32, 601] (by decide +kernel) (by decide +kernel), rfl, ⟨by decide +kernel, by decide +kernel, by decide +kernel⟩, ⟨rfl, rfl, Nat.le_of_ble_eq_true rfl, Nat.le_of_ble_eq_true rfl⟩⟩
set_option maxRecDepth 100000 in
theorem ok_X8_hail (l : Launch) : lw_Ok l 7 132 1 C_X8_hail := ⟨yX8_hail, cX8_hail, 2, (some .int), ip_rm 1, m_X8_hail l, ip_in [931, 932, 933, 39, 934] (by decide +kernel) (by decide +kernel), rfl, ⟨by decide +kernel, by decide +kernel, by decide +kernel⟩, ⟨rfl, rfl, Nat.le_of_ble_eq_true rfl, Nat.le_of_ble_eq_true rfl⟩⟩
set_option maxRecDepth 100000 in
theorem ok_X7_as (l : Launch) : lw_Ok l 6 133 2 C_X7_as := ⟨yX7_as, cX7_as, 4, (some .int), ip_rm 1, m_X7_as l, ip_in [602, 603, 604, 32, 605] (by decide +kernel) (by decide +kernel), rfl, ⟨by decide +kernel, by decide +kernel, by decide +kernel⟩, ⟨rfl, rfl, Nat.le_of_ble_eq_true rfl, Nat.le_of_ble_eq_true rfl⟩⟩
set_option maxRecDepth 100000 in
theorem ok_X8_as (l : Launch) : lw_Ok l 7 136 2 C_X8_as := ⟨yX8_as, cX8_as, 3, (some .int), ip_rm 1, m_X8_as l, ip_in [935, 936, 937, 39, 938] (by decide +kernel) (by decide +kernel), rfl, ⟨by decide +kernel, by decide +kernel, by decide +kernel⟩, ⟨rfl, rfl, Nat.le_of_ble_eq_true rfl, Nat.le_of_ble_eq_true rfl⟩⟩
set_option maxRecDepth 100000 in
theorem ok_X7_trace (l : Launch) : lw_Ok l 6 137 0 C_X7_trace := ⟨yX7_trace, cX7_trace, 1, (some .int), ip_rm 0, m_X7_trace l, ip_in [606, 607, 608, 32, 609] (by decide +kernel) (by decide +kernel), rfl, ⟨by decide +kernel, by decide +kernel, by decide +kernel⟩, ⟨rfl, rfl, Nat.le_of_ble_eq_true rfl, Nat.le_of_ble_eq_true rfl⟩⟩
set_option maxRecDepth 100000 in
theorem ok_X8_trace (l : Launch) : lw_Ok l 7 141 0 C_X8_trace := ⟨yX8_trace, cX8_trace, 1, (some .int), ip_rm 0, m_X8_trace l, ip_in [939, 940, 941, 39, 942] (by decide +kernel) (by decide +kernel), rfl, ⟨by decide +kernel, by decide +kernel, by decide +kernel⟩, ⟨rfl, rfl, Nat.le_of_ble_eq_true rfl, Nat.le_of_ble_eq_true rfl⟩⟩
set_option maxRecDepth 100000 in
theorem ok_X7_fault (l : Launch) : lw_Ok l 6 142 0 C_X7_fault := ⟨yX7_fault, cX7_fault, 1, (some .int), ip_rm 0, m_X7_fault l, ip_in [610, 611, 612, 32, 613] (by decide +kernel) (by decide +kernel), rfl, ⟨by decide +kernel, by decide +kernel, by decide +kernel⟩, ⟨rfl, rfl, Nat.le_of_ble_eq_true rfl, Nat.le_of_ble_eq_true rfl⟩⟩
set_option maxRecDepth 100000 in
theorem ok_X8_fault (l : Launch) : lw_Ok l 7 145 0 C_X8_fault := ⟨yX8_fault, cX8_fault, 1, (some .int), ip_rm 0, m_X8_fault l, ip_in [943, 944, 945, 39, 946] (by decide +kernel) (by decide +kernel), rfl, ⟨by decide +kernel, by decide +kernel, by decide +kernel⟩, ⟨rfl, rfl, Nat.le_of_ble_eq_true rfl, Nat.le_of_ble_eq_true rfl⟩⟩
set_option maxRecDepth 100000 in
theorem ok_X7_many (l : Launch) : lw_Ok l 6 146 1 C_X7_many := ⟨yX7_many, cX7_many, 2, (some .int), ip_rm 0, m_X7_many l, ip_in [614, 615, 616, 32, 617] (by decide +kernel) (by decide +kernel), rfl, ⟨by decide +kernel, by decide +kernel, by decide +kernel⟩, ⟨rfl, rfl, Nat.le_of_ble_eq_true rfl, Nat.le_of_ble_eq_true rfl⟩⟩
set_option maxRecDepth 100000 in
theorem ok_X8_many (l : Launch) : lw_Ok l 7 149 1 C_X8_many := ⟨yX8_many, cX8_many, 2, (some .int), ip_rm 0, m_X8_many l, ip_in [947, 948, 949, 39, 950] (by decide +kernel) (by decide +kernel), rfl, ⟨by decide +kernel, by decide +kernel, by decide +kernel⟩, ⟨rfl, rfl, Nat.le_of_ble_eq_true rfl, Nat.le_of_ble_eq_true rfl⟩⟩
