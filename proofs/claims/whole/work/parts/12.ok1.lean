set_option maxRecDepth 100000 in
theorem okX9_join : am_mok am_mt mX9_join := ⟨(698, 65, 697, 10), tbX9_join, by decide +kernel, am_lk_mem _⟩
set_option maxRecDepth 100000 in
theorem okX9_fill : am_mok am_mt mX9_fill := ⟨(702, 65, 701, 0), tbX9_fill, by decide +kernel, am_lk_mem _⟩
set_option maxRecDepth 100000 in
theorem okX9_keep : am_mok am_mt mX9_keep := ⟨(706, 65, 705, 11), tbX9_keep, by decide +kernel, am_lk_mem _⟩
set_option maxRecDepth 100000 in
theorem okX9_isLastOfColumn : am_mok am_mt mX9_isLastOfColumn := ⟨(714, 65, 713, 12), tbX9_isLastOfColumn, by decide +kernel, am_lk_mem _⟩
set_option maxRecDepth 100000 in
theorem okX9_fits : am_mok am_mt mX9_fits := ⟨(718, 65, 717, 13), tbX9_fits, by decide +kernel, am_lk_mem _⟩
set_option maxRecDepth 100000 in
theorem okX10_reckon : am_mok am_mt mX10_reckon := ⟨(369, 59, 367, 368), tbX10_reckon, by decide +kernel, am_lk_mem _⟩
set_option maxRecDepth 100000 in
theorem okX10_uniform : am_mok am_mt mX10_uniform := ⟨(394, 59, 392, 393), tbX10_uniform, by decide +kernel, am_lk_mem _⟩
set_option maxRecDepth 100000 in
theorem okX10_columns : am_mok am_mt mX10_columns := ⟨(418, 59, 416, 417), tbX10_columns, by decide +kernel, am_lk_mem _⟩
set_option maxRecDepth 100000 in
theorem okX10_tell : am_mok am_mt mX10_tell := ⟨(489, 59, 487, 488), tbX10_tell, by decide +kernel, am_lk_mem _⟩
set_option maxRecDepth 100000 in
theorem okX10_cause : am_mok am_mt mX10_cause := ⟨(522, 59, 520, 521), tbX10_cause, by decide +kernel, am_lk_mem _⟩
set_option maxRecDepth 100000 in
theorem okX10_rank : am_mok am_mt mX10_rank := ⟨(526, 59, 524, 525), tbX10_rank, by decide +kernel, am_lk_mem _⟩
set_option maxRecDepth 100000 in
theorem okX10_span : am_mok am_mt mX10_span := ⟨(536, 59, 534, 535), tbX10_span, by decide +kernel, am_lk_mem _⟩
set_option maxRecDepth 100000 in
theorem okX10_sorts : am_mok am_mt mX10_sorts := ⟨(544, 59, 542, 543), tbX10_sorts, by decide +kernel, am_lk_mem _⟩
set_option maxRecDepth 100000 in
theorem okX10_many : am_mok am_mt mX10_many := ⟨(566, 59, 564, 565), tbX10_many, by decide +kernel, am_lk_mem _⟩
set_option maxRecDepth 100000 in
theorem okX10_at : am_mok am_mt mX10_at := ⟨(575, 59, 573, 574), tbX10_at, by decide +kernel, am_lk_mem _⟩
set_option maxRecDepth 100000 in
theorem okX10_best : am_mok am_mt mX10_best := ⟨(583, 59, 581, 582), tbX10_best, by decide +kernel, am_lk_mem _⟩
set_option maxRecDepth 100000 in
theorem okX10_dual : am_mok am_mt mX10_dual := ⟨(601, 59, 599, 600), tbX10_dual, by decide +kernel, am_lk_mem _⟩
set_option maxRecDepth 100000 in
theorem okX10_minor : am_mok am_mt mX10_minor := ⟨(614, 59, 612, 613), tbX10_minor, by decide +kernel, am_lk_mem _⟩
set_option maxRecDepth 100000 in
theorem okX10_union : am_mok am_mt mX10_union := ⟨(625, 59, 623, 624), tbX10_union, by decide +kernel, am_lk_mem _⟩
set_option maxRecDepth 100000 in
theorem okX10_renumber : am_mok am_mt mX10_renumber := ⟨(633, 59, 631, 632), tbX10_renumber, by decide +kernel, am_lk_mem _⟩
set_option maxRecDepth 100000 in
theorem okX10_same : am_mok am_mt mX10_same := ⟨(651, 59, 649, 650), tbX10_same, by decide +kernel, am_lk_mem _⟩
set_option maxRecDepth 100000 in
theorem okX10_alike : am_mok am_mt mX10_alike := ⟨(659, 59, 657, 658), tbX10_alike, by decide +kernel, am_lk_mem _⟩
set_option maxRecDepth 100000 in
theorem okX10_writings : am_mok am_mt mX10_writings := ⟨(673, 59, 671, 672), tbX10_writings, by decide +kernel, am_lk_mem _⟩
set_option maxRecDepth 100000 in
theorem okX10_writes : am_mok am_mt mX10_writes := ⟨(731, 59, 729, 730), tbX10_writes, by decide +kernel, am_lk_mem _⟩
set_option maxRecDepth 100000 in
theorem okX10_clash : am_mok am_mt mX10_clash := ⟨(748, 59, 746, 747), tbX10_clash, by decide +kernel, am_lk_mem _⟩
set_option maxRecDepth 100000 in
theorem okX10_excluded : am_mok am_mt mX10_excluded := ⟨(753, 59, 751, 752), tbX10_excluded, by decide +kernel, am_lk_mem _⟩
set_option maxRecDepth 100000 in
theorem okX10_seed : am_mok am_mt mX10_seed := ⟨(785, 59, 783, 784), tbX10_seed, by decide +kernel, am_lk_mem _⟩
set_option maxRecDepth 100000 in
theorem okX10_deal : am_mok am_mt mX10_deal := ⟨(789, 59, 787, 788), tbX10_deal, by decide +kernel, am_lk_mem _⟩
set_option maxRecDepth 100000 in
theorem okX10_chance : am_mok am_mt mX10_chance := ⟨(803, 59, 801, 802), tbX10_chance, by decide +kernel, am_lk_mem _⟩
set_option maxRecDepth 100000 in
theorem okX10_hold : am_mok am_mt mX10_hold := ⟨(807, 59, 805, 806), tbX10_hold, by decide +kernel, am_lk_mem _⟩
set_option maxRecDepth 100000 in
theorem okX10_held : am_mok am_mt mX10_held := ⟨(824, 59, 822, 823), tbX10_held, by decide +kernel, am_lk_mem _⟩
set_option maxRecDepth 100000 in
theorem okX10_take : am_mok am_mt mX10_take := ⟨(836, 59, 834, 835), tbX10_take, by decide +kernel, am_lk_mem _⟩
set_option maxRecDepth 100000 in
theorem okX10_sheet : am_mok am_mt mX10_sheet := ⟨(840, 59, 838, 839), tbX10_sheet, by decide +kernel, am_lk_mem _⟩
set_option maxRecDepth 100000 in
theorem okX10_write : am_mok am_mt mX10_write := ⟨(844, 59, 842, 843), tbX10_write, by decide +kernel, am_lk_mem _⟩
set_option maxRecDepth 100000 in
theorem okX10_item : am_mok am_mt mX10_item := ⟨(852, 59, 850, 851), tbX10_item, by decide +kernel, am_lk_mem _⟩
set_option maxRecDepth 100000 in
theorem okX10_copy : am_mok am_mt mX10_copy := ⟨(856, 59, 854, 855), tbX10_copy, by decide +kernel, am_lk_mem _⟩
set_option maxRecDepth 100000 in
theorem okX10_list : am_mok am_mt mX10_list := ⟨(865, 59, 863, 864), tbX10_list, by decide +kernel, am_lk_mem _⟩
set_option maxRecDepth 100000 in
theorem okX10_image : am_mok am_mt mX10_image := ⟨(869, 59, 867, 868), tbX10_image, by decide +kernel, am_lk_mem _⟩
set_option maxRecDepth 100000 in
theorem okX10_back : am_mok am_mt mX10_back := ⟨(877, 59, 875, 876), tbX10_back, by decide +kernel, am_lk_mem _⟩
set_option maxRecDepth 100000 in
theorem okX10_count : am_mok am_mt mX10_count := ⟨(881, 59, 879, 880), tbX10_count, by decide +kernel, am_lk_mem _⟩
set_option maxRecDepth 100000 in
theorem okX10_isBelow : am_mok am_mt mX10_isBelow := ⟨(372, 59, 371, 0), tbX10_isBelow, by decide +kernel, am_lk_mem _⟩
set_option maxRecDepth 100000 in
theorem okX10_isElementCount : am_mok am_mt mX10_isElementCount := ⟨(397, 59, 396, 0), tbX10_isElementCount, by decide +kernel, am_lk_mem _⟩
set_option maxRecDepth 100000 in
theorem okX10_isDealt : am_mok am_mt mX10_isDealt := ⟨(792, 59, 791, 0), tbX10_isDealt, by decide +kernel, am_lk_mem _⟩
set_option maxRecDepth 100000 in
theorem okX10_isSetOf : am_mok am_mt mX10_isSetOf := ⟨(530, 59, 529, 5), tbX10_isSetOf, by decide +kernel, am_lk_mem _⟩
set_option maxRecDepth 100000 in
theorem okX10_refusalOfPlace : am_mok am_mt mX10_refusalOfPlace := ⟨(848, 59, 847, 18), tbX10_refusalOfPlace, by decide +kernel, am_lk_mem _⟩
set_option maxRecDepth 100000 in
theorem okX10_drawColumns : am_mok am_mt mX10_drawColumns := ⟨(796, 59, 795, 17), tbX10_drawColumns, by decide +kernel, am_lk_mem _⟩
set_option maxRecDepth 100000 in
theorem okX10_elementsOfAll : am_mok am_mt mX10_elementsOfAll := ⟨(873, 59, 872, 19), tbX10_elementsOfAll, by decide +kernel, am_lk_mem _⟩
set_option maxRecDepth 100000 in
theorem okX10_fullHolds : am_mok am_mt mX10_fullHolds := ⟨(885, 59, 884, 20), tbX10_fullHolds, by decide +kernel, am_lk_mem _⟩
set_option maxRecDepth 100000 in
theorem okX10_sheetsThere : am_mok am_mt mX10_sheetsThere := ⟨(889, 59, 888, 21), tbX10_sheetsThere, by decide +kernel, am_lk_mem _⟩
set_option maxRecDepth 100000 in
theorem okX11_in : am_mok am_mt mX11_in := ⟨(975, 70, 974, 0), tbX11_in, by decide +kernel, am_lk_mem _⟩
set_option maxRecDepth 100000 in
theorem okX11_has : am_mok am_mt mX11_has := ⟨(1023, 70, 1022, 0), tbX11_has, by decide +kernel, am_lk_mem _⟩
set_option maxRecDepth 100000 in
theorem okX11_bits : am_mok am_mt mX11_bits := ⟨(1005, 70, 1004, 0), tbX11_bits, by decide +kernel, am_lk_mem _⟩
set_option maxRecDepth 100000 in
theorem okX11_plus : am_mok am_mt mX11_plus := ⟨(979, 70, 978, 22), tbX11_plus, by decide +kernel, am_lk_mem _⟩
set_option maxRecDepth 100000 in
theorem okX11_minus : am_mok am_mt mX11_minus := ⟨(983, 70, 982, 23), tbX11_minus, by decide +kernel, am_lk_mem _⟩
set_option maxRecDepth 100000 in
theorem okX11_times : am_mok am_mt mX11_times := ⟨(987, 70, 986, 24), tbX11_times, by decide +kernel, am_lk_mem _⟩
set_option maxRecDepth 100000 in
theorem okX11_by : am_mok am_mt mX11_by := ⟨(991, 70, 990, 25), tbX11_by, by decide +kernel, am_lk_mem _⟩
set_option maxRecDepth 100000 in
theorem okX11_isField : am_mok am_mt mX11_isField := ⟨(972, 70, 971, 0), tbX11_isField, by decide +kernel, am_lk_mem _⟩
set_option maxRecDepth 100000 in
theorem okX11_reckon : am_mok am_mt mX11_reckon := ⟨(969, 70, 967, 968), tbX11_reckon, by decide +kernel, am_lk_mem _⟩
set_option maxRecDepth 100000 in
theorem okX11_isView : am_mok am_mt mX11_isView := ⟨(998, 70, 997, 0), tbX11_isView, by decide +kernel, am_lk_mem _⟩
set_option maxRecDepth 100000 in
theorem okX11_all : am_mok am_mt mX11_all := ⟨(1002, 70, 1001, 26), tbX11_all, by decide +kernel, am_lk_mem _⟩
set_option maxRecDepth 100000 in
theorem okX11_r : am_mok am_mt mX11_r := ⟨(1031, 70, 1030, 30), tbX11_r, by decide +kernel, am_lk_mem _⟩
set_option maxRecDepth 100000 in
theorem okX11_total : am_mok am_mt mX11_total := ⟨(1027, 70, 1026, 29), tbX11_total, by decide +kernel, am_lk_mem _⟩
set_option maxRecDepth 100000 in
theorem okX11_copies : am_mok am_mt mX11_copies := ⟨(1230, 70, 1229, 55), tbX11_copies, by decide +kernel, am_lk_mem _⟩
set_option maxRecDepth 100000 in
theorem okX11_uniform : am_mok am_mt mX11_uniform := ⟨(995, 70, 993, 994), tbX11_uniform, by decide +kernel, am_lk_mem _⟩
set_option maxRecDepth 100000 in
theorem okX11_rankOf : am_mok am_mt mX11_rankOf := ⟨(1020, 70, 1019, 28), tbX11_rankOf, by decide +kernel, am_lk_mem _⟩
set_option maxRecDepth 100000 in
theorem okX11_byColumns : am_mok am_mt mX11_byColumns := ⟨(1016, 70, 1015, 27), tbX11_byColumns, by decide +kernel, am_lk_mem _⟩
set_option maxRecDepth 100000 in
theorem okX11_columns : am_mok am_mt mX11_columns := ⟨(1009, 70, 1007, 1008), tbX11_columns, by decide +kernel, am_lk_mem _⟩
set_option maxRecDepth 100000 in
theorem okX11_isCause : am_mok am_mt mX11_isCause := ⟨(1043, 70, 1042, 32), tbX11_isCause, by decide +kernel, am_lk_mem _⟩
set_option maxRecDepth 100000 in
theorem okX11_isTold : am_mok am_mt mX11_isTold := ⟨(1047, 70, 1046, 33), tbX11_isTold, by decide +kernel, am_lk_mem _⟩
set_option maxRecDepth 100000 in
theorem okX11_hasCause : am_mok am_mt mX11_hasCause := ⟨(1039, 70, 1038, 31), tbX11_hasCause, by decide +kernel, am_lk_mem _⟩
