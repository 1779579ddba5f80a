set_option maxRecDepth 100000 in
theorem okJ_bitCount : am_mok am_mt mJ_bitCount := ⟨(408, 71, 407, 0), tbJ_bitCount, by decide +kernel, am_lk_mem _⟩
set_option maxRecDepth 100000 in
theorem okJ_ntz : am_mok am_mt mJ_ntz := ⟨(458, 71, 457, 0), tbJ_ntz, by decide +kernel, am_lk_mem _⟩
set_option maxRecDepth 100000 in
theorem okX0_findIn : am_mok am_mt mX0_findIn := ⟨(493, 62, 491, 492), tbX0_findIn, by decide +kernel, am_lk_mem _⟩
set_option maxRecDepth 100000 in
theorem okX0_say : am_mok am_mt mX0_say := ⟨(497, 62, 496, 1), tbX0_say, by decide +kernel, am_lk_mem _⟩
set_option maxRecDepth 100000 in
theorem okX0_findInNumbers : am_mok am_mt mX0_findInNumbers := ⟨(501, 62, 500, 2), tbX0_findInNumbers, by decide +kernel, am_lk_mem _⟩
set_option maxRecDepth 100000 in
theorem okX0_findInTwos : am_mok am_mt mX0_findInTwos := ⟨(508, 62, 507, 3), tbX0_findInTwos, by decide +kernel, am_lk_mem _⟩
set_option maxRecDepth 100000 in
theorem okX0_lacksOneFor : am_mok am_mt mX0_lacksOneFor := ⟨(512, 62, 511, 4), tbX0_lacksOneFor, by decide +kernel, am_lk_mem _⟩
set_option maxRecDepth 100000 in
theorem okX1_findIn : am_mok am_mt mX1_findIn := ⟨(757, 66, 755, 756), tbX1_findIn, by decide +kernel, am_lk_mem _⟩
set_option maxRecDepth 100000 in
theorem okX1_sortForTwo : am_mok am_mt mX1_sortForTwo := ⟨(764, 66, 763, 14), tbX1_sortForTwo, by decide +kernel, am_lk_mem _⟩
set_option maxRecDepth 100000 in
theorem okX1_sortForThree : am_mok am_mt mX1_sortForThree := ⟨(772, 66, 771, 15), tbX1_sortForThree, by decide +kernel, am_lk_mem _⟩
set_option maxRecDepth 100000 in
theorem okX2_rest : am_mok am_mt mX2_rest := ⟨(380, 64, 378, 379), tbX2_rest, by decide +kernel, am_lk_mem _⟩
set_option maxRecDepth 100000 in
theorem okX2_sum : am_mok am_mt mX2_sum := ⟨(376, 64, 374, 375), tbX2_sum, by decide +kernel, am_lk_mem _⟩
set_option maxRecDepth 100000 in
theorem okX2_difference : am_mok am_mt mX2_difference := ⟨(384, 64, 382, 383), tbX2_difference, by decide +kernel, am_lk_mem _⟩
set_option maxRecDepth 100000 in
theorem okX2_product : am_mok am_mt mX2_product := ⟨(167, 64, 165, 166), tbX2_product, by decide +kernel, am_lk_mem _⟩
set_option maxRecDepth 100000 in
theorem okX2_inverse : am_mok am_mt mX2_inverse := ⟨(389, 64, 387, 388), tbX2_inverse, by decide +kernel, am_lk_mem _⟩
set_option maxRecDepth 100000 in
theorem okX2_columnCount : am_mok am_mt mX2_columnCount := ⟨(426, 64, 424, 425), tbX2_columnCount, by decide +kernel, am_lk_mem _⟩
set_option maxRecDepth 100000 in
theorem okX2_tellOf : am_mok am_mt mX2_tellOf := ⟨(832, 64, 830, 831), tbX2_tellOf, by decide +kernel, am_lk_mem _⟩
set_option maxRecDepth 100000 in
theorem okX3_isEmpty : am_mok am_mt mX3_isEmpty := ⟨(828, 68, 826, 827), tbX3_isEmpty, by decide +kernel, am_lk_mem _⟩
set_option maxRecDepth 100000 in
theorem okX3_keepField : am_mok am_mt mX3_keepField := ⟨(811, 68, 809, 810), tbX3_keepField, by decide +kernel, am_lk_mem _⟩
set_option maxRecDepth 100000 in
theorem okX3_keepView : am_mok am_mt mX3_keepView := ⟨(815, 68, 813, 814), tbX3_keepView, by decide +kernel, am_lk_mem _⟩
set_option maxRecDepth 100000 in
theorem okX3_letGo : am_mok am_mt mX3_letGo := ⟨(820, 68, 818, 819), tbX3_letGo, by decide +kernel, am_lk_mem _⟩
set_option maxRecDepth 100000 in
theorem okX5_clear : am_mok am_mt mX5_clear := ⟨(435, 63, 433, 434), tbX5_clear, by decide +kernel, am_lk_mem _⟩
set_option maxRecDepth 100000 in
theorem okX5_put : am_mok am_mt mX5_put := ⟨(446, 63, 444, 445), tbX5_put, by decide +kernel, am_lk_mem _⟩
set_option maxRecDepth 100000 in
theorem okX5_putCode : am_mok am_mt mX5_putCode := ⟨(439, 63, 437, 438), tbX5_putCode, by decide +kernel, am_lk_mem _⟩
set_option maxRecDepth 100000 in
theorem okX5_codeOf : am_mok am_mt mX5_codeOf := ⟨(710, 63, 708, 709), tbX5_codeOf, by decide +kernel, am_lk_mem _⟩
set_option maxRecDepth 100000 in
theorem okX5_emptyEchelon : am_mok am_mt mX5_emptyEchelon := ⟨(455, 63, 453, 454), tbX5_emptyEchelon, by decide +kernel, am_lk_mem _⟩
set_option maxRecDepth 100000 in
theorem okX5_rankOf : am_mok am_mt mX5_rankOf := ⟨(724, 63, 722, 723), tbX5_rankOf, by decide +kernel, am_lk_mem _⟩
set_option maxRecDepth 100000 in
theorem okX5_enter : am_mok am_mt mX5_enter := ⟨(467, 63, 465, 466), tbX5_enter, by decide +kernel, am_lk_mem _⟩
set_option maxRecDepth 100000 in
theorem okX5_keepLeft : am_mok am_mt mX5_keepLeft := ⟨(474, 63, 473, 0), tbX5_keepLeft, by decide +kernel, am_lk_mem _⟩
set_option maxRecDepth 100000 in
theorem okX5_leave : am_mok am_mt mX5_leave := ⟨(463, 63, 461, 462), tbX5_leave, by decide +kernel, am_lk_mem _⟩
set_option maxRecDepth 100000 in
theorem okX6_readFrom : am_mok am_mt mX6_readFrom := ⟨(637, 67, 635, 636), tbX6_readFrom, by decide +kernel, am_lk_mem _⟩
set_option maxRecDepth 100000 in
theorem okX6_newSet : am_mok am_mt mX6_newSet := ⟨(647, 67, 645, 646), tbX6_newSet, by decide +kernel, am_lk_mem _⟩
set_option maxRecDepth 100000 in
theorem okX6_canMatch : am_mok am_mt mX6_canMatch := ⟨(662, 67, 661, 0), tbX6_canMatch, by decide +kernel, am_lk_mem _⟩
set_option maxRecDepth 100000 in
theorem okX6_agrees : am_mok am_mt mX6_agrees := ⟨(666, 67, 665, 7), tbX6_agrees, by decide +kernel, am_lk_mem _⟩
set_option maxRecDepth 100000 in
theorem okX7_isMissing : am_mok am_mt mX7_isMissing := ⟨(422, 69, 420, 421), tbX7_isMissing, by decide +kernel, am_lk_mem _⟩
set_option maxRecDepth 100000 in
theorem okX7_become : am_mok am_mt mX7_become := ⟨(735, 69, 733, 734), tbX7_become, by decide +kernel, am_lk_mem _⟩
set_option maxRecDepth 100000 in
theorem okX7_hasPlaces : am_mok am_mt mX7_hasPlaces := ⟨(860, 69, 858, 859), tbX7_hasPlaces, by decide +kernel, am_lk_mem _⟩
set_option maxRecDepth 100000 in
theorem okX7_numberAt : am_mok am_mt mX7_numberAt := ⟨(430, 69, 428, 429), tbX7_numberAt, by decide +kernel, am_lk_mem _⟩
set_option maxRecDepth 100000 in
theorem okX7_put : am_mok am_mt mX7_put := ⟨(744, 69, 742, 743), tbX7_put, by decide +kernel, am_lk_mem _⟩
set_option maxRecDepth 100000 in
theorem okX7_weightOf : am_mok am_mt mX7_weightOf := ⟨(595, 69, 593, 594), tbX7_weightOf, by decide +kernel, am_lk_mem _⟩
set_option maxRecDepth 100000 in
theorem okX8_all : am_mok am_mt mX8_all := ⟨(405, 61, 403, 404), tbX8_all, by decide +kernel, am_lk_mem _⟩
set_option maxRecDepth 100000 in
theorem okX8_rankOf : am_mok am_mt mX8_rankOf := ⟨(485, 61, 483, 484), tbX8_rankOf, by decide +kernel, am_lk_mem _⟩
set_option maxRecDepth 100000 in
theorem okX8_fullRank : am_mok am_mt mX8_fullRank := ⟨(481, 61, 479, 480), tbX8_fullRank, by decide +kernel, am_lk_mem _⟩
set_option maxRecDepth 100000 in
theorem okX8_become : am_mok am_mt mX8_become := ⟨(609, 61, 607, 608), tbX8_become, by decide +kernel, am_lk_mem _⟩
set_option maxRecDepth 100000 in
theorem okX8_becomeUniform : am_mok am_mt mX8_becomeUniform := ⟨(401, 61, 399, 400), tbX8_becomeUniform, by decide +kernel, am_lk_mem _⟩
set_option maxRecDepth 100000 in
theorem okX8_becomeByColumns : am_mok am_mt mX8_becomeByColumns := ⟨(451, 61, 449, 450), tbX8_becomeByColumns, by decide +kernel, am_lk_mem _⟩
set_option maxRecDepth 100000 in
theorem okX8_becomeByBases : am_mok am_mt mX8_becomeByBases := ⟨(516, 61, 514, 515), tbX8_becomeByBases, by decide +kernel, am_lk_mem _⟩
set_option maxRecDepth 100000 in
theorem okX8_becomeDual : am_mok am_mt mX8_becomeDual := ⟨(605, 61, 603, 604), tbX8_becomeDual, by decide +kernel, am_lk_mem _⟩
set_option maxRecDepth 100000 in
theorem okX8_becomeMinor : am_mok am_mt mX8_becomeMinor := ⟨(618, 61, 616, 617), tbX8_becomeMinor, by decide +kernel, am_lk_mem _⟩
set_option maxRecDepth 100000 in
theorem okX8_spreadOver : am_mok am_mt mX8_spreadOver := ⟨(621, 61, 620, 0), tbX8_spreadOver, by decide +kernel, am_lk_mem _⟩
set_option maxRecDepth 100000 in
theorem okX8_becomeUnion : am_mok am_mt mX8_becomeUnion := ⟨(629, 61, 627, 628), tbX8_becomeUnion, by decide +kernel, am_lk_mem _⟩
set_option maxRecDepth 100000 in
theorem okX8_becomeRenumbered : am_mok am_mt mX8_becomeRenumbered := ⟨(643, 61, 641, 642), tbX8_becomeRenumbered, by decide +kernel, am_lk_mem _⟩
set_option maxRecDepth 100000 in
theorem okX8_leastUnlike : am_mok am_mt mX8_leastUnlike := ⟨(655, 61, 653, 654), tbX8_leastUnlike, by decide +kernel, am_lk_mem _⟩
set_option maxRecDepth 100000 in
theorem okX8_spanOf : am_mok am_mt mX8_spanOf := ⟨(540, 61, 538, 539), tbX8_spanOf, by decide +kernel, am_lk_mem _⟩
set_option maxRecDepth 100000 in
theorem okX8_isFree : am_mok am_mt mX8_isFree := ⟨(552, 61, 550, 551), tbX8_isFree, by decide +kernel, am_lk_mem _⟩
set_option maxRecDepth 100000 in
theorem okX8_isBase : am_mok am_mt mX8_isBase := ⟨(556, 61, 554, 555), tbX8_isBase, by decide +kernel, am_lk_mem _⟩
set_option maxRecDepth 100000 in
theorem okX8_isCircuit : am_mok am_mt mX8_isCircuit := ⟨(561, 61, 560, 6), tbX8_isCircuit, by decide +kernel, am_lk_mem _⟩
set_option maxRecDepth 100000 in
theorem okX8_isOfSort : am_mok am_mt mX8_isOfSort := ⟨(548, 61, 546, 547), tbX8_isOfSort, by decide +kernel, am_lk_mem _⟩
set_option maxRecDepth 100000 in
theorem okX8_countOf : am_mok am_mt mX8_countOf := ⟨(570, 61, 568, 569), tbX8_countOf, by decide +kernel, am_lk_mem _⟩
set_option maxRecDepth 100000 in
theorem okX8_findNumber : am_mok am_mt mX8_findNumber := ⟨(579, 61, 577, 578), tbX8_findNumber, by decide +kernel, am_lk_mem _⟩
set_option maxRecDepth 100000 in
theorem okX8_firstBase : am_mok am_mt mX8_firstBase := ⟨(591, 61, 589, 590), tbX8_firstBase, by decide +kernel, am_lk_mem _⟩
set_option maxRecDepth 100000 in
theorem okX8_heaviestBase : am_mok am_mt mX8_heaviestBase := ⟨(587, 61, 585, 586), tbX8_heaviestBase, by decide +kernel, am_lk_mem _⟩
set_option maxRecDepth 100000 in
theorem okX8_isUniform : am_mok am_mt mX8_isUniform := ⟨(768, 61, 766, 767), tbX8_isUniform, by decide +kernel, am_lk_mem _⟩
set_option maxRecDepth 100000 in
theorem okX8_isSevenPointPlane : am_mok am_mt mX8_isSevenPointPlane := ⟨(776, 61, 774, 775), tbX8_isSevenPointPlane, by decide +kernel, am_lk_mem _⟩
set_option maxRecDepth 100000 in
theorem okX8_linesThrough : am_mok am_mt mX8_linesThrough := ⟨(780, 61, 779, 16), tbX8_linesThrough, by decide +kernel, am_lk_mem _⟩
set_option maxRecDepth 100000 in
theorem okX9_countUpTo : am_mok am_mt mX9_countUpTo := ⟨(678, 65, 676, 677), tbX9_countUpTo, by decide +kernel, am_lk_mem _⟩
set_option maxRecDepth 100000 in
theorem okX9_firstCode : am_mok am_mt mX9_firstCode := ⟨(740, 65, 738, 739), tbX9_firstCode, by decide +kernel, am_lk_mem _⟩
set_option maxRecDepth 100000 in
theorem okX9_layOut : am_mok am_mt mX9_layOut := ⟨(682, 65, 680, 681), tbX9_layOut, by decide +kernel, am_lk_mem _⟩
set_option maxRecDepth 100000 in
theorem okX9_layOutColumn : am_mok am_mt mX9_layOutColumn := ⟨(688, 65, 687, 8), tbX9_layOutColumn, by decide +kernel, am_lk_mem _⟩
set_option maxRecDepth 100000 in
theorem okX9_addPlace : am_mok am_mt mX9_addPlace := ⟨(694, 65, 693, 9), tbX9_addPlace, by decide +kernel, am_lk_mem _⟩
