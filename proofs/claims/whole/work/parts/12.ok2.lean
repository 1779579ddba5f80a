set_option maxRecDepth 100000 in
theorem okX11_tell : am_mok am_mt mX11_tell := ⟨(1035, 70, 1033, 1034), tbX11_tell, by decide +kernel, am_lk_mem _⟩
set_option maxRecDepth 100000 in
theorem okX11_cause : am_mok am_mt mX11_cause := ⟨(1051, 70, 1049, 1050), tbX11_cause, by decide +kernel, am_lk_mem _⟩
set_option maxRecDepth 100000 in
theorem okX11_isSet : am_mok am_mt mX11_isSet := ⟨(1059, 70, 1058, 34), tbX11_isSet, by decide +kernel, am_lk_mem _⟩
set_option maxRecDepth 100000 in
theorem okX11_rank : am_mok am_mt mX11_rank := ⟨(1055, 70, 1053, 1054), tbX11_rank, by decide +kernel, am_lk_mem _⟩
set_option maxRecDepth 100000 in
theorem okX11_spanOf : am_mok am_mt mX11_spanOf := ⟨(1067, 70, 1066, 35), tbX11_spanOf, by decide +kernel, am_lk_mem _⟩
set_option maxRecDepth 100000 in
theorem okX11_span : am_mok am_mt mX11_span := ⟨(1063, 70, 1061, 1062), tbX11_span, by decide +kernel, am_lk_mem _⟩
set_option maxRecDepth 100000 in
theorem okX11_isFree : am_mok am_mt mX11_isFree := ⟨(1079, 70, 1078, 37), tbX11_isFree, by decide +kernel, am_lk_mem _⟩
set_option maxRecDepth 100000 in
theorem okX11_isOf : am_mok am_mt mX11_isOf := ⟨(1075, 70, 1074, 36), tbX11_isOf, by decide +kernel, am_lk_mem _⟩
set_option maxRecDepth 100000 in
theorem okX11_sorts : am_mok am_mt mX11_sorts := ⟨(1071, 70, 1069, 1070), tbX11_sorts, by decide +kernel, am_lk_mem _⟩
set_option maxRecDepth 100000 in
theorem okX11_countOf : am_mok am_mt mX11_countOf := ⟨(1087, 70, 1086, 38), tbX11_countOf, by decide +kernel, am_lk_mem _⟩
set_option maxRecDepth 100000 in
theorem okX11_many : am_mok am_mt mX11_many := ⟨(1083, 70, 1081, 1082), tbX11_many, by decide +kernel, am_lk_mem _⟩
set_option maxRecDepth 100000 in
theorem okX11_at : am_mok am_mt mX11_at := ⟨(1091, 70, 1089, 1090), tbX11_at, by decide +kernel, am_lk_mem _⟩
set_option maxRecDepth 100000 in
theorem okX11_weightOf : am_mok am_mt mX11_weightOf := ⟨(1099, 70, 1098, 39), tbX11_weightOf, by decide +kernel, am_lk_mem _⟩
set_option maxRecDepth 100000 in
theorem okX11_best : am_mok am_mt mX11_best := ⟨(1095, 70, 1093, 1094), tbX11_best, by decide +kernel, am_lk_mem _⟩
set_option maxRecDepth 100000 in
theorem okX11_duals : am_mok am_mt mX11_duals := ⟨(1107, 70, 1106, 40), tbX11_duals, by decide +kernel, am_lk_mem _⟩
set_option maxRecDepth 100000 in
theorem okX11_dual : am_mok am_mt mX11_dual := ⟨(1103, 70, 1101, 1102), tbX11_dual, by decide +kernel, am_lk_mem _⟩
set_option maxRecDepth 100000 in
theorem okX11_spread : am_mok am_mt mX11_spread := ⟨(1118, 70, 1117, 0), tbX11_spread, by decide +kernel, am_lk_mem _⟩
set_option maxRecDepth 100000 in
theorem okX11_minors : am_mok am_mt mX11_minors := ⟨(1115, 70, 1114, 41), tbX11_minors, by decide +kernel, am_lk_mem _⟩
set_option maxRecDepth 100000 in
theorem okX11_minor : am_mok am_mt mX11_minor := ⟨(1111, 70, 1109, 1110), tbX11_minor, by decide +kernel, am_lk_mem _⟩
set_option maxRecDepth 100000 in
theorem okX11_union : am_mok am_mt mX11_union := ⟨(1122, 70, 1120, 1121), tbX11_union, by decide +kernel, am_lk_mem _⟩
set_option maxRecDepth 100000 in
theorem okX11_renumber : am_mok am_mt mX11_renumber := ⟨(1126, 70, 1124, 1125), tbX11_renumber, by decide +kernel, am_lk_mem _⟩
set_option maxRecDepth 100000 in
theorem okX11_areSame : am_mok am_mt mX11_areSame := ⟨(1134, 70, 1133, 42), tbX11_areSame, by decide +kernel, am_lk_mem _⟩
set_option maxRecDepth 100000 in
theorem okX11_same : am_mok am_mt mX11_same := ⟨(1130, 70, 1128, 1129), tbX11_same, by decide +kernel, am_lk_mem _⟩
set_option maxRecDepth 100000 in
theorem okX11_fits : am_mok am_mt mX11_fits := ⟨(1142, 70, 1141, 43), tbX11_fits, by decide +kernel, am_lk_mem _⟩
set_option maxRecDepth 100000 in
theorem okX11_alike : am_mok am_mt mX11_alike := ⟨(1138, 70, 1136, 1137), tbX11_alike, by decide +kernel, am_lk_mem _⟩
set_option maxRecDepth 100000 in
theorem okX11_firstBase : am_mok am_mt mX11_firstBase := ⟨(1159, 70, 1158, 46), tbX11_firstBase, by decide +kernel, am_lk_mem _⟩
set_option maxRecDepth 100000 in
theorem okX11_joins : am_mok am_mt mX11_joins := ⟨(1163, 70, 1162, 47), tbX11_joins, by decide +kernel, am_lk_mem _⟩
set_option maxRecDepth 100000 in
theorem okX11_laysPattern : am_mok am_mt mX11_laysPattern := ⟨(1155, 70, 1154, 45), tbX11_laysPattern, by decide +kernel, am_lk_mem _⟩
set_option maxRecDepth 100000 in
theorem okX11_isWriting : am_mok am_mt mX11_isWriting := ⟨(1167, 70, 1166, 48), tbX11_isWriting, by decide +kernel, am_lk_mem _⟩
set_option maxRecDepth 100000 in
theorem okX11_goesOn : am_mok am_mt mX11_goesOn := ⟨(1171, 70, 1170, 49), tbX11_goesOn, by decide +kernel, am_lk_mem _⟩
set_option maxRecDepth 100000 in
theorem okX11_writingsOf : am_mok am_mt mX11_writingsOf := ⟨(1151, 70, 1150, 44), tbX11_writingsOf, by decide +kernel, am_lk_mem _⟩
set_option maxRecDepth 100000 in
theorem okX11_writings : am_mok am_mt mX11_writings := ⟨(1146, 70, 1144, 1145), tbX11_writings, by decide +kernel, am_lk_mem _⟩
set_option maxRecDepth 100000 in
theorem okX11_writes : am_mok am_mt mX11_writes := ⟨(1175, 70, 1173, 1174), tbX11_writes, by decide +kernel, am_lk_mem _⟩
set_option maxRecDepth 100000 in
theorem okX11_clash : am_mok am_mt mX11_clash := ⟨(1183, 70, 1181, 1182), tbX11_clash, by decide +kernel, am_lk_mem _⟩
set_option maxRecDepth 100000 in
theorem okX11_isAll : am_mok am_mt mX11_isAll := ⟨(1195, 70, 1194, 52), tbX11_isAll, by decide +kernel, am_lk_mem _⟩
set_option maxRecDepth 100000 in
theorem okX11_isSevens : am_mok am_mt mX11_isSevens := ⟨(1199, 70, 1198, 53), tbX11_isSevens, by decide +kernel, am_lk_mem _⟩
set_option maxRecDepth 100000 in
theorem okX11_sortOf : am_mok am_mt mX11_sortOf := ⟨(1191, 70, 1190, 51), tbX11_sortOf, by decide +kernel, am_lk_mem _⟩
set_option maxRecDepth 100000 in
theorem okX11_excluded : am_mok am_mt mX11_excluded := ⟨(1187, 70, 1185, 1186), tbX11_excluded, by decide +kernel, am_lk_mem _⟩
set_option maxRecDepth 100000 in
theorem okX11_seed : am_mok am_mt mX11_seed := ⟨(1203, 70, 1201, 1202), tbX11_seed, by decide +kernel, am_lk_mem _⟩
set_option maxRecDepth 100000 in
theorem okX11_dealt : am_mok am_mt mX11_dealt := ⟨(1214, 70, 1213, 54), tbX11_dealt, by decide +kernel, am_lk_mem _⟩
set_option maxRecDepth 100000 in
theorem okX11_isDeal : am_mok am_mt mX11_isDeal := ⟨(1210, 70, 1209, 0), tbX11_isDeal, by decide +kernel, am_lk_mem _⟩
set_option maxRecDepth 100000 in
theorem okX11_deal : am_mok am_mt mX11_deal := ⟨(1207, 70, 1205, 1206), tbX11_deal, by decide +kernel, am_lk_mem _⟩
set_option maxRecDepth 100000 in
theorem okX11_chance : am_mok am_mt mX11_chance := ⟨(1219, 70, 1217, 1218), tbX11_chance, by decide +kernel, am_lk_mem _⟩
set_option maxRecDepth 100000 in
theorem okX11_isHold : am_mok am_mt mX11_isHold := ⟨(1226, 70, 1225, 0), tbX11_isHold, by decide +kernel, am_lk_mem _⟩
set_option maxRecDepth 100000 in
theorem okX11_hold : am_mok am_mt mX11_hold := ⟨(1223, 70, 1221, 1222), tbX11_hold, by decide +kernel, am_lk_mem _⟩
set_option maxRecDepth 100000 in
theorem okX11_held : am_mok am_mt mX11_held := ⟨(1234, 70, 1232, 1233), tbX11_held, by decide +kernel, am_lk_mem _⟩
set_option maxRecDepth 100000 in
theorem okX11_take : am_mok am_mt mX11_take := ⟨(1238, 70, 1236, 1237), tbX11_take, by decide +kernel, am_lk_mem _⟩
set_option maxRecDepth 100000 in
theorem okX11_isSheet : am_mok am_mt mX11_isSheet := ⟨(1012, 70, 1011, 0), tbX11_isSheet, by decide +kernel, am_lk_mem _⟩
set_option maxRecDepth 100000 in
theorem okX11_laysSheet : am_mok am_mt mX11_laysSheet := ⟨(1179, 70, 1178, 50), tbX11_laysSheet, by decide +kernel, am_lk_mem _⟩
set_option maxRecDepth 100000 in
theorem okX11_sheet : am_mok am_mt mX11_sheet := ⟨(1242, 70, 1240, 1241), tbX11_sheet, by decide +kernel, am_lk_mem _⟩
set_option maxRecDepth 100000 in
theorem okX11_wrongAt : am_mok am_mt mX11_wrongAt := ⟨(1250, 70, 1249, 56), tbX11_wrongAt, by decide +kernel, am_lk_mem _⟩
set_option maxRecDepth 100000 in
theorem okX11_write : am_mok am_mt mX11_write := ⟨(1246, 70, 1244, 1245), tbX11_write, by decide +kernel, am_lk_mem _⟩
set_option maxRecDepth 100000 in
theorem okX11_item : am_mok am_mt mX11_item := ⟨(1254, 70, 1252, 1253), tbX11_item, by decide +kernel, am_lk_mem _⟩
set_option maxRecDepth 100000 in
theorem okX11_copy : am_mok am_mt mX11_copy := ⟨(1258, 70, 1256, 1257), tbX11_copy, by decide +kernel, am_lk_mem _⟩
set_option maxRecDepth 100000 in
theorem okX11_list : am_mok am_mt mX11_list := ⟨(1262, 70, 1260, 1261), tbX11_list, by decide +kernel, am_lk_mem _⟩
set_option maxRecDepth 100000 in
theorem okX11_elements : am_mok am_mt mX11_elements := ⟨(1270, 70, 1269, 57), tbX11_elements, by decide +kernel, am_lk_mem _⟩
set_option maxRecDepth 100000 in
theorem okX11_image : am_mok am_mt mX11_image := ⟨(1266, 70, 1264, 1265), tbX11_image, by decide +kernel, am_lk_mem _⟩
set_option maxRecDepth 100000 in
theorem okX11_back : am_mok am_mt mX11_back := ⟨(1274, 70, 1272, 1273), tbX11_back, by decide +kernel, am_lk_mem _⟩
set_option maxRecDepth 100000 in
theorem okX11_count : am_mok am_mt mX11_count := ⟨(1278, 70, 1276, 1277), tbX11_count, by decide +kernel, am_lk_mem _⟩
