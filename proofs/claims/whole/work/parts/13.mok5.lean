set_option maxRecDepth 100000 in
theorem mokX5_swap : pm_MOK miX5_swap := .of [1064, 58, 1062, 1063] (by decide +kernel) (by decide +kernel) (by decide +kernel)
set_option maxRecDepth 100000 in
theorem mokX5_miss : pm_MOK miX5_miss := .of [1068, 58, 1066, 1067] (by decide +kernel) (by decide +kernel) (by decide +kernel)
set_option maxRecDepth 100000 in
theorem mokX5_lowest : pm_MOK miX5_lowest := .of [1083, 58, 1082] (by decide +kernel) (by decide +kernel) (by decide +kernel)
set_option maxRecDepth 100000 in
theorem mokX5_byMisses : pm_MOK miX5_byMisses := .of [1080, 58, 1079, 48] (by decide +kernel) (by decide +kernel) (by decide +kernel)
set_option maxRecDepth 100000 in
theorem mokX5_luck : pm_MOK miX5_luck := .of [1072, 58, 1070, 1071] (by decide +kernel) (by decide +kernel) (by decide +kernel)
set_option maxRecDepth 100000 in
theorem mokX5_mean : pm_MOK miX5_mean := .of [1087, 58, 1085, 1086] (by decide +kernel) (by decide +kernel) (by decide +kernel)
set_option maxRecDepth 100000 in
theorem mokX5_see : pm_MOK miX5_see := .of [1091, 58, 1089, 1090] (by decide +kernel) (by decide +kernel) (by decide +kernel)
set_option maxRecDepth 100000 in
theorem mokX5_forget : pm_MOK miX5_forget := .of [1096, 58, 1094, 1095] (by decide +kernel) (by decide +kernel) (by decide +kernel)
set_option maxRecDepth 100000 in
theorem mokX5_isAsSeen : pm_MOK miX5_isAsSeen := .of [1108, 58, 1107, 50] (by decide +kernel) (by decide +kernel) (by decide +kernel)
set_option maxRecDepth 100000 in
theorem mokX5_numbersAt : pm_MOK miX5_numbersAt := .of [1104, 58, 1103, 49] (by decide +kernel) (by decide +kernel) (by decide +kernel)
set_option maxRecDepth 100000 in
theorem mokX5_kinds : pm_MOK miX5_kinds := .of [1100, 58, 1098, 1099] (by decide +kernel) (by decide +kernel) (by decide +kernel)
set_option maxRecDepth 100000 in
theorem mokX5_stiffs : pm_MOK miX5_stiffs := .of [1112, 58, 1110, 1111] (by decide +kernel) (by decide +kernel) (by decide +kernel)
set_option maxRecDepth 100000 in
theorem mokX5_worstAt : pm_MOK miX5_worstAt := .of [1120, 58, 1119, 51] (by decide +kernel) (by decide +kernel) (by decide +kernel)
set_option maxRecDepth 100000 in
theorem mokX5_ask : pm_MOK miX5_ask := .of [1116, 58, 1114, 1115] (by decide +kernel) (by decide +kernel) (by decide +kernel)
set_option maxRecDepth 100000 in
theorem mokX5_drift : pm_MOK miX5_drift := .of [1124, 58, 1122, 1123] (by decide +kernel) (by decide +kernel) (by decide +kernel)
set_option maxRecDepth 100000 in
theorem mokX5_keep : pm_MOK miX5_keep := .of [1129, 58, 1127, 1128] (by decide +kernel) (by decide +kernel) (by decide +kernel)
set_option maxRecDepth 100000 in
theorem mokX5_back : pm_MOK miX5_back := .of [1133, 58, 1131, 1132] (by decide +kernel) (by decide +kernel) (by decide +kernel)
set_option maxRecDepth 100000 in
theorem mokX5_sheet : pm_MOK miX5_sheet := .of [1137, 58, 1135, 1136] (by decide +kernel) (by decide +kernel) (by decide +kernel)
set_option maxRecDepth 100000 in
theorem mokX5_lay : pm_MOK miX5_lay := .of [1142, 58, 1140, 1141] (by decide +kernel) (by decide +kernel) (by decide +kernel)
set_option maxRecDepth 100000 in
theorem mokX5_read : pm_MOK miX5_read := .of [1146, 58, 1144, 1145] (by decide +kernel) (by decide +kernel) (by decide +kernel)
set_option maxRecDepth 100000 in
theorem mokX5_torn : pm_MOK miX5_torn := .of [1151, 58, 1149, 1150] (by decide +kernel) (by decide +kernel) (by decide +kernel)
set_option maxRecDepth 100000 in
theorem mokX5_count : pm_MOK miX5_count := .of [1155, 58, 1153, 1154] (by decide +kernel) (by decide +kernel) (by decide +kernel)
set_option maxRecDepth 100000 in
theorem mokJ6_compare_7cf53 : pm_MOK miJ6_compare_7cf53 := .of [553, 64, 552] (by decide +kernel) (by decide +kernel) (by decide +kernel)
