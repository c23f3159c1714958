set_option maxRecDepth 100000 in
theorem mokX3_runOf : pm_MOK miX3_runOf := .of [286, 55, 285, 1] (by decide +kernel) (by decide +kernel) (by decide +kernel)
set_option maxRecDepth 100000 in
theorem mokX3_numberRead : pm_MOK miX3_numberRead := .of [375, 55, 374, 8] (by decide +kernel) (by decide +kernel) (by decide +kernel)
set_option maxRecDepth 100000 in
theorem mokX4_feed : pm_MOK miX4_feed := .of [255, 53, 253, 254] (by decide +kernel) (by decide +kernel) (by decide +kernel)
set_option maxRecDepth 100000 in
theorem mokX4_end : pm_MOK miX4_end := .of [266, 53, 264, 265] (by decide +kernel) (by decide +kernel) (by decide +kernel)
set_option maxRecDepth 100000 in
theorem mokX4_text : pm_MOK miX4_text := .of [270, 53, 268, 269] (by decide +kernel) (by decide +kernel) (by decide +kernel)
set_option maxRecDepth 100000 in
theorem mokX4_fault : pm_MOK miX4_fault := .of [415, 53, 413, 414] (by decide +kernel) (by decide +kernel) (by decide +kernel)
set_option maxRecDepth 100000 in
theorem mokX4_rule : pm_MOK miX4_rule := .of [419, 53, 417, 418] (by decide +kernel) (by decide +kernel) (by decide +kernel)
set_option maxRecDepth 100000 in
theorem mokX4_bead : pm_MOK miX4_bead := .of [428, 53, 426, 427] (by decide +kernel) (by decide +kernel) (by decide +kernel)
set_option maxRecDepth 100000 in
theorem mokX4_knock : pm_MOK miX4_knock := .of [450, 53, 448, 449] (by decide +kernel) (by decide +kernel) (by decide +kernel)
set_option maxRecDepth 100000 in
theorem mokX4_alter : pm_MOK miX4_alter := .of [454, 53, 452, 453] (by decide +kernel) (by decide +kernel) (by decide +kernel)
set_option maxRecDepth 100000 in
theorem mokX4_drag : pm_MOK miX4_drag := .of [460, 53, 458, 459] (by decide +kernel) (by decide +kernel) (by decide +kernel)
set_option maxRecDepth 100000 in
theorem mokX4_bind : pm_MOK miX4_bind := .of [464, 53, 462, 463] (by decide +kernel) (by decide +kernel) (by decide +kernel)
set_option maxRecDepth 100000 in
theorem mokX4_cut : pm_MOK miX4_cut := .of [469, 53, 467, 468] (by decide +kernel) (by decide +kernel) (by decide +kernel)
set_option maxRecDepth 100000 in
theorem mokX4_hit : pm_MOK miX4_hit := .of [473, 53, 471, 472] (by decide +kernel) (by decide +kernel) (by decide +kernel)
set_option maxRecDepth 100000 in
theorem mokX4_add : pm_MOK miX4_add := .of [485, 53, 483, 484] (by decide +kernel) (by decide +kernel) (by decide +kernel)
set_option maxRecDepth 100000 in
theorem mokX4_drop : pm_MOK miX4_drop := .of [490, 53, 488, 489] (by decide +kernel) (by decide +kernel) (by decide +kernel)
set_option maxRecDepth 100000 in
theorem mokX4_calm : pm_MOK miX4_calm := .of [494, 53, 492, 493] (by decide +kernel) (by decide +kernel) (by decide +kernel)
set_option maxRecDepth 100000 in
theorem mokX4_ticks : pm_MOK miX4_ticks := .of [504, 53, 502, 503] (by decide +kernel) (by decide +kernel) (by decide +kernel)
set_option maxRecDepth 100000 in
theorem mokX4_runs : pm_MOK miX4_runs := .of [538, 53, 536, 537] (by decide +kernel) (by decide +kernel) (by decide +kernel)
set_option maxRecDepth 100000 in
theorem mokX4_ahead : pm_MOK miX4_ahead := .of [546, 53, 544, 545] (by decide +kernel) (by decide +kernel) (by decide +kernel)
set_option maxRecDepth 100000 in
theorem mokX4_when : pm_MOK miX4_when := .of [550, 53, 548, 549] (by decide +kernel) (by decide +kernel) (by decide +kernel)
set_option maxRecDepth 100000 in
theorem mokX4_rests : pm_MOK miX4_rests := .of [558, 53, 556, 557] (by decide +kernel) (by decide +kernel) (by decide +kernel)
set_option maxRecDepth 100000 in
theorem mokX4_stiff : pm_MOK miX4_stiff := .of [563, 53, 561, 562] (by decide +kernel) (by decide +kernel) (by decide +kernel)
set_option maxRecDepth 100000 in
theorem mokX4_rest : pm_MOK miX4_rest := .of [575, 53, 573, 574] (by decide +kernel) (by decide +kernel) (by decide +kernel)
set_option maxRecDepth 100000 in
theorem mokX4_kind : pm_MOK miX4_kind := .of [579, 53, 577, 578] (by decide +kernel) (by decide +kernel) (by decide +kernel)
set_option maxRecDepth 100000 in
theorem mokX4_mass : pm_MOK miX4_mass := .of [583, 53, 581, 582] (by decide +kernel) (by decide +kernel) (by decide +kernel)
set_option maxRecDepth 100000 in
theorem mokX4_swap : pm_MOK miX4_swap := .of [587, 53, 585, 586] (by decide +kernel) (by decide +kernel) (by decide +kernel)
set_option maxRecDepth 100000 in
theorem mokX4_miss : pm_MOK miX4_miss := .of [599, 53, 597, 598] (by decide +kernel) (by decide +kernel) (by decide +kernel)
set_option maxRecDepth 100000 in
theorem mokX4_swingAsItIs : pm_MOK miX4_swingAsItIs := .of [591, 53, 590, 16] (by decide +kernel) (by decide +kernel) (by decide +kernel)
set_option maxRecDepth 100000 in
theorem mokX4_steadiest : pm_MOK miX4_steadiest := .of [567, 53, 566, 14] (by decide +kernel) (by decide +kernel) (by decide +kernel)
set_option maxRecDepth 100000 in
theorem mokX4_tryWith : pm_MOK miX4_tryWith := .of [571, 53, 570, 15] (by decide +kernel) (by decide +kernel) (by decide +kernel)
set_option maxRecDepth 100000 in
theorem mokX4_luck : pm_MOK miX4_luck := .of [603, 53, 601, 602] (by decide +kernel) (by decide +kernel) (by decide +kernel)
set_option maxRecDepth 100000 in
theorem mokX4_mean : pm_MOK miX4_mean := .of [626, 53, 624, 625] (by decide +kernel) (by decide +kernel) (by decide +kernel)
set_option maxRecDepth 100000 in
theorem mokX4_runMissing : pm_MOK miX4_runMissing := .of [609, 53, 608, 17] (by decide +kernel) (by decide +kernel) (by decide +kernel)
set_option maxRecDepth 100000 in
theorem mokX4_weightOf : pm_MOK miX4_weightOf := .of [613, 53, 612] (by decide +kernel) (by decide +kernel) (by decide +kernel)
set_option maxRecDepth 100000 in
theorem mokX4_power : pm_MOK miX4_power := .of [616, 53, 615] (by decide +kernel) (by decide +kernel) (by decide +kernel)
set_option maxRecDepth 100000 in
theorem mokX4_partOfFraction : pm_MOK miX4_partOfFraction := .of [619, 53, 618] (by decide +kernel) (by decide +kernel) (by decide +kernel)
set_option maxRecDepth 100000 in
theorem mokX4_commonDivisor : pm_MOK miX4_commonDivisor := .of [622, 53, 621] (by decide +kernel) (by decide +kernel) (by decide +kernel)
set_option maxRecDepth 100000 in
theorem mokX4_see : pm_MOK miX4_see := .of [631, 53, 629, 630] (by decide +kernel) (by decide +kernel) (by decide +kernel)
set_option maxRecDepth 100000 in
theorem mokX4_forget : pm_MOK miX4_forget := .of [639, 53, 637, 638] (by decide +kernel) (by decide +kernel) (by decide +kernel)
set_option maxRecDepth 100000 in
theorem mokX4_kinds : pm_MOK miX4_kinds := .of [643, 53, 641, 642] (by decide +kernel) (by decide +kernel) (by decide +kernel)
set_option maxRecDepth 100000 in
theorem mokX4_stiffs : pm_MOK miX4_stiffs := .of [666, 53, 664, 665] (by decide +kernel) (by decide +kernel) (by decide +kernel)
set_option maxRecDepth 100000 in
theorem mokX4_ask : pm_MOK miX4_ask := .of [670, 53, 668, 669] (by decide +kernel) (by decide +kernel) (by decide +kernel)
