set_option maxRecDepth 100000 in
theorem mokX5_speedOf : pm_MOK miX5_speedOf := .of [967, 58, 966] (by decide +kernel) (by decide +kernel) (by decide +kernel)
set_option maxRecDepth 100000 in
theorem mokX5_knockOn : pm_MOK miX5_knockOn := .of [964, 58, 963, 38] (by decide +kernel) (by decide +kernel) (by decide +kernel)
set_option maxRecDepth 100000 in
theorem mokX5_speedsOn : pm_MOK miX5_speedsOn := .of [1000, 58, 999, 42] (by decide +kernel) (by decide +kernel) (by decide +kernel)
set_option maxRecDepth 100000 in
theorem mokX5_placesOn : pm_MOK miX5_placesOn := .of [1004, 58, 1003, 43] (by decide +kernel) (by decide +kernel) (by decide +kernel)
set_option maxRecDepth 100000 in
theorem mokX5_lastOn : pm_MOK miX5_lastOn := .of [901, 58, 900, 32] (by decide +kernel) (by decide +kernel) (by decide +kernel)
set_option maxRecDepth 100000 in
theorem mokX5_movesOn : pm_MOK miX5_movesOn := .of [996, 58, 995, 41] (by decide +kernel) (by decide +kernel) (by decide +kernel)
set_option maxRecDepth 100000 in
theorem mokX5_tickOn : pm_MOK miX5_tickOn := .of [992, 58, 991, 40] (by decide +kernel) (by decide +kernel) (by decide +kernel)
set_option maxRecDepth 100000 in
theorem mokX5_rule : pm_MOK miX5_rule := .of [897, 58, 895, 896] (by decide +kernel) (by decide +kernel) (by decide +kernel)
set_option maxRecDepth 100000 in
theorem mokX5_bead : pm_MOK miX5_bead := .of [905, 58, 903, 904] (by decide +kernel) (by decide +kernel) (by decide +kernel)
set_option maxRecDepth 100000 in
theorem mokX5_knock : pm_MOK miX5_knock := .of [924, 58, 922, 923] (by decide +kernel) (by decide +kernel) (by decide +kernel)
set_option maxRecDepth 100000 in
theorem mokX5_puts : pm_MOK miX5_puts := .of [943, 58, 942, 37] (by decide +kernel) (by decide +kernel) (by decide +kernel)
set_option maxRecDepth 100000 in
theorem mokX5_isGood : pm_MOK miX5_isGood := .of [935, 58, 934] (by decide +kernel) (by decide +kernel) (by decide +kernel)
set_option maxRecDepth 100000 in
theorem mokX5_alter : pm_MOK miX5_alter := .of [932, 58, 930, 931] (by decide +kernel) (by decide +kernel) (by decide +kernel)
set_option maxRecDepth 100000 in
theorem mokX5_drag : pm_MOK miX5_drag := .of [947, 58, 945, 946] (by decide +kernel) (by decide +kernel) (by decide +kernel)
set_option maxRecDepth 100000 in
theorem mokX5_bind : pm_MOK miX5_bind := .of [951, 58, 949, 950] (by decide +kernel) (by decide +kernel) (by decide +kernel)
set_option maxRecDepth 100000 in
theorem mokX5_cut : pm_MOK miX5_cut := .of [955, 58, 953, 954] (by decide +kernel) (by decide +kernel) (by decide +kernel)
set_option maxRecDepth 100000 in
theorem mokX5_hit : pm_MOK miX5_hit := .of [959, 58, 957, 958] (by decide +kernel) (by decide +kernel) (by decide +kernel)
set_option maxRecDepth 100000 in
theorem mokX5_adds : pm_MOK miX5_adds := .of [975, 58, 974, 39] (by decide +kernel) (by decide +kernel) (by decide +kernel)
set_option maxRecDepth 100000 in
theorem mokX5_add : pm_MOK miX5_add := .of [971, 58, 969, 970] (by decide +kernel) (by decide +kernel) (by decide +kernel)
set_option maxRecDepth 100000 in
theorem mokX5_drop : pm_MOK miX5_drop := .of [979, 58, 977, 978] (by decide +kernel) (by decide +kernel) (by decide +kernel)
set_option maxRecDepth 100000 in
theorem mokX5_calm : pm_MOK miX5_calm := .of [983, 58, 981, 982] (by decide +kernel) (by decide +kernel) (by decide +kernel)
set_option maxRecDepth 100000 in
theorem mokX5_ticks : pm_MOK miX5_ticks := .of [987, 58, 985, 986] (by decide +kernel) (by decide +kernel) (by decide +kernel)
set_option maxRecDepth 100000 in
theorem mokX5_copies : pm_MOK miX5_copies := .of [1023, 58, 1022, 45] (by decide +kernel) (by decide +kernel) (by decide +kernel)
set_option maxRecDepth 100000 in
theorem mokX5_ticksGo : pm_MOK miX5_ticksGo := .of [1019, 58, 1018, 44] (by decide +kernel) (by decide +kernel) (by decide +kernel)
set_option maxRecDepth 100000 in
theorem mokX5_runs : pm_MOK miX5_runs := .of [1011, 58, 1009, 1010] (by decide +kernel) (by decide +kernel) (by decide +kernel)
set_option maxRecDepth 100000 in
theorem mokX5_ahead : pm_MOK miX5_ahead := .of [1027, 58, 1025, 1026] (by decide +kernel) (by decide +kernel) (by decide +kernel)
set_option maxRecDepth 100000 in
theorem mokX5_when : pm_MOK miX5_when := .of [1031, 58, 1029, 1030] (by decide +kernel) (by decide +kernel) (by decide +kernel)
set_option maxRecDepth 100000 in
theorem mokX5_rests : pm_MOK miX5_rests := .of [1035, 58, 1033, 1034] (by decide +kernel) (by decide +kernel) (by decide +kernel)
set_option maxRecDepth 100000 in
theorem mokX5_leastAt : pm_MOK miX5_leastAt := .of [1047, 58, 1046, 47] (by decide +kernel) (by decide +kernel) (by decide +kernel)
set_option maxRecDepth 100000 in
theorem mokX5_isAsked : pm_MOK miX5_isAsked := .of [1043, 58, 1042, 46] (by decide +kernel) (by decide +kernel) (by decide +kernel)
set_option maxRecDepth 100000 in
theorem mokX5_stiff : pm_MOK miX5_stiff := .of [1039, 58, 1037, 1038] (by decide +kernel) (by decide +kernel) (by decide +kernel)
set_option maxRecDepth 100000 in
theorem mokX5_rest : pm_MOK miX5_rest := .of [1052, 58, 1050, 1051] (by decide +kernel) (by decide +kernel) (by decide +kernel)
set_option maxRecDepth 100000 in
theorem mokX5_kind : pm_MOK miX5_kind := .of [1056, 58, 1054, 1055] (by decide +kernel) (by decide +kernel) (by decide +kernel)
set_option maxRecDepth 100000 in
theorem mokX5_mass : pm_MOK miX5_mass := .of [1060, 58, 1058, 1059] (by decide +kernel) (by decide +kernel) (by decide +kernel)
