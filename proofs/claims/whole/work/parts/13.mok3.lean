set_option maxRecDepth 100000 in
theorem mokX4_asSeenBits : pm_MOK miX4_asSeenBits := .of [647, 53, 646, 18] (by decide +kernel) (by decide +kernel) (by decide +kernel)
set_option maxRecDepth 100000 in
theorem mokX4_traceStiffs : pm_MOK miX4_traceStiffs := .of [674, 53, 673, 21] (by decide +kernel) (by decide +kernel) (by decide +kernel)
set_option maxRecDepth 100000 in
theorem mokX4_mostAlike : pm_MOK miX4_mostAlike := .of [678, 53, 677, 22] (by decide +kernel) (by decide +kernel) (by decide +kernel)
set_option maxRecDepth 100000 in
theorem mokX4_drift : pm_MOK miX4_drift := .of [683, 53, 681, 682] (by decide +kernel) (by decide +kernel) (by decide +kernel)
set_option maxRecDepth 100000 in
theorem mokX4_keep : pm_MOK miX4_keep := .of [688, 53, 686, 687] (by decide +kernel) (by decide +kernel) (by decide +kernel)
set_option maxRecDepth 100000 in
theorem mokX4_back : pm_MOK miX4_back := .of [696, 53, 694, 695] (by decide +kernel) (by decide +kernel) (by decide +kernel)
set_option maxRecDepth 100000 in
theorem mokX4_imageOf : pm_MOK miX4_imageOf := .of [692, 53, 691, 23] (by decide +kernel) (by decide +kernel) (by decide +kernel)
set_option maxRecDepth 100000 in
theorem mokX4_sheet : pm_MOK miX4_sheet := .of [700, 53, 698, 699] (by decide +kernel) (by decide +kernel) (by decide +kernel)
set_option maxRecDepth 100000 in
theorem mokX4_lay : pm_MOK miX4_lay := .of [708, 53, 706, 707] (by decide +kernel) (by decide +kernel) (by decide +kernel)
set_option maxRecDepth 100000 in
theorem mokX4_read : pm_MOK miX4_read := .of [725, 53, 723, 724] (by decide +kernel) (by decide +kernel) (by decide +kernel)
set_option maxRecDepth 100000 in
theorem mokX4_torn : pm_MOK miX4_torn := .of [739, 53, 737, 738] (by decide +kernel) (by decide +kernel) (by decide +kernel)
set_option maxRecDepth 100000 in
theorem mokX4_count : pm_MOK miX4_count := .of [743, 53, 741, 742] (by decide +kernel) (by decide +kernel) (by decide +kernel)
set_option maxRecDepth 100000 in
theorem mokX4_within : pm_MOK miX4_within := .of [258, 53, 257] (by decide +kernel) (by decide +kernel) (by decide +kernel)
set_option maxRecDepth 100000 in
theorem mokX5_in : pm_MOK miX5_in := .of [848, 58, 847] (by decide +kernel) (by decide +kernel) (by decide +kernel)
set_option maxRecDepth 100000 in
theorem mokX5_amount : pm_MOK miX5_amount := .of [1007, 58, 1006] (by decide +kernel) (by decide +kernel) (by decide +kernel)
set_option maxRecDepth 100000 in
theorem mokX5_feed : pm_MOK miX5_feed := .of [844, 58, 842, 843] (by decide +kernel) (by decide +kernel) (by decide +kernel)
set_option maxRecDepth 100000 in
theorem mokX5_end : pm_MOK miX5_end := .of [852, 58, 850, 851] (by decide +kernel) (by decide +kernel) (by decide +kernel)
set_option maxRecDepth 100000 in
theorem mokX5_byteAt : pm_MOK miX5_byteAt := .of [864, 58, 863, 26] (by decide +kernel) (by decide +kernel) (by decide +kernel)
set_option maxRecDepth 100000 in
theorem mokX5_fails : pm_MOK miX5_fails := .of [872, 58, 871, 27] (by decide +kernel) (by decide +kernel) (by decide +kernel)
set_option maxRecDepth 100000 in
theorem mokX5_nameHere : pm_MOK miX5_nameHere := .of [880, 58, 879, 29] (by decide +kernel) (by decide +kernel) (by decide +kernel)
set_option maxRecDepth 100000 in
theorem mokX5_readsOn : pm_MOK miX5_readsOn := .of [860, 58, 859, 25] (by decide +kernel) (by decide +kernel) (by decide +kernel)
set_option maxRecDepth 100000 in
theorem mokX5_number : pm_MOK miX5_number := .of [889, 58, 888, 31] (by decide +kernel) (by decide +kernel) (by decide +kernel)
set_option maxRecDepth 100000 in
theorem mokX5_readMore : pm_MOK miX5_readMore := .of [885, 58, 884, 30] (by decide +kernel) (by decide +kernel) (by decide +kernel)
set_option maxRecDepth 100000 in
theorem mokX5_readLine : pm_MOK miX5_readLine := .of [876, 58, 875, 28] (by decide +kernel) (by decide +kernel) (by decide +kernel)
set_option maxRecDepth 100000 in
theorem mokX5_text : pm_MOK miX5_text := .of [856, 58, 854, 855] (by decide +kernel) (by decide +kernel) (by decide +kernel)
set_option maxRecDepth 100000 in
theorem mokX5_fault : pm_MOK miX5_fault := .of [893, 58, 891, 892] (by decide +kernel) (by decide +kernel) (by decide +kernel)
set_option maxRecDepth 100000 in
theorem mokX5_isBead : pm_MOK miX5_isBead := .of [909, 58, 908, 33] (by decide +kernel) (by decide +kernel) (by decide +kernel)
set_option maxRecDepth 100000 in
theorem mokX5_isKnock : pm_MOK miX5_isKnock := .of [928, 58, 927, 36] (by decide +kernel) (by decide +kernel) (by decide +kernel)
set_option maxRecDepth 100000 in
theorem mokX5_isLong : pm_MOK miX5_isLong := .of [1014, 58, 1013] (by decide +kernel) (by decide +kernel) (by decide +kernel)
set_option maxRecDepth 100000 in
theorem mokX5_stretchOn : pm_MOK miX5_stretchOn := .of [914, 58, 913, 34] (by decide +kernel) (by decide +kernel) (by decide +kernel)
set_option maxRecDepth 100000 in
theorem mokX5_pullOn : pm_MOK miX5_pullOn := .of [918, 58, 917, 35] (by decide +kernel) (by decide +kernel) (by decide +kernel)
