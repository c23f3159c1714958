set_option maxRecDepth 100000 in
theorem mokX3_wordRead : pm_MOK miX3_wordRead := .of [301, 55, 300, 4] (by decide +kernel) (by decide +kernel) (by decide +kernel)
set_option maxRecDepth 100000 in
theorem mokX0_clear : pm_MOK miX0_clear := .of [278, 54, 276, 277] (by decide +kernel) (by decide +kernel) (by decide +kernel)
set_option maxRecDepth 100000 in
theorem mokX0_becomeLike : pm_MOK miX0_becomeLike := .of [411, 54, 409, 410] (by decide +kernel) (by decide +kernel) (by decide +kernel)
set_option maxRecDepth 100000 in
theorem mokX0_has : pm_MOK miX0_has := .of [432, 54, 430, 431] (by decide +kernel) (by decide +kernel) (by decide +kernel)
set_option maxRecDepth 100000 in
theorem mokX0_rowOf : pm_MOK miX0_rowOf := .of [436, 54, 434, 435] (by decide +kernel) (by decide +kernel) (by decide +kernel)
set_option maxRecDepth 100000 in
theorem mokX0_sumOf : pm_MOK miX0_sumOf := .of [748, 54, 746, 747] (by decide +kernel) (by decide +kernel) (by decide +kernel)
set_option maxRecDepth 100000 in
theorem mokX0_lastPlace : pm_MOK miX0_lastPlace := .of [404, 54, 402, 403] (by decide +kernel) (by decide +kernel) (by decide +kernel)
set_option maxRecDepth 100000 in
theorem mokX0_stillBits : pm_MOK miX0_stillBits := .of [423, 54, 421, 422] (by decide +kernel) (by decide +kernel) (by decide +kernel)
set_option maxRecDepth 100000 in
theorem mokX0_addBead : pm_MOK miX0_addBead := .of [400, 54, 398, 399] (by decide +kernel) (by decide +kernel) (by decide +kernel)
set_option maxRecDepth 100000 in
theorem mokX0_addKnock : pm_MOK miX0_addKnock := .of [388, 54, 386, 387] (by decide +kernel) (by decide +kernel) (by decide +kernel)
set_option maxRecDepth 100000 in
theorem mokX0_changePlaces : pm_MOK miX0_changePlaces := .of [595, 54, 593, 594] (by decide +kernel) (by decide +kernel) (by decide +kernel)
set_option maxRecDepth 100000 in
theorem mokX0_stretchOf : pm_MOK miX0_stretchOf := .of [440, 54, 438, 439] (by decide +kernel) (by decide +kernel) (by decide +kernel)
set_option maxRecDepth 100000 in
theorem mokX0_pullOf : pm_MOK miX0_pullOf := .of [444, 54, 442, 443] (by decide +kernel) (by decide +kernel) (by decide +kernel)
set_option maxRecDepth 100000 in
theorem mokX0_knockOnce : pm_MOK miX0_knockOnce := .of [477, 54, 475, 476] (by decide +kernel) (by decide +kernel) (by decide +kernel)
set_option maxRecDepth 100000 in
theorem mokX0_knockByPlan : pm_MOK miX0_knockByPlan := .of [516, 54, 514, 515] (by decide +kernel) (by decide +kernel) (by decide +kernel)
set_option maxRecDepth 100000 in
theorem mokX0_tickOnce : pm_MOK miX0_tickOnce := .of [512, 54, 510, 511] (by decide +kernel) (by decide +kernel) (by decide +kernel)
set_option maxRecDepth 100000 in
theorem mokX0_tickOften : pm_MOK miX0_tickOften := .of [508, 54, 506, 507] (by decide +kernel) (by decide +kernel) (by decide +kernel)
set_option maxRecDepth 100000 in
theorem mokX0_move : pm_MOK miX0_move := .of [521, 54, 519, 520] (by decide +kernel) (by decide +kernel) (by decide +kernel)
set_option maxRecDepth 100000 in
theorem mokX0_goOn : pm_MOK miX0_goOn := .of [531, 54, 530, 13] (by decide +kernel) (by decide +kernel) (by decide +kernel)
set_option maxRecDepth 100000 in
theorem mokX0_slowed : pm_MOK miX0_slowed := .of [526, 54, 525, 12] (by decide +kernel) (by decide +kernel) (by decide +kernel)
set_option maxRecDepth 100000 in
theorem mokX0_inBounds : pm_MOK miX0_inBounds := .of [481, 54, 480] (by decide +kernel) (by decide +kernel) (by decide +kernel)
set_option maxRecDepth 100000 in
theorem mokX0_greatestSwing : pm_MOK miX0_greatestSwing := .of [542, 54, 540, 541] (by decide +kernel) (by decide +kernel) (by decide +kernel)
set_option maxRecDepth 100000 in
theorem mokX1_note : pm_MOK miX1_note := .of [635, 56, 633, 634] (by decide +kernel) (by decide +kernel) (by decide +kernel)
set_option maxRecDepth 100000 in
theorem mokX1_isSoOf : pm_MOK miX1_isSoOf := .of [651, 56, 649, 650] (by decide +kernel) (by decide +kernel) (by decide +kernel)
set_option maxRecDepth 100000 in
theorem mokX1_latestTick : pm_MOK miX1_latestTick := .of [655, 56, 654, 19] (by decide +kernel) (by decide +kernel) (by decide +kernel)
set_option maxRecDepth 100000 in
theorem mokX1_agrees : pm_MOK miX1_agrees := .of [660, 56, 659, 20] (by decide +kernel) (by decide +kernel) (by decide +kernel)
set_option maxRecDepth 100000 in
theorem mokX2_isNothing : pm_MOK miX2_isNothing := .of [716, 57, 714, 715] (by decide +kernel) (by decide +kernel) (by decide +kernel)
set_option maxRecDepth 100000 in
theorem mokX2_make : pm_MOK miX2_make := .of [704, 57, 702, 703] (by decide +kernel) (by decide +kernel) (by decide +kernel)
set_option maxRecDepth 100000 in
theorem mokX2_put : pm_MOK miX2_put := .of [721, 57, 719, 720] (by decide +kernel) (by decide +kernel) (by decide +kernel)
set_option maxRecDepth 100000 in
theorem mokX2_faultAt : pm_MOK miX2_faultAt := .of [712, 57, 710, 711] (by decide +kernel) (by decide +kernel) (by decide +kernel)
set_option maxRecDepth 100000 in
theorem mokX2_faultAs : pm_MOK miX2_faultAs := .of [733, 57, 732, 24] (by decide +kernel) (by decide +kernel) (by decide +kernel)
set_option maxRecDepth 100000 in
theorem mokX2_faultOfPair : pm_MOK miX2_faultOfPair := .of [729, 57, 727, 728] (by decide +kernel) (by decide +kernel) (by decide +kernel)
set_option maxRecDepth 100000 in
theorem mokX3_put : pm_MOK miX3_put := .of [262, 55, 260, 261] (by decide +kernel) (by decide +kernel) (by decide +kernel)
set_option maxRecDepth 100000 in
theorem mokX3_tellInto : pm_MOK miX3_tellInto := .of [274, 55, 272, 273] (by decide +kernel) (by decide +kernel) (by decide +kernel)
set_option maxRecDepth 100000 in
theorem mokX3_blame : pm_MOK miX3_blame := .of [293, 55, 292, 2] (by decide +kernel) (by decide +kernel) (by decide +kernel)
set_option maxRecDepth 100000 in
theorem mokX3_takeLine : pm_MOK miX3_takeLine := .of [297, 55, 296, 3] (by decide +kernel) (by decide +kernel) (by decide +kernel)
set_option maxRecDepth 100000 in
theorem mokX3_takeBead : pm_MOK miX3_takeBead := .of [392, 55, 391, 11] (by decide +kernel) (by decide +kernel) (by decide +kernel)
set_option maxRecDepth 100000 in
theorem mokX3_takeDrag : pm_MOK miX3_takeDrag := .of [367, 55, 366, 6] (by decide +kernel) (by decide +kernel) (by decide +kernel)
set_option maxRecDepth 100000 in
theorem mokX3_takeKnock : pm_MOK miX3_takeKnock := .of [384, 55, 383, 10] (by decide +kernel) (by decide +kernel) (by decide +kernel)
set_option maxRecDepth 100000 in
theorem mokX3_takeNumber : pm_MOK miX3_takeNumber := .of [371, 55, 370, 7] (by decide +kernel) (by decide +kernel) (by decide +kernel)
set_option maxRecDepth 100000 in
theorem mokX3_takeSemicolon : pm_MOK miX3_takeSemicolon := .of [380, 55, 379, 9] (by decide +kernel) (by decide +kernel) (by decide +kernel)
set_option maxRecDepth 100000 in
theorem mokX3_readToken : pm_MOK miX3_readToken := .of [282, 55, 281, 0] (by decide +kernel) (by decide +kernel) (by decide +kernel)
