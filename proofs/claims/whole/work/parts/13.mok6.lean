set_option maxRecDepth 100000 in
theorem mokJ6_bitCount_0f7a4 : pm_MOK miJ6_bitCount_0f7a4 := .of [497, 64, 496] (by decide +kernel) (by decide +kernel) (by decide +kernel)
