set_option maxRecDepth 100000 in
theorem law_ok_9 : mokL mtab RL false code KL_law (some .boolean) 360 KL_law_9 [[], [], [], [], [], [], [111, 916, 917, 918], [], [], [], [], [], [], [120, 1702, 1703, 1704], [], [], [], [], [], [], [], [], [], [], [], [], [], [], [111, 930, 931, 932], [], [], [], [], [], [], [], [], [], [], []] = true := by decide +kernel
