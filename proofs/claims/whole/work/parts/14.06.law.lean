set_option maxRecDepth 100000 in
theorem law_ok_6 : mokL jtab RL false code KL_law (some .boolean) 240 KL_law_6 [[], [], [], [], [], [], [], [], [], [120, 1556, 1557, 1558], [], [], [], [], [], [], [], [], [], [], [], [], [], [], [], [], [], [], [], [], [], [], [], [], [], [], [], [], [], []] = true := by decide +kernel
