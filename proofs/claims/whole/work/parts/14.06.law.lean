set_option maxRecDepth 100000 in
theorem law_ok_6 : mokL mtab RL false code KL_law (some .boolean) 240 KL_law_6 [[], [], [], [], [], [], [], [], [], [120, 1550, 1551, 1552], [], [], [], [], [], [], [], [], [], [], [], [], [], [], [], [], [], [], [], [], [], [], [], [], [], [], [], [], [], []] = true := by decide +kernel
