set_option maxRecDepth 100000 in
theorem law_ok_2 : mokL mtab RL false code KL_law (some .boolean) 80 KL_law_2 [[], [], [], [], [], [], [], [111, 457, 458, 459], [], [], [], [], [], [], [], [], [], [], [], [120, 1390, 1391, 1392], [], [], [], [], [], [], [], [], [], [], [], [], [], [], [], [], [], [], [], []] = true := by decide +kernel
