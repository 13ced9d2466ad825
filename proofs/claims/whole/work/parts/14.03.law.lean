set_option maxRecDepth 100000 in
theorem law_ok_3 : mokL mtab RL false code KL_law (some .boolean) 120 KL_law_3 [[], [], [], [], [], [], [], [], [], [111, 465, 466, 467], [], [], [], [], [], [], [], [], [], [], [], [], [], [], [], [], [], [], [], [], [], [], [], [], [], [], [120, 1394, 1395, 1396], [], [], []] = true := by decide +kernel
