set_option maxRecDepth 100000 in
theorem law_ok_19 : mokL mtab RL false code KL_law (some .boolean) 760 KL_law_19 [[], [], [], [], [], [], [], [], [], [], [], [], [], [120, 1880, 1881, 1882], [], [], [], [], [], [], [], [], [], [], [], [], [], [], [], [], [], [], [111, 1158, 1159, 1160], [], [], [], [], [], [], []] = true := by decide +kernel
