set_option maxRecDepth 100000 in
theorem law_ok_12 : mokL mtab RL false code KL_law (some .boolean) 480 KL_law_12 [[], [], [], [], [], [], [], [], [], [], [], [], [], [111, 978, 979, 980], [], [], [], [], [], [], [], [], [], [], [], [120, 1734, 1735, 1736], [], [], [], [], [], [], [], [], [], [], [], [], [], []] = true := by decide +kernel
