set_option maxRecDepth 100000 in
theorem law_ok_7 : mokL mtab RL false code KL_law (some .boolean) 280 KL_law_7 [[], [], [111, 863, 864, 865], [], [], [], [], [], [], [], [], [], [], [], [], [], [], [], [], [], [], [], [], [], [], [], [], [], [], [], [], [], [120, 1651, 1652, 1653], [], [], [], [], [], [], []] = true := by decide +kernel
