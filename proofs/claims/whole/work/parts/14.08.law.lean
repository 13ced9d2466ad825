set_option maxRecDepth 100000 in
theorem law_ok_8 : mokL mtab RL false code KL_law (some .boolean) 320 KL_law_8 [[], [], [], [], [], [], [], [111, 875, 876, 877], [], [], [], [], [], [], [], [], [], [], [], [120, 1659, 1660, 1661], [], [], [], [], [], [], [], [], [], [111, 887, 888, 889], [], [], [], [], [], [], [120, 1667, 1668, 1669], [], [], []] = true := by decide +kernel
