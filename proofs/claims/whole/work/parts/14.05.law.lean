set_option maxRecDepth 100000 in
theorem law_ok_5 : mokL mtab RL false code KL_law (some .boolean) 200 KL_law_5 [[], [], [], [], [], [], [], [111, 786, 787, 788], [], [], [], [], [], [], [120, 1542, 1543, 1544], [], [], [], [], [], [], [], [], [], [], [], [], [], [], [], [], [], [], [111, 799, 800, 801], [], [], [], [], [], []] = true := by decide +kernel
