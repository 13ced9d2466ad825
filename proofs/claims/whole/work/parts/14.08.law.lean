set_option maxRecDepth 100000 in
theorem law_ok_8 : mokL jtab RL false code KL_law (some .boolean) 320 KL_law_8 [[], [], [], [], [], [], [], [112, 857, 858, 859], [], [], [], [], [], [], [], [], [], [], [], [120, 1665, 1666, 1667], [], [], [], [], [], [], [], [], [], [112, 869, 870, 871], [], [], [], [], [], [], [120, 1673, 1674, 1675], [], [], []] = true := by decide +kernel
