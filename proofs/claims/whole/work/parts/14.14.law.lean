set_option maxRecDepth 100000 in
theorem law_ok_14 : mokL jtab RL false code KL_law (some .boolean) 560 KL_law_14 [[], [], [], [], [], [], [], [], [], [], [], [], [], [], [], [], [], [], [112, 981, 982, 983], [], [], [], [], [], [], [], [], [], [], [], [], [], [], [], [120, 1783, 1784, 1785], [], [], [], [], []] = true := by decide +kernel
