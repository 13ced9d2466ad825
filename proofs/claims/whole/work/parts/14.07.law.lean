set_option maxRecDepth 100000 in
theorem law_ok_7 : mokL jtab RL false code KL_law (some .boolean) 280 KL_law_7 [[], [], [112, 845, 846, 847], [], [], [], [], [], [], [], [], [], [], [], [], [], [], [], [], [], [], [], [], [], [], [], [], [], [], [], [], [], [120, 1657, 1658, 1659], [], [], [], [], [], [], []] = true := by decide +kernel
