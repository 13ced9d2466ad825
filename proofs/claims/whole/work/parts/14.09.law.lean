set_option maxRecDepth 100000 in
theorem law_ok_9 : mokL jtab RL false code KL_law (some .boolean) 360 KL_law_9 [[], [], [], [], [], [], [112, 898, 899, 900], [], [], [], [], [], [], [120, 1708, 1709, 1710], [], [], [], [], [], [], [], [], [], [], [], [], [], [], [112, 912, 913, 914], [], [], [], [], [], [], [], [], [], [], []] = true := by decide +kernel
