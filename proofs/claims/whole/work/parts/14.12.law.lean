set_option maxRecDepth 100000 in
theorem law_ok_12 : mokL jtab RL false code KL_law (some .boolean) 480 KL_law_12 [[], [], [], [], [], [], [], [], [], [], [], [], [], [112, 960, 961, 962], [], [], [], [], [], [], [], [], [], [], [], [120, 1740, 1741, 1742], [], [], [], [], [], [], [], [], [], [], [], [], [], []] = true := by decide +kernel
