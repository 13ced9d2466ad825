set_option maxRecDepth 100000 in
theorem law_ok_2 : mokL jtab RL false code KL_law (some .boolean) 80 KL_law_2 [[], [], [], [], [], [], [], [112, 439, 440, 441], [], [], [], [], [], [], [], [], [], [], [], [120, 1396, 1397, 1398], [], [], [], [], [], [], [], [], [], [], [], [], [], [], [], [], [], [], [], []] = true := by decide +kernel
