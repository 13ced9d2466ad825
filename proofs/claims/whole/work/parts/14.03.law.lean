set_option maxRecDepth 100000 in
theorem law_ok_3 : mokL jtab RL false code KL_law (some .boolean) 120 KL_law_3 [[], [], [], [], [], [], [], [], [], [112, 447, 448, 449], [], [], [], [], [], [], [], [], [], [], [], [], [], [], [], [], [], [], [], [], [], [], [], [], [], [], [120, 1400, 1401, 1402], [], [], []] = true := by decide +kernel
