set_option maxRecDepth 100000 in
theorem law_ok_0 : mokL jtab RL false code KL_law (some .boolean) 0 KL_law_0 [[133, 134, 112], [], [112, 135, 136], [], [1269, 1270, 120], [], [120, 1271, 1272], [], [], [], [], [], [], [], [], [], [], [], [], [], [], [], [], [], [], [], [], [], [], [], [], [], [], [112, 415, 416, 417], [], [], [], [], [], []] = true := by decide +kernel
