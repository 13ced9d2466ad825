set_option maxRecDepth 100000 in
theorem law_ok_1 : mokL mtab RL false code KL_law (some .boolean) 40 KL_law_1 [[], [], [], [], [], [120, 1372, 1373, 1374], [], [], [], [], [], [], [], [], [], [], [], [], [], [], [111, 444, 445, 446], [], [], [], [], [], [], [], [], [], [], [], [120, 1382, 1383, 1384], [], [], [], [], [], [], []] = true := by decide +kernel
