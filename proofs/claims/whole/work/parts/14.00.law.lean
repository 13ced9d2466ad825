set_option maxRecDepth 100000 in
theorem law_ok_0 : mokL mtab RL false code KL_law (some .boolean) 0 KL_law_0 [[132, 133, 111], [], [111, 134, 135], [], [1263, 1264, 120], [], [120, 1265, 1266], [], [], [], [], [], [], [], [], [], [], [], [], [], [], [], [], [], [], [], [], [], [], [], [], [], [], [111, 433, 434, 435], [], [], [], [], [], []] = true := by decide +kernel
