set_option maxRecDepth 100000 in
theorem law_ok_15 : mokL mtab RL false code KL_law (some .boolean) 600 KL_law_15 [[], [], [], [], [], [], [], [], [111, 1053, 1054, 1055], [], [], [], [], [], [], [], [], [], [], [120, 1824, 1825, 1826], [], [], [], [], [], [], [], [], [], [], [], [], [], [111, 1057, 1058, 1059], [], [], [], [], [], []] = true := by decide +kernel
