set_option maxRecDepth 100000 in
theorem law_ok_25 : mokL jtab RL false code KL_law (some .boolean) 1000 KL_law_25 [[], [], [], [], [120, 1940, 1941, 1942], [], [], [], [], [], [], []] = true := by decide +kernel
