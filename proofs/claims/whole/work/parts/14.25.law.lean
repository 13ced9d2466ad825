set_option maxRecDepth 100000 in
theorem law_ok_25 : mokL mtab RL false code KL_law (some .boolean) 1000 KL_law_25 [[], [], [], [], [120, 1934, 1935, 1936], [], [], [], [], [], [], []] = true := by decide +kernel
