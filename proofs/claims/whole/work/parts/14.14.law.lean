set_option maxRecDepth 100000 in
theorem law_ok_14 : mokL mtab RL false code KL_law (some .boolean) 560 KL_law_14 [[], [], [], [], [], [], [], [], [], [], [], [], [], [], [], [], [], [], [111, 999, 1000, 1001], [], [], [], [], [], [], [], [], [], [], [], [], [], [], [], [120, 1777, 1778, 1779], [], [], [], [], []] = true := by decide +kernel
