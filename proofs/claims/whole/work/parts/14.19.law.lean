set_option maxRecDepth 100000 in
theorem law_ok_19 : mokL jtab RL false code KL_law (some .boolean) 760 KL_law_19 [[], [], [], [], [], [], [], [], [], [], [], [], [], [120, 1886, 1887, 1888], [], [], [], [], [], [], [], [], [], [], [], [], [], [], [], [], [], [], [112, 1164, 1165, 1166], [], [], [], [], [], [], []] = true := by decide +kernel
