set_option maxRecDepth 100000 in
theorem law_ok_15 : mokL jtab RL false code KL_law (some .boolean) 600 KL_law_15 [[], [], [], [], [], [], [], [], [112, 1059, 1060, 1061], [], [], [], [], [], [], [], [], [], [], [120, 1830, 1831, 1832], [], [], [], [], [], [], [], [], [], [], [], [], [], [112, 1063, 1064, 1065], [], [], [], [], [], []] = true := by decide +kernel
