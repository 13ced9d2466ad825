set_option maxRecDepth 100000 in
theorem law_ok_1 : mokL jtab RL false code KL_law (some .boolean) 40 KL_law_1 [[], [], [], [], [], [120, 1378, 1379, 1380], [], [], [], [], [], [], [], [], [], [], [], [], [], [], [112, 426, 427, 428], [], [], [], [], [], [], [], [], [], [], [], [120, 1388, 1389, 1390], [], [], [], [], [], [], []] = true := by decide +kernel
