set_option maxRecDepth 100000 in
theorem law_ok_5 : mokL jtab RL false code KL_law (some .boolean) 200 KL_law_5 [[], [], [], [], [], [], [], [112, 768, 769, 770], [], [], [], [], [], [], [120, 1548, 1549, 1550], [], [], [], [], [], [], [], [], [], [], [], [], [], [], [], [], [], [], [112, 781, 782, 783], [], [], [], [], [], []] = true := by decide +kernel
