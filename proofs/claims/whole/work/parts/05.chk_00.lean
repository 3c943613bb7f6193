/-! the program's rows, looked up (0) -/
theorem zq_2 : z_chkM 2 zk_2 [[[], [1703], [], [], [651, 652, 78, 650]]] = true := by decide +kernel
theorem zq_3 : z_chkM 3 zk_3 [[[], [661, 662, 78, 660], [], [], [1703], [], [665, 79, 664]], [[], [1703]]] = true := by decide +kernel
theorem zq_4 : z_chkM 4 zk_4 [[[654], [], [], [1704]]] = true := by decide +kernel
theorem zq_5 : z_chkM 5 zk_5 [[[654], [], [], [1704]], []] = true := by decide +kernel
theorem zq_6 : z_chkM 6 zk_6 [[[], [], [670], [673, 80, 672]]] = true := by decide +kernel
theorem zq_7 : z_chkM 7 zk_7 [[[], [], [], [668, 78, 667]]] = true := by decide +kernel
theorem zq_8 : z_chkM 8 zk_8 [[], []] = true := by decide +kernel
theorem zq_9 : z_chkM 9 zk_9 [[], []] = true := by decide +kernel
theorem zq_10 : z_chkM 10 zk_10 [[], []] = true := by decide +kernel
theorem zq_11 : z_chkM 11 zk_11 [[]] = true := by decide +kernel
theorem zq_12 : z_chkM 12 zk_12 [[]] = true := by decide +kernel
theorem zq_13 : z_chkM 13 zk_13 [[]] = true := by decide +kernel
theorem zq_14 : z_chkM 14 zk_14 [[]] = true := by decide +kernel
theorem zq_15 : z_chkM 15 zk_15 [[]] = true := by decide +kernel
theorem zq_16 : z_chkM 16 zk_16 [[[], [210, 91, 92], [], [], [116], [211], [], [], [116]], [[212], [], [], [116], [213], [], [], [116]], [[214], [], [], [116], [215]]] = true := by decide +kernel
theorem zq_17 : z_chkM 17 zk_17 [[[], [216], [], [], [216]], [[], [], [211], [], [216], [], [], [], [212]], [[216], [], [], [], [213], [], [216], [], [722, 72, 721]], [[], [], [214], [], [216], [], [], [], [215]], [[], [216], [], [], [], [], [216], [], [], [216]], []] = true := by decide +kernel
theorem zq_18 : z_chkM 18 zk_18 [[[], [], [], [724], [], [], [724]], []] = true := by decide +kernel
theorem zq_19 : z_chkM 19 zk_19 [[[], [722, 72, 721], [], [], [], [], [], [216]], [[], [], [], [], [211]], [[], [], [], [213]], [[], [214]], []] = true := by decide +kernel
theorem zq_20 : z_chkM 20 zk_20 [[[], [], [], [], [], [], [], [], [216]], [[], [], [], [], [], [213]], [[], [], [], [], [214]], [[], [], [], [], [], [], [], [211]], [[], [], [], [], [], [211]], [[], [], [], [], [211]], []] = true := by decide +kernel
theorem zq_21 : z_chkM 21 zk_21 [[[], [], [722, 72, 721], [], [], [767, 16, 72, 765]], [[], [], [], [], [212]], [[], [], [], [], [215]]] = true := by decide +kernel
theorem zq_22 : z_chkM 22 zk_22 [[[], [], [], [], [763, 15, 72, 761]]] = true := by decide +kernel
theorem zq_23 : z_chkM 23 zk_23 [[[], [], [], [], [763, 15, 72, 761]]] = true := by decide +kernel
theorem zq_24 : z_chkM 24 zk_24 [[[], [], [], [], [763, 15, 72, 761]], []] = true := by decide +kernel
theorem zq_25 : z_chkM 25 zk_25 [[[], [], [], [], [763, 15, 72, 761]], []] = true := by decide +kernel
theorem zq_26 : z_chkM 26 zk_26 [[[], [], [], [], [763, 15, 72, 761]], []] = true := by decide +kernel
theorem zq_27 : z_chkM 27 zk_27 [[[], [], [], [], [763, 15, 72, 761]], []] = true := by decide +kernel
theorem zq_28 : z_chkM 28 zk_28 [[[], [], [], [], [], [], [], [], [], [], [758, 759, 72, 920]], [], []] = true := by decide +kernel
theorem zq_29 : z_chkM 29 zk_29 [[[], [185, 91, 92]]] = true := by decide +kernel
theorem zq_30 : z_chkM 30 zk_30 [[[], [], [186], [], [], [478, 479, 74, 967], [187], [], [], [188]], [[], [], [189], [], [], [190]], [[191], [], [187]]] = true := by decide +kernel
theorem zq_31 : z_chkM 31 zk_31 [[[], [187], [], [], [], [], [], [], [974, 975, 71, 973]], [[], [986, 987, 71, 985], [], [], [], [], [], [], [186]], [[319], [], [], [], [], [], [186], [319]], [[997, 998, 77, 996], [], [], [190], [979, 24, 71, 977]], [[], [], [187], [378], [], [], [], [188]], [[], [187], [397], [], [189], [778, 779, 72, 1001]], [[], [190], [], [], [], [187], [385], [], [187]], [[402], [], [979, 24, 71, 977]]] = true := by decide +kernel
theorem zq_32 : z_chkM 32 zk_32 [[[], [187], [], [], [], [], [], [187]], [[385], [], [187], [402], [], [190], [979, 24, 71, 977]], []] = true := by decide +kernel
theorem zq_33_0 : z_chkM 33 ((zk_33.drop 0).take 8) [[[], [], [], [], [], [], [190]], [[186], [], [189], [], [], [498, 499, 74, 981]], [], [[], [187], [], [], [186], [311], [506, 507, 75, 982]], [[], [], [], [187], [391], [516, 76, 983]], [[], [], [187], [391]], [[], [], [], [], [187]], [[], [519, 520, 75, 984], [], [], [186], [314]]] = true := by decide +kernel
