/-! ===== the law: its table and its blocks ===== -/
def el_0 : List (Option q_I) := [none, none, none, none, none, none, none, none, none, none, none, none, none, none, none, none]
def el_1 : List (Option q_I) := [none, none, some (.iload_n 3, [], []), some (.aload_n 0, [], []), some (.arraylength, [], []), some (.bipush (6), [], [(6, 0)]), none, some (.isub, [], []), some (.if_icmp .gt (1602), [1626], []), none, none, some (.aload_n 0, [], []), some (.iload_n 3, [], []), some (.iaload, [], []), some (.bipush (63), [], [(63, 0)]), none]
def el_2 : List (Option q_I) := [some (.iand, [], []), some (.tableswitch (1587) (0) (42) #[187, 230, 243, 256, 299, 332, 365, 398, 441, 474, 517, 530, 563, 606, 649, 682, 745, 798, 841, 874, 897, 960, 993, 1036, 1069, 1082, 1095, 1108, 1121, 1144, 1157, 1170, 1213, 1286, 1320, 1363, 1426, 1469, 1492, 1525, 1538, 1551, 1564], [1620], [(0, 220), (1, 263), (2, 276), (3, 289), (4, 332), (5, 365), (6, 398), (7, 431), (8, 474), (9, 507), (10, 550), (11, 563), (12, 596), (13, 639), (14, 682), (15, 715), (16, 778), (17, 831), (18, 874), (19, 907), (20, 930), (21, 993), (22, 1026), (23, 1069), (24, 1102), (25, 1115), (26, 1128), (27, 1141), (28, 1154), (29, 1177), (30, 1190), (31, 1203), (32, 1246), (33, 1319), (34, 1353), (35, 1396), (36, 1459), (37, 1502), (38, 1525), (39, 1558), (40, 1571), (41, 1584), (42, 1597)]), none, none, none, none, none, none, none, none, none, none, none, none, none, none]
def el_3 : List (Option q_I) := [none, none, none, none, none, none, none, none, none, none, none, none, none, none, none, none]
def el_4 : List (Option q_I) := [none, none, none, none, none, none, none, none, none, none, none, none, none, none, none, none]
def el_5 : List (Option q_I) := [none, none, none, none, none, none, none, none, none, none, none, none, none, none, none, none]
def el_6 : List (Option q_I) := [none, none, none, none, none, none, none, none, none, none, none, none, none, none, none, none]
def el_7 : List (Option q_I) := [none, none, none, none, none, none, none, none, none, none, none, none, none, none, none, none]
def el_8 : List (Option q_I) := [none, none, none, none, none, none, none, none, none, none, none, none, none, none, none, none]
def el_9 : List (Option q_I) := [none, none, none, none, none, none, none, none, none, none, none, none, none, none, none, none]
def el_10 : List (Option q_I) := [none, none, none, none, none, none, none, none, none, none, none, none, none, none, none, none]
def el_11 : List (Option q_I) := [none, none, none, none, none, none, none, none, none, none, none, none, none, none, none, none]
def el_12 : List (Option q_I) := [none, none, none, none, none, none, none, none, none, none, none, none, none, none, none, none]
def el_13 : List (Option q_I) := [none, none, none, none, none, none, none, none, none, none, none, none, some (.aload_n 1, [], []), some (.aload_n 0, [], []), some (.iload_n 3, [], []), some (.iconst (1), [], [(1, 0)])]
def el_14 : List (Option q_I) := [some (.iadd, [], []), some (.iaload, [], []), some (.aload_n 0, [], []), some (.iload_n 3, [], []), some (.iconst (2), [], [(2, 0)]), some (.iadd, [], []), some (.iaload, [], []), some (.aload_n 0, [], []), some (.iload_n 3, [], []), some (.iconst (3), [], [(3, 0)]), some (.iadd, [], []), some (.iaload, [], []), some (.invokevirtual 13, [61, 3, 1, 11], []), none, none, some (.aload_n 2, [], [])]
def el_15 : List (Option q_I) := [some (.aload_n 0, [], []), some (.iload_n 3, [], []), some (.iconst (1), [], [(1, 0)]), some (.iadd, [], []), some (.iaload, [], []), some (.aload_n 0, [], []), some (.iload_n 3, [], []), some (.iconst (2), [], [(2, 0)]), some (.iadd, [], []), some (.iaload, [], []), some (.aload_n 0, [], []), some (.iload_n 3, [], []), some (.iconst (3), [], [(3, 0)]), some (.iadd, [], []), some (.iaload, [], []), some (.invokevirtual 17, [135, 3, 1, 12], [])]
def el_16 : List (Option q_I) := [none, none, some (.if_icmp .eq (1362), [1620], []), none, none, some (.iconst (0), [], [(0, 0)]), some (.ireturn, [], []), some (.aload_n 1, [], []), some (.invokevirtual 18, [62, 0, 1, 11], []), none, none, some (.aload_n 2, [], []), some (.invokevirtual 22, [136, 0, 1, 12], []), none, none, some (.if_icmp .eq (1349), [1620], [])]
def el_17 : List (Option q_I) := [none, none, some (.iconst (0), [], [(0, 0)]), some (.ireturn, [], []), some (.aload_n 1, [], []), some (.invokevirtual 23, [63, 0, 1, 11], []), none, none, some (.aload_n 2, [], []), some (.invokevirtual 26, [137, 0, 1, 12], []), none, none, some (.if_icmp .eq (1336), [1620], []), none, none, some (.iconst (0), [], [(0, 0)])]
def el_18 : List (Option q_I) := [some (.ireturn, [], []), some (.aload_n 1, [], []), some (.aload_n 0, [], []), some (.iload_n 3, [], []), some (.iconst (1), [], [(1, 0)]), some (.iadd, [], []), some (.iaload, [], []), some (.aload_n 0, [], []), some (.iload_n 3, [], []), some (.iconst (2), [], [(2, 0)]), some (.iadd, [], []), some (.iaload, [], []), some (.aload_n 0, [], []), some (.iload_n 3, [], []), some (.iconst (3), [], [(3, 0)]), some (.iadd, [], [])]
def el_19 : List (Option q_I) := [some (.iaload, [], []), some (.invokevirtual 27, [64, 3, 1, 11], []), none, none, some (.aload_n 2, [], []), some (.aload_n 0, [], []), some (.iload_n 3, [], []), some (.iconst (1), [], [(1, 0)]), some (.iadd, [], []), some (.iaload, [], []), some (.aload_n 0, [], []), some (.iload_n 3, [], []), some (.iconst (2), [], [(2, 0)]), some (.iadd, [], []), some (.iaload, [], []), some (.aload_n 0, [], [])]
def el_20 : List (Option q_I) := [some (.iload_n 3, [], []), some (.iconst (3), [], [(3, 0)]), some (.iadd, [], []), some (.iaload, [], []), some (.invokevirtual 30, [145, 3, 1, 12], []), none, none, some (.if_icmp .eq (1293), [1620], []), none, none, some (.iconst (0), [], [(0, 0)]), some (.ireturn, [], []), some (.aload_n 1, [], []), some (.aload_n 0, [], []), some (.iload_n 3, [], []), some (.iconst (1), [], [(1, 0)])]
def el_21 : List (Option q_I) := [some (.iadd, [], []), some (.iaload, [], []), some (.aload_n 0, [], []), some (.iload_n 3, [], []), some (.iconst (2), [], [(2, 0)]), some (.iadd, [], []), some (.iaload, [], []), some (.invokevirtual 31, [65, 2, 1, 11], []), none, none, some (.aload_n 2, [], []), some (.aload_n 0, [], []), some (.iload_n 3, [], []), some (.iconst (1), [], [(1, 0)]), some (.iadd, [], []), some (.iaload, [], [])]
def el_22 : List (Option q_I) := [some (.aload_n 0, [], []), some (.iload_n 3, [], []), some (.iconst (2), [], [(2, 0)]), some (.iadd, [], []), some (.iaload, [], []), some (.invokevirtual 35, [148, 2, 1, 12], []), none, none, some (.if_icmp .eq (1260), [1620], []), none, none, some (.iconst (0), [], [(0, 0)]), some (.ireturn, [], []), some (.aload_n 1, [], []), some (.aload_n 0, [], []), some (.iload_n 3, [], [])]
def el_23 : List (Option q_I) := [some (.iconst (1), [], [(1, 0)]), some (.iadd, [], []), some (.iaload, [], []), some (.aload_n 0, [], []), some (.iload_n 3, [], []), some (.iconst (2), [], [(2, 0)]), some (.iadd, [], []), some (.iaload, [], []), some (.invokevirtual 36, [66, 2, 1, 11], []), none, none, some (.aload_n 2, [], []), some (.aload_n 0, [], []), some (.iload_n 3, [], []), some (.iconst (1), [], [(1, 0)]), some (.iadd, [], [])]
def el_24 : List (Option q_I) := [some (.iaload, [], []), some (.aload_n 0, [], []), some (.iload_n 3, [], []), some (.iconst (2), [], [(2, 0)]), some (.iadd, [], []), some (.iaload, [], []), some (.invokevirtual 39, [149, 2, 1, 12], []), none, none, some (.if_icmp .eq (1227), [1620], []), none, none, some (.iconst (0), [], [(0, 0)]), some (.ireturn, [], []), some (.aload_n 1, [], []), some (.aload_n 0, [], [])]
def el_25 : List (Option q_I) := [some (.iload_n 3, [], []), some (.iconst (1), [], [(1, 0)]), some (.iadd, [], []), some (.iaload, [], []), some (.aload_n 0, [], []), some (.iload_n 3, [], []), some (.iconst (2), [], [(2, 0)]), some (.iadd, [], []), some (.iaload, [], []), some (.invokevirtual 40, [67, 2, 1, 11], []), none, none, some (.aload_n 2, [], []), some (.aload_n 0, [], []), some (.iload_n 3, [], []), some (.iconst (1), [], [(1, 0)])]
def el_26 : List (Option q_I) := [some (.iadd, [], []), some (.iaload, [], []), some (.aload_n 0, [], []), some (.iload_n 3, [], []), some (.iconst (2), [], [(2, 0)]), some (.iadd, [], []), some (.iaload, [], []), some (.invokevirtual 43, [150, 2, 1, 12], []), none, none, some (.if_icmp .eq (1194), [1620], []), none, none, some (.iconst (0), [], [(0, 0)]), some (.ireturn, [], []), some (.aload_n 1, [], [])]
def el_27 : List (Option q_I) := [some (.aload_n 0, [], []), some (.iload_n 3, [], []), some (.iconst (1), [], [(1, 0)]), some (.iadd, [], []), some (.iaload, [], []), some (.aload_n 0, [], []), some (.iload_n 3, [], []), some (.iconst (2), [], [(2, 0)]), some (.iadd, [], []), some (.iaload, [], []), some (.aload_n 0, [], []), some (.iload_n 3, [], []), some (.iconst (3), [], [(3, 0)]), some (.iadd, [], []), some (.iaload, [], []), some (.invokevirtual 44, [68, 3, 1, 11], [])]
def el_28 : List (Option q_I) := [none, none, some (.aload_n 2, [], []), some (.aload_n 0, [], []), some (.iload_n 3, [], []), some (.iconst (1), [], [(1, 0)]), some (.iadd, [], []), some (.iaload, [], []), some (.aload_n 0, [], []), some (.iload_n 3, [], []), some (.iconst (2), [], [(2, 0)]), some (.iadd, [], []), some (.iaload, [], []), some (.aload_n 0, [], []), some (.iload_n 3, [], []), some (.iconst (3), [], [(3, 0)])]
def el_29 : List (Option q_I) := [some (.iadd, [], []), some (.iaload, [], []), some (.invokevirtual 47, [151, 3, 1, 12], []), none, none, some (.if_icmp .eq (1151), [1620], []), none, none, some (.iconst (0), [], [(0, 0)]), some (.ireturn, [], []), some (.aload_n 1, [], []), some (.aload_n 0, [], []), some (.iload_n 3, [], []), some (.iconst (1), [], [(1, 0)]), some (.iadd, [], []), some (.iaload, [], [])]
def el_30 : List (Option q_I) := [some (.aload_n 0, [], []), some (.iload_n 3, [], []), some (.iconst (2), [], [(2, 0)]), some (.iadd, [], []), some (.iaload, [], []), some (.invokevirtual 48, [69, 2, 1, 11], []), none, none, some (.aload_n 2, [], []), some (.aload_n 0, [], []), some (.iload_n 3, [], []), some (.iconst (1), [], [(1, 0)]), some (.iadd, [], []), some (.iaload, [], []), some (.aload_n 0, [], []), some (.iload_n 3, [], [])]
def el_31 : List (Option q_I) := [some (.iconst (2), [], [(2, 0)]), some (.iadd, [], []), some (.iaload, [], []), some (.invokevirtual 51, [152, 2, 1, 12], []), none, none, some (.if_icmp .eq (1118), [1620], []), none, none, some (.iconst (0), [], [(0, 0)]), some (.ireturn, [], []), some (.aload_n 1, [], []), some (.aload_n 0, [], []), some (.iload_n 3, [], []), some (.iconst (1), [], [(1, 0)]), some (.iadd, [], [])]
def el_32 : List (Option q_I) := [some (.iaload, [], []), some (.aload_n 0, [], []), some (.iload_n 3, [], []), some (.iconst (2), [], [(2, 0)]), some (.iadd, [], []), some (.iaload, [], []), some (.aload_n 0, [], []), some (.iload_n 3, [], []), some (.iconst (3), [], [(3, 0)]), some (.iadd, [], []), some (.iaload, [], []), some (.invokevirtual 52, [70, 3, 1, 11], []), none, none, some (.aload_n 2, [], []), some (.aload_n 0, [], [])]
def el_33 : List (Option q_I) := [some (.iload_n 3, [], []), some (.iconst (1), [], [(1, 0)]), some (.iadd, [], []), some (.iaload, [], []), some (.aload_n 0, [], []), some (.iload_n 3, [], []), some (.iconst (2), [], [(2, 0)]), some (.iadd, [], []), some (.iaload, [], []), some (.aload_n 0, [], []), some (.iload_n 3, [], []), some (.iconst (3), [], [(3, 0)]), some (.iadd, [], []), some (.iaload, [], []), some (.invokevirtual 55, [153, 3, 1, 12], []), none]
def el_34 : List (Option q_I) := [none, some (.if_icmp .eq (1075), [1620], []), none, none, some (.iconst (0), [], [(0, 0)]), some (.ireturn, [], []), some (.aload_n 1, [], []), some (.invokevirtual 56, [71, 0, 1, 11], []), none, none, some (.aload_n 2, [], []), some (.invokevirtual 59, [154, 0, 1, 12], []), none, none, some (.if_icmp .eq (1062), [1620], []), none]
def el_35 : List (Option q_I) := [none, some (.iconst (0), [], [(0, 0)]), some (.ireturn, [], []), some (.aload_n 1, [], []), some (.aload_n 0, [], []), some (.iload_n 3, [], []), some (.iconst (1), [], [(1, 0)]), some (.iadd, [], []), some (.iaload, [], []), some (.aload_n 0, [], []), some (.iload_n 3, [], []), some (.iconst (2), [], [(2, 0)]), some (.iadd, [], []), some (.iaload, [], []), some (.invokevirtual 60, [72, 2, 1, 11], []), none]
def el_36 : List (Option q_I) := [none, some (.aload_n 2, [], []), some (.aload_n 0, [], []), some (.iload_n 3, [], []), some (.iconst (1), [], [(1, 0)]), some (.iadd, [], []), some (.iaload, [], []), some (.aload_n 0, [], []), some (.iload_n 3, [], []), some (.iconst (2), [], [(2, 0)]), some (.iadd, [], []), some (.iaload, [], []), some (.invokevirtual 63, [156, 2, 1, 12], []), none, none, some (.if_icmp .eq (1029), [1620], [])]
def el_37 : List (Option q_I) := [none, none, some (.iconst (0), [], [(0, 0)]), some (.ireturn, [], []), some (.aload_n 1, [], []), some (.aload_n 0, [], []), some (.iload_n 3, [], []), some (.iconst (1), [], [(1, 0)]), some (.iadd, [], []), some (.iaload, [], []), some (.aload_n 0, [], []), some (.iload_n 3, [], []), some (.iconst (2), [], [(2, 0)]), some (.iadd, [], []), some (.iaload, [], []), some (.aload_n 0, [], [])]
def el_38 : List (Option q_I) := [some (.iload_n 3, [], []), some (.iconst (3), [], [(3, 0)]), some (.iadd, [], []), some (.iaload, [], []), some (.invokevirtual 64, [73, 3, 1, 11], []), none, none, some (.aload_n 2, [], []), some (.aload_n 0, [], []), some (.iload_n 3, [], []), some (.iconst (1), [], [(1, 0)]), some (.iadd, [], []), some (.iaload, [], []), some (.aload_n 0, [], []), some (.iload_n 3, [], []), some (.iconst (2), [], [(2, 0)])]
def el_39 : List (Option q_I) := [some (.iadd, [], []), some (.iaload, [], []), some (.aload_n 0, [], []), some (.iload_n 3, [], []), some (.iconst (3), [], [(3, 0)]), some (.iadd, [], []), some (.iaload, [], []), some (.invokevirtual 67, [157, 3, 1, 12], []), none, none, some (.if_icmp .eq (986), [1620], []), none, none, some (.iconst (0), [], [(0, 0)]), some (.ireturn, [], []), some (.aload_n 1, [], [])]
def el_40 : List (Option q_I) := [some (.aload_n 0, [], []), some (.iload_n 3, [], []), some (.iconst (1), [], [(1, 0)]), some (.iadd, [], []), some (.iaload, [], []), some (.aload_n 0, [], []), some (.iload_n 3, [], []), some (.iconst (2), [], [(2, 0)]), some (.iadd, [], []), some (.iaload, [], []), some (.aload_n 0, [], []), some (.iload_n 3, [], []), some (.iconst (3), [], [(3, 0)]), some (.iadd, [], []), some (.iaload, [], []), some (.invokevirtual 68, [74, 3, 1, 11], [])]
def el_41 : List (Option q_I) := [none, none, some (.aload_n 2, [], []), some (.aload_n 0, [], []), some (.iload_n 3, [], []), some (.iconst (1), [], [(1, 0)]), some (.iadd, [], []), some (.iaload, [], []), some (.aload_n 0, [], []), some (.iload_n 3, [], []), some (.iconst (2), [], [(2, 0)]), some (.iadd, [], []), some (.iaload, [], []), some (.aload_n 0, [], []), some (.iload_n 3, [], []), some (.iconst (3), [], [(3, 0)])]
def el_42 : List (Option q_I) := [some (.iadd, [], []), some (.iaload, [], []), some (.invokevirtual 71, [160, 3, 1, 12], []), none, none, some (.if_icmp .eq (943), [1620], []), none, none, some (.iconst (0), [], [(0, 0)]), some (.ireturn, [], []), some (.aload_n 1, [], []), some (.aload_n 0, [], []), some (.iload_n 3, [], []), some (.iconst (1), [], [(1, 0)]), some (.iadd, [], []), some (.iaload, [], [])]
def el_43 : List (Option q_I) := [some (.aload_n 0, [], []), some (.iload_n 3, [], []), some (.iconst (2), [], [(2, 0)]), some (.iadd, [], []), some (.iaload, [], []), some (.invokevirtual 72, [75, 2, 1, 11], []), none, none, some (.aload_n 2, [], []), some (.aload_n 0, [], []), some (.iload_n 3, [], []), some (.iconst (1), [], [(1, 0)]), some (.iadd, [], []), some (.iaload, [], []), some (.aload_n 0, [], []), some (.iload_n 3, [], [])]
def el_44 : List (Option q_I) := [some (.iconst (2), [], [(2, 0)]), some (.iadd, [], []), some (.iaload, [], []), some (.invokevirtual 75, [161, 2, 1, 12], []), none, none, some (.if_icmp .eq (910), [1620], []), none, none, some (.iconst (0), [], [(0, 0)]), some (.ireturn, [], []), some (.aload_n 1, [], []), some (.aload_n 0, [], []), some (.iload_n 3, [], []), some (.iconst (1), [], [(1, 0)]), some (.iadd, [], [])]
def el_45 : List (Option q_I) := [some (.iaload, [], []), some (.aload_n 0, [], []), some (.iload_n 3, [], []), some (.iconst (2), [], [(2, 0)]), some (.iadd, [], []), some (.iaload, [], []), some (.aload_n 0, [], []), some (.iload_n 3, [], []), some (.iconst (3), [], [(3, 0)]), some (.iadd, [], []), some (.iaload, [], []), some (.aload_n 0, [], []), some (.iload_n 3, [], []), some (.iconst (4), [], [(4, 0)]), some (.iadd, [], []), some (.iaload, [], [])]
def el_46 : List (Option q_I) := [some (.aload_n 0, [], []), some (.iload_n 3, [], []), some (.iconst (5), [], [(5, 0)]), some (.iadd, [], []), some (.iaload, [], []), some (.invokevirtual 76, [76, 5, 1, 11], []), none, none, some (.aload_n 2, [], []), some (.aload_n 0, [], []), some (.iload_n 3, [], []), some (.iconst (1), [], [(1, 0)]), some (.iadd, [], []), some (.iaload, [], []), some (.aload_n 0, [], []), some (.iload_n 3, [], [])]
def el_47 : List (Option q_I) := [some (.iconst (2), [], [(2, 0)]), some (.iadd, [], []), some (.iaload, [], []), some (.aload_n 0, [], []), some (.iload_n 3, [], []), some (.iconst (3), [], [(3, 0)]), some (.iadd, [], []), some (.iaload, [], []), some (.aload_n 0, [], []), some (.iload_n 3, [], []), some (.iconst (4), [], [(4, 0)]), some (.iadd, [], []), some (.iaload, [], []), some (.aload_n 0, [], []), some (.iload_n 3, [], []), some (.iconst (5), [], [(5, 0)])]
def el_48 : List (Option q_I) := [some (.iadd, [], []), some (.iaload, [], []), some (.invokevirtual 80, [162, 5, 1, 12], []), none, none, some (.if_icmp .eq (847), [1620], []), none, none, some (.iconst (0), [], [(0, 0)]), some (.ireturn, [], []), some (.aload_n 1, [], []), some (.aload_n 0, [], []), some (.iload_n 3, [], []), some (.iconst (1), [], [(1, 0)]), some (.iadd, [], []), some (.iaload, [], [])]
def el_49 : List (Option q_I) := [some (.aload_n 0, [], []), some (.iload_n 3, [], []), some (.iconst (2), [], [(2, 0)]), some (.iadd, [], []), some (.iaload, [], []), some (.aload_n 0, [], []), some (.iload_n 3, [], []), some (.iconst (3), [], [(3, 0)]), some (.iadd, [], []), some (.iaload, [], []), some (.aload_n 0, [], []), some (.iload_n 3, [], []), some (.iconst (4), [], [(4, 0)]), some (.iadd, [], []), some (.iaload, [], []), some (.invokevirtual 81, [77, 4, 1, 11], [])]
def el_50 : List (Option q_I) := [none, none, some (.aload_n 2, [], []), some (.aload_n 0, [], []), some (.iload_n 3, [], []), some (.iconst (1), [], [(1, 0)]), some (.iadd, [], []), some (.iaload, [], []), some (.aload_n 0, [], []), some (.iload_n 3, [], []), some (.iconst (2), [], [(2, 0)]), some (.iadd, [], []), some (.iaload, [], []), some (.aload_n 0, [], []), some (.iload_n 3, [], []), some (.iconst (3), [], [(3, 0)])]
def el_51 : List (Option q_I) := [some (.iadd, [], []), some (.iaload, [], []), some (.aload_n 0, [], []), some (.iload_n 3, [], []), some (.iconst (4), [], [(4, 0)]), some (.iadd, [], []), some (.iaload, [], []), some (.invokevirtual 85, [163, 4, 1, 12], []), none, none, some (.if_icmp .eq (794), [1620], []), none, none, some (.iconst (0), [], [(0, 0)]), some (.ireturn, [], []), some (.aload_n 1, [], [])]
def el_52 : List (Option q_I) := [some (.aload_n 0, [], []), some (.iload_n 3, [], []), some (.iconst (1), [], [(1, 0)]), some (.iadd, [], []), some (.iaload, [], []), some (.aload_n 0, [], []), some (.iload_n 3, [], []), some (.iconst (2), [], [(2, 0)]), some (.iadd, [], []), some (.iaload, [], []), some (.aload_n 0, [], []), some (.iload_n 3, [], []), some (.iconst (3), [], [(3, 0)]), some (.iadd, [], []), some (.iaload, [], []), some (.invokevirtual 86, [78, 3, 1, 11], [])]
def el_53 : List (Option q_I) := [none, none, some (.aload_n 2, [], []), some (.aload_n 0, [], []), some (.iload_n 3, [], []), some (.iconst (1), [], [(1, 0)]), some (.iadd, [], []), some (.iaload, [], []), some (.aload_n 0, [], []), some (.iload_n 3, [], []), some (.iconst (2), [], [(2, 0)]), some (.iadd, [], []), some (.iaload, [], []), some (.aload_n 0, [], []), some (.iload_n 3, [], []), some (.iconst (3), [], [(3, 0)])]
def el_54 : List (Option q_I) := [some (.iadd, [], []), some (.iaload, [], []), some (.invokevirtual 89, [164, 3, 1, 12], []), none, none, some (.if_icmp .eq (751), [1620], []), none, none, some (.iconst (0), [], [(0, 0)]), some (.ireturn, [], []), some (.aload_n 1, [], []), some (.aload_n 0, [], []), some (.iload_n 3, [], []), some (.iconst (1), [], [(1, 0)]), some (.iadd, [], []), some (.iaload, [], [])]
def el_55 : List (Option q_I) := [some (.aload_n 0, [], []), some (.iload_n 3, [], []), some (.iconst (2), [], [(2, 0)]), some (.iadd, [], []), some (.iaload, [], []), some (.invokevirtual 90, [79, 2, 1, 11], []), none, none, some (.aload_n 2, [], []), some (.aload_n 0, [], []), some (.iload_n 3, [], []), some (.iconst (1), [], [(1, 0)]), some (.iadd, [], []), some (.iaload, [], []), some (.aload_n 0, [], []), some (.iload_n 3, [], [])]
def el_56 : List (Option q_I) := [some (.iconst (2), [], [(2, 0)]), some (.iadd, [], []), some (.iaload, [], []), some (.invokevirtual 93, [166, 2, 1, 12], []), none, none, some (.if_icmp .eq (718), [1620], []), none, none, some (.iconst (0), [], [(0, 0)]), some (.ireturn, [], []), some (.aload_n 1, [], []), some (.aload_n 0, [], []), some (.iload_n 3, [], []), some (.iconst (1), [], [(1, 0)]), some (.iadd, [], [])]
def el_57 : List (Option q_I) := [some (.iaload, [], []), some (.invokevirtual 94, [80, 1, 1, 11], []), none, none, some (.aload_n 2, [], []), some (.aload_n 0, [], []), some (.iload_n 3, [], []), some (.iconst (1), [], [(1, 0)]), some (.iadd, [], []), some (.iaload, [], []), some (.invokevirtual 98, [167, 1, 1, 12], []), none, none, some (.if_icmp .eq (695), [1620], []), none, none]
def el_58 : List (Option q_I) := [some (.iconst (0), [], [(0, 0)]), some (.ireturn, [], []), some (.aload_n 1, [], []), some (.aload_n 0, [], []), some (.iload_n 3, [], []), some (.iconst (1), [], [(1, 0)]), some (.iadd, [], []), some (.iaload, [], []), some (.aload_n 0, [], []), some (.iload_n 3, [], []), some (.iconst (2), [], [(2, 0)]), some (.iadd, [], []), some (.iaload, [], []), some (.aload_n 0, [], []), some (.iload_n 3, [], []), some (.iconst (3), [], [(3, 0)])]
def el_59 : List (Option q_I) := [some (.iadd, [], []), some (.iaload, [], []), some (.aload_n 0, [], []), some (.iload_n 3, [], []), some (.iconst (4), [], [(4, 0)]), some (.iadd, [], []), some (.iaload, [], []), some (.aload_n 0, [], []), some (.iload_n 3, [], []), some (.iconst (5), [], [(5, 0)]), some (.iadd, [], []), some (.iaload, [], []), some (.invokevirtual 99, [81, 5, 1, 11], []), none, none, some (.aload_n 2, [], [])]
def el_60 : List (Option q_I) := [some (.aload_n 0, [], []), some (.iload_n 3, [], []), some (.iconst (1), [], [(1, 0)]), some (.iadd, [], []), some (.iaload, [], []), some (.aload_n 0, [], []), some (.iload_n 3, [], []), some (.iconst (2), [], [(2, 0)]), some (.iadd, [], []), some (.iaload, [], []), some (.aload_n 0, [], []), some (.iload_n 3, [], []), some (.iconst (3), [], [(3, 0)]), some (.iadd, [], []), some (.iaload, [], []), some (.aload_n 0, [], [])]
def el_61 : List (Option q_I) := [some (.iload_n 3, [], []), some (.iconst (4), [], [(4, 0)]), some (.iadd, [], []), some (.iaload, [], []), some (.aload_n 0, [], []), some (.iload_n 3, [], []), some (.iconst (5), [], [(5, 0)]), some (.iadd, [], []), some (.iaload, [], []), some (.invokevirtual 102, [176, 5, 1, 12], []), none, none, some (.if_icmp .eq (632), [1620], []), none, none, some (.iconst (0), [], [(0, 0)])]
def el_62 : List (Option q_I) := [some (.ireturn, [], []), some (.aload_n 1, [], []), some (.aload_n 0, [], []), some (.iload_n 3, [], []), some (.iconst (1), [], [(1, 0)]), some (.iadd, [], []), some (.iaload, [], []), some (.aload_n 0, [], []), some (.iload_n 3, [], []), some (.iconst (2), [], [(2, 0)]), some (.iadd, [], []), some (.iaload, [], []), some (.invokevirtual 103, [82, 2, 1, 11], []), none, none, some (.aload_n 2, [], [])]
def el_63 : List (Option q_I) := [some (.aload_n 0, [], []), some (.iload_n 3, [], []), some (.iconst (1), [], [(1, 0)]), some (.iadd, [], []), some (.iaload, [], []), some (.aload_n 0, [], []), some (.iload_n 3, [], []), some (.iconst (2), [], [(2, 0)]), some (.iadd, [], []), some (.iaload, [], []), some (.invokevirtual 106, [179, 2, 1, 12], []), none, none, some (.if_icmp .eq (599), [1620], []), none, none]
def el_64 : List (Option q_I) := [some (.iconst (0), [], [(0, 0)]), some (.ireturn, [], []), some (.aload_n 1, [], []), some (.aload_n 0, [], []), some (.iload_n 3, [], []), some (.iconst (1), [], [(1, 0)]), some (.iadd, [], []), some (.iaload, [], []), some (.aload_n 0, [], []), some (.iload_n 3, [], []), some (.iconst (2), [], [(2, 0)]), some (.iadd, [], []), some (.iaload, [], []), some (.aload_n 0, [], []), some (.iload_n 3, [], []), some (.iconst (3), [], [(3, 0)])]
def el_65 : List (Option q_I) := [some (.iadd, [], []), some (.iaload, [], []), some (.invokevirtual 107, [83, 3, 1, 11], []), none, none, some (.aload_n 2, [], []), some (.aload_n 0, [], []), some (.iload_n 3, [], []), some (.iconst (1), [], [(1, 0)]), some (.iadd, [], []), some (.iaload, [], []), some (.aload_n 0, [], []), some (.iload_n 3, [], []), some (.iconst (2), [], [(2, 0)]), some (.iadd, [], []), some (.iaload, [], [])]
def el_66 : List (Option q_I) := [some (.aload_n 0, [], []), some (.iload_n 3, [], []), some (.iconst (3), [], [(3, 0)]), some (.iadd, [], []), some (.iaload, [], []), some (.invokevirtual 110, [180, 3, 1, 12], []), none, none, some (.if_icmp .eq (556), [1620], []), none, none, some (.iconst (0), [], [(0, 0)]), some (.ireturn, [], []), some (.aload_n 1, [], []), some (.aload_n 0, [], []), some (.iload_n 3, [], [])]
def el_67 : List (Option q_I) := [some (.iconst (1), [], [(1, 0)]), some (.iadd, [], []), some (.iaload, [], []), some (.aload_n 0, [], []), some (.iload_n 3, [], []), some (.iconst (2), [], [(2, 0)]), some (.iadd, [], []), some (.iaload, [], []), some (.invokevirtual 111, [84, 2, 1, 11], []), none, none, some (.aload_n 2, [], []), some (.aload_n 0, [], []), some (.iload_n 3, [], []), some (.iconst (1), [], [(1, 0)]), some (.iadd, [], [])]
def el_68 : List (Option q_I) := [some (.iaload, [], []), some (.aload_n 0, [], []), some (.iload_n 3, [], []), some (.iconst (2), [], [(2, 0)]), some (.iadd, [], []), some (.iaload, [], []), some (.invokevirtual 114, [181, 2, 1, 12], []), none, none, some (.if_icmp .eq (523), [1620], []), none, none, some (.iconst (0), [], [(0, 0)]), some (.ireturn, [], []), some (.aload_n 1, [], []), some (.invokevirtual 115, [85, 0, 1, 11], [])]
def el_69 : List (Option q_I) := [none, none, some (.aload_n 2, [], []), some (.invokevirtual 118, [182, 0, 1, 12], []), none, none, some (.if_icmp .eq (510), [1620], []), none, none, some (.iconst (0), [], [(0, 0)]), some (.ireturn, [], []), some (.aload_n 1, [], []), some (.invokevirtual 119, [86, 0, 1, 11], []), none, none, some (.aload_n 2, [], [])]
def el_70 : List (Option q_I) := [some (.invokevirtual 122, [183, 0, 1, 12], []), none, none, some (.if_icmp .eq (497), [1620], []), none, none, some (.iconst (0), [], [(0, 0)]), some (.ireturn, [], []), some (.aload_n 1, [], []), some (.invokevirtual 123, [87, 0, 1, 11], []), none, none, some (.aload_n 2, [], []), some (.invokevirtual 126, [146, 0, 1, 12], []), none, none]
def el_71 : List (Option q_I) := [some (.if_icmp .eq (484), [1620], []), none, none, some (.iconst (0), [], [(0, 0)]), some (.ireturn, [], []), some (.aload_n 1, [], []), some (.invokevirtual 127, [88, 0, 1, 11], []), none, none, some (.aload_n 2, [], []), some (.invokevirtual 130, [147, 0, 1, 12], []), none, none, some (.if_icmp .eq (471), [1620], []), none, none]
def el_72 : List (Option q_I) := [some (.iconst (0), [], [(0, 0)]), some (.ireturn, [], []), some (.aload_n 1, [], []), some (.aload_n 0, [], []), some (.iload_n 3, [], []), some (.iconst (1), [], [(1, 0)]), some (.iadd, [], []), some (.iaload, [], []), some (.invokevirtual 131, [89, 1, 1, 11], []), none, none, some (.aload_n 2, [], []), some (.aload_n 0, [], []), some (.iload_n 3, [], []), some (.iconst (1), [], [(1, 0)]), some (.iadd, [], [])]
def el_73 : List (Option q_I) := [some (.iaload, [], []), some (.invokevirtual 134, [184, 1, 1, 12], []), none, none, some (.if_icmp .eq (448), [1620], []), none, none, some (.iconst (0), [], [(0, 0)]), some (.ireturn, [], []), some (.aload_n 1, [], []), some (.invokevirtual 135, [90, 0, 1, 11], []), none, none, some (.aload_n 2, [], []), some (.invokevirtual 138, [185, 0, 1, 12], []), none]
def el_74 : List (Option q_I) := [none, some (.if_icmp .eq (435), [1620], []), none, none, some (.iconst (0), [], [(0, 0)]), some (.ireturn, [], []), some (.aload_n 1, [], []), some (.invokevirtual 139, [91, 0, 1, 11], []), none, none, some (.aload_n 2, [], []), some (.invokevirtual 142, [192, 0, 1, 12], []), none, none, some (.if_icmp .eq (422), [1620], []), none]
def el_75 : List (Option q_I) := [none, some (.iconst (0), [], [(0, 0)]), some (.ireturn, [], []), some (.aload_n 1, [], []), some (.aload_n 0, [], []), some (.iload_n 3, [], []), some (.iconst (1), [], [(1, 0)]), some (.iadd, [], []), some (.iaload, [], []), some (.aload_n 0, [], []), some (.iload_n 3, [], []), some (.iconst (2), [], [(2, 0)]), some (.iadd, [], []), some (.iaload, [], []), some (.aload_n 0, [], []), some (.iload_n 3, [], [])]
def el_76 : List (Option q_I) := [some (.iconst (3), [], [(3, 0)]), some (.iadd, [], []), some (.iaload, [], []), some (.invokevirtual 143, [92, 3, 1, 11], []), none, none, some (.aload_n 2, [], []), some (.aload_n 0, [], []), some (.iload_n 3, [], []), some (.iconst (1), [], [(1, 0)]), some (.iadd, [], []), some (.iaload, [], []), some (.aload_n 0, [], []), some (.iload_n 3, [], []), some (.iconst (2), [], [(2, 0)]), some (.iadd, [], [])]
def el_77 : List (Option q_I) := [some (.iaload, [], []), some (.aload_n 0, [], []), some (.iload_n 3, [], []), some (.iconst (3), [], [(3, 0)]), some (.iadd, [], []), some (.iaload, [], []), some (.invokevirtual 146, [170, 3, 1, 12], []), none, none, some (.if_icmp .eq (379), [1620], []), none, none, some (.iconst (0), [], [(0, 0)]), some (.ireturn, [], []), some (.aload_n 1, [], []), some (.aload_n 0, [], [])]
def el_78 : List (Option q_I) := [some (.iload_n 3, [], []), some (.iconst (1), [], [(1, 0)]), some (.iadd, [], []), some (.iaload, [], []), some (.aload_n 0, [], []), some (.iload_n 3, [], []), some (.iconst (2), [], [(2, 0)]), some (.iadd, [], []), some (.iaload, [], []), some (.aload_n 0, [], []), some (.iload_n 3, [], []), some (.iconst (3), [], [(3, 0)]), some (.iadd, [], []), some (.iaload, [], []), some (.i2l, [], []), some (.bipush (32), [], [(32, 0)])]
def el_79 : List (Option q_I) := [none, some (.lshl, [], []), some (.aload_n 0, [], []), some (.iload_n 3, [], []), some (.iconst (4), [], [(4, 0)]), some (.iadd, [], []), some (.iaload, [], []), some (.i2l, [], []), some (.ldc2_w 147, [4294967295], []), none, none, some (.land, [], []), some (.lor, [], []), some (.invokevirtual 149, [93, 3, 1, 11], []), none, none]
def el_80 : List (Option q_I) := [some (.aload_n 2, [], []), some (.aload_n 0, [], []), some (.iload_n 3, [], []), some (.iconst (1), [], [(1, 0)]), some (.iadd, [], []), some (.iaload, [], []), some (.aload_n 0, [], []), some (.iload_n 3, [], []), some (.iconst (2), [], [(2, 0)]), some (.iadd, [], []), some (.iaload, [], []), some (.aload_n 0, [], []), some (.iload_n 3, [], []), some (.iconst (3), [], [(3, 0)]), some (.iadd, [], []), some (.iaload, [], [])]
def el_81 : List (Option q_I) := [some (.i2l, [], []), some (.bipush (32), [], [(32, 0)]), none, some (.lshl, [], []), some (.aload_n 0, [], []), some (.iload_n 3, [], []), some (.iconst (4), [], [(4, 0)]), some (.iadd, [], []), some (.iaload, [], []), some (.i2l, [], []), some (.ldc2_w 147, [4294967295], []), none, none, some (.land, [], []), some (.lor, [], []), some (.invokevirtual 153, [171, 3, 1, 12], [])]
def el_82 : List (Option q_I) := [none, none, some (.if_icmp .eq (306), [1620], []), none, none, some (.iconst (0), [], [(0, 0)]), some (.ireturn, [], []), some (.aload_n 1, [], []), some (.aload_n 0, [], []), some (.iload_n 3, [], []), some (.iconst (1), [], [(1, 0)]), some (.iadd, [], []), some (.iaload, [], []), some (.aload_n 0, [], []), some (.iload_n 3, [], []), some (.iconst (2), [], [(2, 0)])]
def el_83 : List (Option q_I) := [some (.iadd, [], []), some (.iaload, [], []), some (.invokevirtual 154, [94, 2, 3, 11], []), none, none, some (.aload_n 2, [], []), some (.aload_n 0, [], []), some (.iload_n 3, [], []), some (.iconst (1), [], [(1, 0)]), some (.iadd, [], []), some (.iaload, [], []), some (.aload_n 0, [], []), some (.iload_n 3, [], []), some (.iconst (2), [], [(2, 0)]), some (.iadd, [], []), some (.iaload, [], [])]
def el_84 : List (Option q_I) := [some (.invokevirtual 158, [172, 2, 3, 12], []), none, none, some (.lcmp, [], []), some (.ifCond .eq (272), [1620], []), none, none, some (.iconst (0), [], [(0, 0)]), some (.ireturn, [], []), some (.aload_n 1, [], []), some (.aload_n 0, [], []), some (.iload_n 3, [], []), some (.iconst (1), [], [(1, 0)]), some (.iadd, [], []), some (.iaload, [], []), some (.aload_n 0, [], [])]
def el_85 : List (Option q_I) := [some (.iload_n 3, [], []), some (.iconst (2), [], [(2, 0)]), some (.iadd, [], []), some (.iaload, [], []), some (.aload_n 0, [], []), some (.iload_n 3, [], []), some (.iconst (3), [], [(3, 0)]), some (.iadd, [], []), some (.iaload, [], []), some (.invokevirtual 159, [95, 3, 1, 11], []), none, none, some (.aload_n 2, [], []), some (.aload_n 0, [], []), some (.iload_n 3, [], []), some (.iconst (1), [], [(1, 0)])]
def el_86 : List (Option q_I) := [some (.iadd, [], []), some (.iaload, [], []), some (.aload_n 0, [], []), some (.iload_n 3, [], []), some (.iconst (2), [], [(2, 0)]), some (.iadd, [], []), some (.iaload, [], []), some (.aload_n 0, [], []), some (.iload_n 3, [], []), some (.iconst (3), [], [(3, 0)]), some (.iadd, [], []), some (.iaload, [], []), some (.invokevirtual 162, [173, 3, 1, 12], []), none, none, some (.if_icmp .eq (229), [1620], [])]
def el_87 : List (Option q_I) := [none, none, some (.iconst (0), [], [(0, 0)]), some (.ireturn, [], []), some (.aload_n 1, [], []), some (.aload_n 0, [], []), some (.iload_n 3, [], []), some (.iconst (1), [], [(1, 0)]), some (.iadd, [], []), some (.iaload, [], []), some (.aload_n 0, [], []), some (.iload_n 3, [], []), some (.iconst (2), [], [(2, 0)]), some (.iadd, [], []), some (.iaload, [], []), some (.aload_n 0, [], [])]
def el_88 : List (Option q_I) := [some (.iload_n 3, [], []), some (.iconst (3), [], [(3, 0)]), some (.iadd, [], []), some (.iaload, [], []), some (.aload_n 0, [], []), some (.iload_n 3, [], []), some (.iconst (4), [], [(4, 0)]), some (.iadd, [], []), some (.iaload, [], []), some (.aload_n 0, [], []), some (.iload_n 3, [], []), some (.iconst (5), [], [(5, 0)]), some (.iadd, [], []), some (.iaload, [], []), some (.invokevirtual 163, [96, 5, 1, 11], []), none]
def el_89 : List (Option q_I) := [none, some (.aload_n 2, [], []), some (.aload_n 0, [], []), some (.iload_n 3, [], []), some (.iconst (1), [], [(1, 0)]), some (.iadd, [], []), some (.iaload, [], []), some (.aload_n 0, [], []), some (.iload_n 3, [], []), some (.iconst (2), [], [(2, 0)]), some (.iadd, [], []), some (.iaload, [], []), some (.aload_n 0, [], []), some (.iload_n 3, [], []), some (.iconst (3), [], [(3, 0)]), some (.iadd, [], [])]
def el_90 : List (Option q_I) := [some (.iaload, [], []), some (.aload_n 0, [], []), some (.iload_n 3, [], []), some (.iconst (4), [], [(4, 0)]), some (.iadd, [], []), some (.iaload, [], []), some (.aload_n 0, [], []), some (.iload_n 3, [], []), some (.iconst (5), [], [(5, 0)]), some (.iadd, [], []), some (.iaload, [], []), some (.invokevirtual 166, [174, 5, 1, 12], []), none, none, some (.if_icmp .eq (166), [1620], []), none]
def el_91 : List (Option q_I) := [none, some (.iconst (0), [], [(0, 0)]), some (.ireturn, [], []), some (.aload_n 1, [], []), some (.aload_n 0, [], []), some (.iload_n 3, [], []), some (.iconst (1), [], [(1, 0)]), some (.iadd, [], []), some (.iaload, [], []), some (.aload_n 0, [], []), some (.iload_n 3, [], []), some (.iconst (2), [], [(2, 0)]), some (.iadd, [], []), some (.iaload, [], []), some (.aload_n 0, [], []), some (.iload_n 3, [], [])]
def el_92 : List (Option q_I) := [some (.iconst (3), [], [(3, 0)]), some (.iadd, [], []), some (.iaload, [], []), some (.invokevirtual 167, [97, 3, 1, 11], []), none, none, some (.aload_n 2, [], []), some (.aload_n 0, [], []), some (.iload_n 3, [], []), some (.iconst (1), [], [(1, 0)]), some (.iadd, [], []), some (.iaload, [], []), some (.aload_n 0, [], []), some (.iload_n 3, [], []), some (.iconst (2), [], [(2, 0)]), some (.iadd, [], [])]
def el_93 : List (Option q_I) := [some (.iaload, [], []), some (.aload_n 0, [], []), some (.iload_n 3, [], []), some (.iconst (3), [], [(3, 0)]), some (.iadd, [], []), some (.iaload, [], []), some (.invokevirtual 170, [197, 3, 1, 12], []), none, none, some (.if_icmp .eq (123), [1620], []), none, none, some (.iconst (0), [], [(0, 0)]), some (.ireturn, [], []), some (.aload_n 1, [], []), some (.aload_n 0, [], [])]
def el_94 : List (Option q_I) := [some (.iload_n 3, [], []), some (.iconst (1), [], [(1, 0)]), some (.iadd, [], []), some (.iaload, [], []), some (.invokevirtual 171, [98, 1, 1, 11], []), none, none, some (.aload_n 2, [], []), some (.aload_n 0, [], []), some (.iload_n 3, [], []), some (.iconst (1), [], [(1, 0)]), some (.iadd, [], []), some (.iaload, [], []), some (.invokevirtual 174, [198, 1, 1, 12], []), none, none]
def el_95 : List (Option q_I) := [some (.if_icmp .eq (100), [1620], []), none, none, some (.iconst (0), [], [(0, 0)]), some (.ireturn, [], []), some (.aload_n 1, [], []), some (.aload_n 0, [], []), some (.iload_n 3, [], []), some (.iconst (1), [], [(1, 0)]), some (.iadd, [], []), some (.iaload, [], []), some (.aload_n 0, [], []), some (.iload_n 3, [], []), some (.iconst (2), [], [(2, 0)]), some (.iadd, [], []), some (.iaload, [], [])]
def el_96 : List (Option q_I) := [some (.invokevirtual 175, [99, 2, 1, 11], []), none, none, some (.aload_n 2, [], []), some (.aload_n 0, [], []), some (.iload_n 3, [], []), some (.iconst (1), [], [(1, 0)]), some (.iadd, [], []), some (.iaload, [], []), some (.aload_n 0, [], []), some (.iload_n 3, [], []), some (.iconst (2), [], [(2, 0)]), some (.iadd, [], []), some (.iaload, [], []), some (.invokevirtual 178, [199, 2, 1, 12], []), none]
def el_97 : List (Option q_I) := [none, some (.if_icmp .eq (67), [1620], []), none, none, some (.iconst (0), [], [(0, 0)]), some (.ireturn, [], []), some (.aload_n 1, [], []), some (.invokevirtual 179, [100, 0, 1, 11], []), none, none, some (.aload_n 2, [], []), some (.invokevirtual 182, [203, 0, 1, 12], []), none, none, some (.if_icmp .eq (54), [1620], []), none]
def el_98 : List (Option q_I) := [none, some (.iconst (0), [], [(0, 0)]), some (.ireturn, [], []), some (.aload_n 1, [], []), some (.invokevirtual 183, [101, 0, 1, 11], []), none, none, some (.aload_n 2, [], []), some (.invokevirtual 186, [204, 0, 1, 12], []), none, none, some (.if_icmp .eq (41), [1620], []), none, none, some (.iconst (0), [], [(0, 0)]), some (.ireturn, [], [])]
def el_99 : List (Option q_I) := [some (.aload_n 1, [], []), some (.invokevirtual 187, [102, 0, 1, 11], []), none, none, some (.aload_n 2, [], []), some (.invokevirtual 190, [205, 0, 1, 12], []), none, none, some (.if_icmp .eq (28), [1620], []), none, none, some (.iconst (0), [], [(0, 0)]), some (.ireturn, [], []), some (.aload_n 1, [], []), some (.aload_n 0, [], []), some (.iload_n 3, [], [])]
def el_100 : List (Option q_I) := [some (.iconst (1), [], [(1, 0)]), some (.iadd, [], []), some (.iaload, [], []), some (.invokevirtual 191, [103, 1, 1, 11], []), none, none, some (.aload_n 2, [], []), some (.aload_n 0, [], []), some (.iload_n 3, [], []), some (.iconst (1), [], [(1, 0)]), some (.iadd, [], []), some (.iaload, [], []), some (.invokevirtual 194, [207, 1, 1, 12], []), none, none, some (.if_icmp .eq (5), [1620], [])]
def el_101 : List (Option q_I) := [none, none, some (.iconst (0), [], [(0, 0)]), some (.ireturn, [], []), some (.iinc 3 (6), [], [(6, 0)]), none, none, some (.goto (-1605), [18], []), none, none, some (.iconst (1), [], [(1, 0)]), some (.ireturn, [], [])]
def e_law : q_E := ([el_0, el_1, el_2, el_3, el_4, el_5, el_6, el_7, el_8, el_9, el_10, el_11, el_12, el_13, el_14, el_15, el_16, el_17, el_18, el_19, el_20, el_21, el_22, el_23, el_24, el_25, el_26, el_27, el_28, el_29, el_30, el_31, el_32, el_33, el_34, el_35, el_36, el_37, el_38, el_39, el_40, el_41, el_42, el_43, el_44, el_45, el_46, el_47, el_48, el_49, el_50, el_51, el_52, el_53, el_54, el_55, el_56, el_57, el_58, el_59, el_60, el_61, el_62, el_63, el_64, el_65, el_66, el_67, el_68, el_69, el_70, el_71, el_72, el_73, el_74, el_75, el_76, el_77, el_78, el_79, el_80, el_81, el_82, el_83, el_84, el_85, el_86, el_87, el_88, el_89, el_90, el_91, el_92, el_93, el_94, el_95, el_96, el_97, el_98, el_99, el_100, el_101], 2, 4, [(18, [0, 1, 2, 3]), (220, [0, 1, 2, 3]), (263, [0, 1, 2, 3]), (276, [0, 1, 2, 3]), (289, [0, 1, 2, 3]), (332, [0, 1, 2, 3]), (365, [0, 1, 2, 3]), (398, [0, 1, 2, 3]), (431, [0, 1, 2, 3]), (474, [0, 1, 2, 3]), (507, [0, 1, 2, 3]), (550, [0, 1, 2, 3]), (563, [0, 1, 2, 3]), (596, [0, 1, 2, 3]), (639, [0, 1, 2, 3]), (682, [0, 1, 2, 3]), (715, [0, 1, 2, 3]), (778, [0, 1, 2, 3]), (831, [0, 1, 2, 3]), (874, [0, 1, 2, 3]), (907, [0, 1, 2, 3]), (930, [0, 1, 2, 3]), (993, [0, 1, 2, 3]), (1026, [0, 1, 2, 3]), (1069, [0, 1, 2, 3]), (1102, [0, 1, 2, 3]), (1115, [0, 1, 2, 3]), (1128, [0, 1, 2, 3]), (1141, [0, 1, 2, 3]), (1154, [0, 1, 2, 3]), (1177, [0, 1, 2, 3]), (1190, [0, 1, 2, 3]), (1203, [0, 1, 2, 3]), (1246, [0, 1, 2, 3]), (1319, [0, 1, 2, 3]), (1353, [0, 1, 2, 3]), (1396, [0, 1, 2, 3]), (1459, [0, 1, 2, 3]), (1502, [0, 1, 2, 3]), (1525, [0, 1, 2, 3]), (1558, [0, 1, 2, 3]), (1571, [0, 1, 2, 3]), (1584, [0, 1, 2, 3]), (1597, [0, 1, 2, 3]), (1620, [0, 1, 2, 3])])
set_option maxRecDepth 20000 in
theorem blaw_18 (X : q_X) (O : q_O) (n : Nat) (h : q_S) (x3 : Int32) : q_go e_law X O (n + 1) 18 [(0, .ref 105), (1, .ref 0), (2, .ref 67), (3, .int x3)] [] h =
  q_len X 105 (fun w1 =>
  if (w1 - 6) < x3 then
    some (h, some (.int 1))
  else
    q_ald X h 105 x3 (fun w3 =>
    if (w3 &&& 63) = 0 then
      q_go e_law X O n 220 [(0, .ref 105), (1, .ref 0), (2, .ref 67), (3, .int x3)] [] h
    else if (w3 &&& 63) = 1 then
      q_go e_law X O n 263 [(0, .ref 105), (1, .ref 0), (2, .ref 67), (3, .int x3)] [] h
    else if (w3 &&& 63) = 2 then
      q_go e_law X O n 276 [(0, .ref 105), (1, .ref 0), (2, .ref 67), (3, .int x3)] [] h
    else if (w3 &&& 63) = 3 then
      q_go e_law X O n 289 [(0, .ref 105), (1, .ref 0), (2, .ref 67), (3, .int x3)] [] h
    else if (w3 &&& 63) = 4 then
      q_go e_law X O n 332 [(0, .ref 105), (1, .ref 0), (2, .ref 67), (3, .int x3)] [] h
    else if (w3 &&& 63) = 5 then
      q_go e_law X O n 365 [(0, .ref 105), (1, .ref 0), (2, .ref 67), (3, .int x3)] [] h
    else if (w3 &&& 63) = 6 then
      q_go e_law X O n 398 [(0, .ref 105), (1, .ref 0), (2, .ref 67), (3, .int x3)] [] h
    else if (w3 &&& 63) = 7 then
      q_go e_law X O n 431 [(0, .ref 105), (1, .ref 0), (2, .ref 67), (3, .int x3)] [] h
    else if (w3 &&& 63) = 8 then
      q_go e_law X O n 474 [(0, .ref 105), (1, .ref 0), (2, .ref 67), (3, .int x3)] [] h
    else if (w3 &&& 63) = 9 then
      q_go e_law X O n 507 [(0, .ref 105), (1, .ref 0), (2, .ref 67), (3, .int x3)] [] h
    else if (w3 &&& 63) = 10 then
      q_go e_law X O n 550 [(0, .ref 105), (1, .ref 0), (2, .ref 67), (3, .int x3)] [] h
    else if (w3 &&& 63) = 11 then
      q_go e_law X O n 563 [(0, .ref 105), (1, .ref 0), (2, .ref 67), (3, .int x3)] [] h
    else if (w3 &&& 63) = 12 then
      q_go e_law X O n 596 [(0, .ref 105), (1, .ref 0), (2, .ref 67), (3, .int x3)] [] h
    else if (w3 &&& 63) = 13 then
      q_go e_law X O n 639 [(0, .ref 105), (1, .ref 0), (2, .ref 67), (3, .int x3)] [] h
    else if (w3 &&& 63) = 14 then
      q_go e_law X O n 682 [(0, .ref 105), (1, .ref 0), (2, .ref 67), (3, .int x3)] [] h
    else if (w3 &&& 63) = 15 then
      q_go e_law X O n 715 [(0, .ref 105), (1, .ref 0), (2, .ref 67), (3, .int x3)] [] h
    else if (w3 &&& 63) = 16 then
      q_go e_law X O n 778 [(0, .ref 105), (1, .ref 0), (2, .ref 67), (3, .int x3)] [] h
    else if (w3 &&& 63) = 17 then
      q_go e_law X O n 831 [(0, .ref 105), (1, .ref 0), (2, .ref 67), (3, .int x3)] [] h
    else if (w3 &&& 63) = 18 then
      q_go e_law X O n 874 [(0, .ref 105), (1, .ref 0), (2, .ref 67), (3, .int x3)] [] h
    else if (w3 &&& 63) = 19 then
      q_go e_law X O n 907 [(0, .ref 105), (1, .ref 0), (2, .ref 67), (3, .int x3)] [] h
    else if (w3 &&& 63) = 20 then
      q_go e_law X O n 930 [(0, .ref 105), (1, .ref 0), (2, .ref 67), (3, .int x3)] [] h
    else if (w3 &&& 63) = 21 then
      q_go e_law X O n 993 [(0, .ref 105), (1, .ref 0), (2, .ref 67), (3, .int x3)] [] h
    else if (w3 &&& 63) = 22 then
      q_go e_law X O n 1026 [(0, .ref 105), (1, .ref 0), (2, .ref 67), (3, .int x3)] [] h
    else if (w3 &&& 63) = 23 then
      q_go e_law X O n 1069 [(0, .ref 105), (1, .ref 0), (2, .ref 67), (3, .int x3)] [] h
    else if (w3 &&& 63) = 24 then
      q_go e_law X O n 1102 [(0, .ref 105), (1, .ref 0), (2, .ref 67), (3, .int x3)] [] h
    else if (w3 &&& 63) = 25 then
      q_go e_law X O n 1115 [(0, .ref 105), (1, .ref 0), (2, .ref 67), (3, .int x3)] [] h
    else if (w3 &&& 63) = 26 then
      q_go e_law X O n 1128 [(0, .ref 105), (1, .ref 0), (2, .ref 67), (3, .int x3)] [] h
    else if (w3 &&& 63) = 27 then
      q_go e_law X O n 1141 [(0, .ref 105), (1, .ref 0), (2, .ref 67), (3, .int x3)] [] h
    else if (w3 &&& 63) = 28 then
      q_go e_law X O n 1154 [(0, .ref 105), (1, .ref 0), (2, .ref 67), (3, .int x3)] [] h
    else if (w3 &&& 63) = 29 then
      q_go e_law X O n 1177 [(0, .ref 105), (1, .ref 0), (2, .ref 67), (3, .int x3)] [] h
    else if (w3 &&& 63) = 30 then
      q_go e_law X O n 1190 [(0, .ref 105), (1, .ref 0), (2, .ref 67), (3, .int x3)] [] h
    else if (w3 &&& 63) = 31 then
      q_go e_law X O n 1203 [(0, .ref 105), (1, .ref 0), (2, .ref 67), (3, .int x3)] [] h
    else if (w3 &&& 63) = 32 then
      q_go e_law X O n 1246 [(0, .ref 105), (1, .ref 0), (2, .ref 67), (3, .int x3)] [] h
    else if (w3 &&& 63) = 33 then
      q_go e_law X O n 1319 [(0, .ref 105), (1, .ref 0), (2, .ref 67), (3, .int x3)] [] h
    else if (w3 &&& 63) = 34 then
      q_go e_law X O n 1353 [(0, .ref 105), (1, .ref 0), (2, .ref 67), (3, .int x3)] [] h
    else if (w3 &&& 63) = 35 then
      q_go e_law X O n 1396 [(0, .ref 105), (1, .ref 0), (2, .ref 67), (3, .int x3)] [] h
    else if (w3 &&& 63) = 36 then
      q_go e_law X O n 1459 [(0, .ref 105), (1, .ref 0), (2, .ref 67), (3, .int x3)] [] h
    else if (w3 &&& 63) = 37 then
      q_go e_law X O n 1502 [(0, .ref 105), (1, .ref 0), (2, .ref 67), (3, .int x3)] [] h
    else if (w3 &&& 63) = 38 then
      q_go e_law X O n 1525 [(0, .ref 105), (1, .ref 0), (2, .ref 67), (3, .int x3)] [] h
    else if (w3 &&& 63) = 39 then
      q_go e_law X O n 1558 [(0, .ref 105), (1, .ref 0), (2, .ref 67), (3, .int x3)] [] h
    else if (w3 &&& 63) = 40 then
      q_go e_law X O n 1571 [(0, .ref 105), (1, .ref 0), (2, .ref 67), (3, .int x3)] [] h
    else if (w3 &&& 63) = 41 then
      q_go e_law X O n 1584 [(0, .ref 105), (1, .ref 0), (2, .ref 67), (3, .int x3)] [] h
    else if (w3 &&& 63) = 42 then
      q_go e_law X O n 1597 [(0, .ref 105), (1, .ref 0), (2, .ref 67), (3, .int x3)] [] h
    else 
      q_go e_law X O n 1620 [(0, .ref 105), (1, .ref 0), (2, .ref 67), (3, .int x3)] [] h)) := by rfl
set_option maxRecDepth 20000 in
theorem blaw_220 (X : q_X) (O : q_O) (n : Nat) (h : q_S) (x3 : Int32) : q_go e_law X O (n + 1) 220 [(0, .ref 105), (1, .ref 0), (2, .ref 67), (3, .int x3)] [] h =
  q_ald X h 105 (x3 + 1) (fun w2 =>
  q_ald X h 105 (x3 + 2) (fun w4 =>
  q_ald X h 105 (x3 + 3) (fun w6 =>
  q_c1 (O 61 h [.ref 0, .int w2, .int w4, .int w6]) (fun h7 v8 =>
  q_ald X h7 105 (x3 + 1) (fun w10 =>
  q_ald X h7 105 (x3 + 2) (fun w12 =>
  q_ald X h7 105 (x3 + 3) (fun w14 =>
  q_c1 (O 135 h7 [.ref 67, .int w10, .int w12, .int w14]) (fun h15 v16 =>
  if v8 = v16 then
    q_go e_law X O n 1620 [(0, .ref 105), (1, .ref 0), (2, .ref 67), (3, .int x3)] [] h15
  else
    some (h15, some (.int 0)))))))))) := by rfl
set_option maxRecDepth 20000 in
theorem blaw_263 (X : q_X) (O : q_O) (n : Nat) (h : q_S) (x3 : Int32) : q_go e_law X O (n + 1) 263 [(0, .ref 105), (1, .ref 0), (2, .ref 67), (3, .int x3)] [] h =
  q_c1 (O 62 h [.ref 0]) (fun h1 v2 =>
  q_c1 (O 136 h1 [.ref 67]) (fun h3 v4 =>
  if v2 = v4 then
    q_go e_law X O n 1620 [(0, .ref 105), (1, .ref 0), (2, .ref 67), (3, .int x3)] [] h3
  else
    some (h3, some (.int 0)))) := by rfl
set_option maxRecDepth 20000 in
theorem blaw_276 (X : q_X) (O : q_O) (n : Nat) (h : q_S) (x3 : Int32) : q_go e_law X O (n + 1) 276 [(0, .ref 105), (1, .ref 0), (2, .ref 67), (3, .int x3)] [] h =
  q_c1 (O 63 h [.ref 0]) (fun h1 v2 =>
  q_c1 (O 137 h1 [.ref 67]) (fun h3 v4 =>
  if v2 = v4 then
    q_go e_law X O n 1620 [(0, .ref 105), (1, .ref 0), (2, .ref 67), (3, .int x3)] [] h3
  else
    some (h3, some (.int 0)))) := by rfl
set_option maxRecDepth 20000 in
theorem blaw_289 (X : q_X) (O : q_O) (n : Nat) (h : q_S) (x3 : Int32) : q_go e_law X O (n + 1) 289 [(0, .ref 105), (1, .ref 0), (2, .ref 67), (3, .int x3)] [] h =
  q_ald X h 105 (x3 + 1) (fun w2 =>
  q_ald X h 105 (x3 + 2) (fun w4 =>
  q_ald X h 105 (x3 + 3) (fun w6 =>
  q_c1 (O 64 h [.ref 0, .int w2, .int w4, .int w6]) (fun h7 v8 =>
  q_ald X h7 105 (x3 + 1) (fun w10 =>
  q_ald X h7 105 (x3 + 2) (fun w12 =>
  q_ald X h7 105 (x3 + 3) (fun w14 =>
  q_c1 (O 145 h7 [.ref 67, .int w10, .int w12, .int w14]) (fun h15 v16 =>
  if v8 = v16 then
    q_go e_law X O n 1620 [(0, .ref 105), (1, .ref 0), (2, .ref 67), (3, .int x3)] [] h15
  else
    some (h15, some (.int 0)))))))))) := by rfl
set_option maxRecDepth 20000 in
theorem blaw_332 (X : q_X) (O : q_O) (n : Nat) (h : q_S) (x3 : Int32) : q_go e_law X O (n + 1) 332 [(0, .ref 105), (1, .ref 0), (2, .ref 67), (3, .int x3)] [] h =
  q_ald X h 105 (x3 + 1) (fun w2 =>
  q_ald X h 105 (x3 + 2) (fun w4 =>
  q_c1 (O 65 h [.ref 0, .int w2, .int w4]) (fun h5 v6 =>
  q_ald X h5 105 (x3 + 1) (fun w8 =>
  q_ald X h5 105 (x3 + 2) (fun w10 =>
  q_c1 (O 148 h5 [.ref 67, .int w8, .int w10]) (fun h11 v12 =>
  if v6 = v12 then
    q_go e_law X O n 1620 [(0, .ref 105), (1, .ref 0), (2, .ref 67), (3, .int x3)] [] h11
  else
    some (h11, some (.int 0)))))))) := by rfl
set_option maxRecDepth 20000 in
theorem blaw_365 (X : q_X) (O : q_O) (n : Nat) (h : q_S) (x3 : Int32) : q_go e_law X O (n + 1) 365 [(0, .ref 105), (1, .ref 0), (2, .ref 67), (3, .int x3)] [] h =
  q_ald X h 105 (x3 + 1) (fun w2 =>
  q_ald X h 105 (x3 + 2) (fun w4 =>
  q_c1 (O 66 h [.ref 0, .int w2, .int w4]) (fun h5 v6 =>
  q_ald X h5 105 (x3 + 1) (fun w8 =>
  q_ald X h5 105 (x3 + 2) (fun w10 =>
  q_c1 (O 149 h5 [.ref 67, .int w8, .int w10]) (fun h11 v12 =>
  if v6 = v12 then
    q_go e_law X O n 1620 [(0, .ref 105), (1, .ref 0), (2, .ref 67), (3, .int x3)] [] h11
  else
    some (h11, some (.int 0)))))))) := by rfl
set_option maxRecDepth 20000 in
theorem blaw_398 (X : q_X) (O : q_O) (n : Nat) (h : q_S) (x3 : Int32) : q_go e_law X O (n + 1) 398 [(0, .ref 105), (1, .ref 0), (2, .ref 67), (3, .int x3)] [] h =
  q_ald X h 105 (x3 + 1) (fun w2 =>
  q_ald X h 105 (x3 + 2) (fun w4 =>
  q_c1 (O 67 h [.ref 0, .int w2, .int w4]) (fun h5 v6 =>
  q_ald X h5 105 (x3 + 1) (fun w8 =>
  q_ald X h5 105 (x3 + 2) (fun w10 =>
  q_c1 (O 150 h5 [.ref 67, .int w8, .int w10]) (fun h11 v12 =>
  if v6 = v12 then
    q_go e_law X O n 1620 [(0, .ref 105), (1, .ref 0), (2, .ref 67), (3, .int x3)] [] h11
  else
    some (h11, some (.int 0)))))))) := by rfl
set_option maxRecDepth 20000 in
theorem blaw_431 (X : q_X) (O : q_O) (n : Nat) (h : q_S) (x3 : Int32) : q_go e_law X O (n + 1) 431 [(0, .ref 105), (1, .ref 0), (2, .ref 67), (3, .int x3)] [] h =
  q_ald X h 105 (x3 + 1) (fun w2 =>
  q_ald X h 105 (x3 + 2) (fun w4 =>
  q_ald X h 105 (x3 + 3) (fun w6 =>
  q_c1 (O 68 h [.ref 0, .int w2, .int w4, .int w6]) (fun h7 v8 =>
  q_ald X h7 105 (x3 + 1) (fun w10 =>
  q_ald X h7 105 (x3 + 2) (fun w12 =>
  q_ald X h7 105 (x3 + 3) (fun w14 =>
  q_c1 (O 151 h7 [.ref 67, .int w10, .int w12, .int w14]) (fun h15 v16 =>
  if v8 = v16 then
    q_go e_law X O n 1620 [(0, .ref 105), (1, .ref 0), (2, .ref 67), (3, .int x3)] [] h15
  else
    some (h15, some (.int 0)))))))))) := by rfl
set_option maxRecDepth 20000 in
theorem blaw_474 (X : q_X) (O : q_O) (n : Nat) (h : q_S) (x3 : Int32) : q_go e_law X O (n + 1) 474 [(0, .ref 105), (1, .ref 0), (2, .ref 67), (3, .int x3)] [] h =
  q_ald X h 105 (x3 + 1) (fun w2 =>
  q_ald X h 105 (x3 + 2) (fun w4 =>
  q_c1 (O 69 h [.ref 0, .int w2, .int w4]) (fun h5 v6 =>
  q_ald X h5 105 (x3 + 1) (fun w8 =>
  q_ald X h5 105 (x3 + 2) (fun w10 =>
  q_c1 (O 152 h5 [.ref 67, .int w8, .int w10]) (fun h11 v12 =>
  if v6 = v12 then
    q_go e_law X O n 1620 [(0, .ref 105), (1, .ref 0), (2, .ref 67), (3, .int x3)] [] h11
  else
    some (h11, some (.int 0)))))))) := by rfl
set_option maxRecDepth 20000 in
theorem blaw_507 (X : q_X) (O : q_O) (n : Nat) (h : q_S) (x3 : Int32) : q_go e_law X O (n + 1) 507 [(0, .ref 105), (1, .ref 0), (2, .ref 67), (3, .int x3)] [] h =
  q_ald X h 105 (x3 + 1) (fun w2 =>
  q_ald X h 105 (x3 + 2) (fun w4 =>
  q_ald X h 105 (x3 + 3) (fun w6 =>
  q_c1 (O 70 h [.ref 0, .int w2, .int w4, .int w6]) (fun h7 v8 =>
  q_ald X h7 105 (x3 + 1) (fun w10 =>
  q_ald X h7 105 (x3 + 2) (fun w12 =>
  q_ald X h7 105 (x3 + 3) (fun w14 =>
  q_c1 (O 153 h7 [.ref 67, .int w10, .int w12, .int w14]) (fun h15 v16 =>
  if v8 = v16 then
    q_go e_law X O n 1620 [(0, .ref 105), (1, .ref 0), (2, .ref 67), (3, .int x3)] [] h15
  else
    some (h15, some (.int 0)))))))))) := by rfl
set_option maxRecDepth 20000 in
theorem blaw_550 (X : q_X) (O : q_O) (n : Nat) (h : q_S) (x3 : Int32) : q_go e_law X O (n + 1) 550 [(0, .ref 105), (1, .ref 0), (2, .ref 67), (3, .int x3)] [] h =
  q_c1 (O 71 h [.ref 0]) (fun h1 v2 =>
  q_c1 (O 154 h1 [.ref 67]) (fun h3 v4 =>
  if v2 = v4 then
    q_go e_law X O n 1620 [(0, .ref 105), (1, .ref 0), (2, .ref 67), (3, .int x3)] [] h3
  else
    some (h3, some (.int 0)))) := by rfl
set_option maxRecDepth 20000 in
theorem blaw_563 (X : q_X) (O : q_O) (n : Nat) (h : q_S) (x3 : Int32) : q_go e_law X O (n + 1) 563 [(0, .ref 105), (1, .ref 0), (2, .ref 67), (3, .int x3)] [] h =
  q_ald X h 105 (x3 + 1) (fun w2 =>
  q_ald X h 105 (x3 + 2) (fun w4 =>
  q_c1 (O 72 h [.ref 0, .int w2, .int w4]) (fun h5 v6 =>
  q_ald X h5 105 (x3 + 1) (fun w8 =>
  q_ald X h5 105 (x3 + 2) (fun w10 =>
  q_c1 (O 156 h5 [.ref 67, .int w8, .int w10]) (fun h11 v12 =>
  if v6 = v12 then
    q_go e_law X O n 1620 [(0, .ref 105), (1, .ref 0), (2, .ref 67), (3, .int x3)] [] h11
  else
    some (h11, some (.int 0)))))))) := by rfl
set_option maxRecDepth 20000 in
theorem blaw_596 (X : q_X) (O : q_O) (n : Nat) (h : q_S) (x3 : Int32) : q_go e_law X O (n + 1) 596 [(0, .ref 105), (1, .ref 0), (2, .ref 67), (3, .int x3)] [] h =
  q_ald X h 105 (x3 + 1) (fun w2 =>
  q_ald X h 105 (x3 + 2) (fun w4 =>
  q_ald X h 105 (x3 + 3) (fun w6 =>
  q_c1 (O 73 h [.ref 0, .int w2, .int w4, .int w6]) (fun h7 v8 =>
  q_ald X h7 105 (x3 + 1) (fun w10 =>
  q_ald X h7 105 (x3 + 2) (fun w12 =>
  q_ald X h7 105 (x3 + 3) (fun w14 =>
  q_c1 (O 157 h7 [.ref 67, .int w10, .int w12, .int w14]) (fun h15 v16 =>
  if v8 = v16 then
    q_go e_law X O n 1620 [(0, .ref 105), (1, .ref 0), (2, .ref 67), (3, .int x3)] [] h15
  else
    some (h15, some (.int 0)))))))))) := by rfl
set_option maxRecDepth 20000 in
theorem blaw_639 (X : q_X) (O : q_O) (n : Nat) (h : q_S) (x3 : Int32) : q_go e_law X O (n + 1) 639 [(0, .ref 105), (1, .ref 0), (2, .ref 67), (3, .int x3)] [] h =
  q_ald X h 105 (x3 + 1) (fun w2 =>
  q_ald X h 105 (x3 + 2) (fun w4 =>
  q_ald X h 105 (x3 + 3) (fun w6 =>
  q_c1 (O 74 h [.ref 0, .int w2, .int w4, .int w6]) (fun h7 v8 =>
  q_ald X h7 105 (x3 + 1) (fun w10 =>
  q_ald X h7 105 (x3 + 2) (fun w12 =>
  q_ald X h7 105 (x3 + 3) (fun w14 =>
  q_c1 (O 160 h7 [.ref 67, .int w10, .int w12, .int w14]) (fun h15 v16 =>
  if v8 = v16 then
    q_go e_law X O n 1620 [(0, .ref 105), (1, .ref 0), (2, .ref 67), (3, .int x3)] [] h15
  else
    some (h15, some (.int 0)))))))))) := by rfl
set_option maxRecDepth 20000 in
theorem blaw_682 (X : q_X) (O : q_O) (n : Nat) (h : q_S) (x3 : Int32) : q_go e_law X O (n + 1) 682 [(0, .ref 105), (1, .ref 0), (2, .ref 67), (3, .int x3)] [] h =
  q_ald X h 105 (x3 + 1) (fun w2 =>
  q_ald X h 105 (x3 + 2) (fun w4 =>
  q_c1 (O 75 h [.ref 0, .int w2, .int w4]) (fun h5 v6 =>
  q_ald X h5 105 (x3 + 1) (fun w8 =>
  q_ald X h5 105 (x3 + 2) (fun w10 =>
  q_c1 (O 161 h5 [.ref 67, .int w8, .int w10]) (fun h11 v12 =>
  if v6 = v12 then
    q_go e_law X O n 1620 [(0, .ref 105), (1, .ref 0), (2, .ref 67), (3, .int x3)] [] h11
  else
    some (h11, some (.int 0)))))))) := by rfl
set_option maxRecDepth 20000 in
theorem blaw_715 (X : q_X) (O : q_O) (n : Nat) (h : q_S) (x3 : Int32) : q_go e_law X O (n + 1) 715 [(0, .ref 105), (1, .ref 0), (2, .ref 67), (3, .int x3)] [] h =
  q_ald X h 105 (x3 + 1) (fun w2 =>
  q_ald X h 105 (x3 + 2) (fun w4 =>
  q_ald X h 105 (x3 + 3) (fun w6 =>
  q_ald X h 105 (x3 + 4) (fun w8 =>
  q_ald X h 105 (x3 + 5) (fun w10 =>
  q_c1 (O 76 h [.ref 0, .int w2, .int w4, .int w6, .int w8, .int w10]) (fun h11 v12 =>
  q_ald X h11 105 (x3 + 1) (fun w14 =>
  q_ald X h11 105 (x3 + 2) (fun w16 =>
  q_ald X h11 105 (x3 + 3) (fun w18 =>
  q_ald X h11 105 (x3 + 4) (fun w20 =>
  q_ald X h11 105 (x3 + 5) (fun w22 =>
  q_c1 (O 162 h11 [.ref 67, .int w14, .int w16, .int w18, .int w20, .int w22]) (fun h23 v24 =>
  if v12 = v24 then
    q_go e_law X O n 1620 [(0, .ref 105), (1, .ref 0), (2, .ref 67), (3, .int x3)] [] h23
  else
    some (h23, some (.int 0)))))))))))))) := by rfl
set_option maxRecDepth 20000 in
theorem blaw_778 (X : q_X) (O : q_O) (n : Nat) (h : q_S) (x3 : Int32) : q_go e_law X O (n + 1) 778 [(0, .ref 105), (1, .ref 0), (2, .ref 67), (3, .int x3)] [] h =
  q_ald X h 105 (x3 + 1) (fun w2 =>
  q_ald X h 105 (x3 + 2) (fun w4 =>
  q_ald X h 105 (x3 + 3) (fun w6 =>
  q_ald X h 105 (x3 + 4) (fun w8 =>
  q_c1 (O 77 h [.ref 0, .int w2, .int w4, .int w6, .int w8]) (fun h9 v10 =>
  q_ald X h9 105 (x3 + 1) (fun w12 =>
  q_ald X h9 105 (x3 + 2) (fun w14 =>
  q_ald X h9 105 (x3 + 3) (fun w16 =>
  q_ald X h9 105 (x3 + 4) (fun w18 =>
  q_c1 (O 163 h9 [.ref 67, .int w12, .int w14, .int w16, .int w18]) (fun h19 v20 =>
  if v10 = v20 then
    q_go e_law X O n 1620 [(0, .ref 105), (1, .ref 0), (2, .ref 67), (3, .int x3)] [] h19
  else
    some (h19, some (.int 0)))))))))))) := by rfl
set_option maxRecDepth 20000 in
theorem blaw_831 (X : q_X) (O : q_O) (n : Nat) (h : q_S) (x3 : Int32) : q_go e_law X O (n + 1) 831 [(0, .ref 105), (1, .ref 0), (2, .ref 67), (3, .int x3)] [] h =
  q_ald X h 105 (x3 + 1) (fun w2 =>
  q_ald X h 105 (x3 + 2) (fun w4 =>
  q_ald X h 105 (x3 + 3) (fun w6 =>
  q_c1 (O 78 h [.ref 0, .int w2, .int w4, .int w6]) (fun h7 v8 =>
  q_ald X h7 105 (x3 + 1) (fun w10 =>
  q_ald X h7 105 (x3 + 2) (fun w12 =>
  q_ald X h7 105 (x3 + 3) (fun w14 =>
  q_c1 (O 164 h7 [.ref 67, .int w10, .int w12, .int w14]) (fun h15 v16 =>
  if v8 = v16 then
    q_go e_law X O n 1620 [(0, .ref 105), (1, .ref 0), (2, .ref 67), (3, .int x3)] [] h15
  else
    some (h15, some (.int 0)))))))))) := by rfl
set_option maxRecDepth 20000 in
theorem blaw_874 (X : q_X) (O : q_O) (n : Nat) (h : q_S) (x3 : Int32) : q_go e_law X O (n + 1) 874 [(0, .ref 105), (1, .ref 0), (2, .ref 67), (3, .int x3)] [] h =
  q_ald X h 105 (x3 + 1) (fun w2 =>
  q_ald X h 105 (x3 + 2) (fun w4 =>
  q_c1 (O 79 h [.ref 0, .int w2, .int w4]) (fun h5 v6 =>
  q_ald X h5 105 (x3 + 1) (fun w8 =>
  q_ald X h5 105 (x3 + 2) (fun w10 =>
  q_c1 (O 166 h5 [.ref 67, .int w8, .int w10]) (fun h11 v12 =>
  if v6 = v12 then
    q_go e_law X O n 1620 [(0, .ref 105), (1, .ref 0), (2, .ref 67), (3, .int x3)] [] h11
  else
    some (h11, some (.int 0)))))))) := by rfl
set_option maxRecDepth 20000 in
theorem blaw_907 (X : q_X) (O : q_O) (n : Nat) (h : q_S) (x3 : Int32) : q_go e_law X O (n + 1) 907 [(0, .ref 105), (1, .ref 0), (2, .ref 67), (3, .int x3)] [] h =
  q_ald X h 105 (x3 + 1) (fun w2 =>
  q_c1 (O 80 h [.ref 0, .int w2]) (fun h3 v4 =>
  q_ald X h3 105 (x3 + 1) (fun w6 =>
  q_c1 (O 167 h3 [.ref 67, .int w6]) (fun h7 v8 =>
  if v4 = v8 then
    q_go e_law X O n 1620 [(0, .ref 105), (1, .ref 0), (2, .ref 67), (3, .int x3)] [] h7
  else
    some (h7, some (.int 0)))))) := by rfl
set_option maxRecDepth 20000 in
theorem blaw_930 (X : q_X) (O : q_O) (n : Nat) (h : q_S) (x3 : Int32) : q_go e_law X O (n + 1) 930 [(0, .ref 105), (1, .ref 0), (2, .ref 67), (3, .int x3)] [] h =
  q_ald X h 105 (x3 + 1) (fun w2 =>
  q_ald X h 105 (x3 + 2) (fun w4 =>
  q_ald X h 105 (x3 + 3) (fun w6 =>
  q_ald X h 105 (x3 + 4) (fun w8 =>
  q_ald X h 105 (x3 + 5) (fun w10 =>
  q_c1 (O 81 h [.ref 0, .int w2, .int w4, .int w6, .int w8, .int w10]) (fun h11 v12 =>
  q_ald X h11 105 (x3 + 1) (fun w14 =>
  q_ald X h11 105 (x3 + 2) (fun w16 =>
  q_ald X h11 105 (x3 + 3) (fun w18 =>
  q_ald X h11 105 (x3 + 4) (fun w20 =>
  q_ald X h11 105 (x3 + 5) (fun w22 =>
  q_c1 (O 176 h11 [.ref 67, .int w14, .int w16, .int w18, .int w20, .int w22]) (fun h23 v24 =>
  if v12 = v24 then
    q_go e_law X O n 1620 [(0, .ref 105), (1, .ref 0), (2, .ref 67), (3, .int x3)] [] h23
  else
    some (h23, some (.int 0)))))))))))))) := by rfl
set_option maxRecDepth 20000 in
theorem blaw_993 (X : q_X) (O : q_O) (n : Nat) (h : q_S) (x3 : Int32) : q_go e_law X O (n + 1) 993 [(0, .ref 105), (1, .ref 0), (2, .ref 67), (3, .int x3)] [] h =
  q_ald X h 105 (x3 + 1) (fun w2 =>
  q_ald X h 105 (x3 + 2) (fun w4 =>
  q_c1 (O 82 h [.ref 0, .int w2, .int w4]) (fun h5 v6 =>
  q_ald X h5 105 (x3 + 1) (fun w8 =>
  q_ald X h5 105 (x3 + 2) (fun w10 =>
  q_c1 (O 179 h5 [.ref 67, .int w8, .int w10]) (fun h11 v12 =>
  if v6 = v12 then
    q_go e_law X O n 1620 [(0, .ref 105), (1, .ref 0), (2, .ref 67), (3, .int x3)] [] h11
  else
    some (h11, some (.int 0)))))))) := by rfl
set_option maxRecDepth 20000 in
theorem blaw_1026 (X : q_X) (O : q_O) (n : Nat) (h : q_S) (x3 : Int32) : q_go e_law X O (n + 1) 1026 [(0, .ref 105), (1, .ref 0), (2, .ref 67), (3, .int x3)] [] h =
  q_ald X h 105 (x3 + 1) (fun w2 =>
  q_ald X h 105 (x3 + 2) (fun w4 =>
  q_ald X h 105 (x3 + 3) (fun w6 =>
  q_c1 (O 83 h [.ref 0, .int w2, .int w4, .int w6]) (fun h7 v8 =>
  q_ald X h7 105 (x3 + 1) (fun w10 =>
  q_ald X h7 105 (x3 + 2) (fun w12 =>
  q_ald X h7 105 (x3 + 3) (fun w14 =>
  q_c1 (O 180 h7 [.ref 67, .int w10, .int w12, .int w14]) (fun h15 v16 =>
  if v8 = v16 then
    q_go e_law X O n 1620 [(0, .ref 105), (1, .ref 0), (2, .ref 67), (3, .int x3)] [] h15
  else
    some (h15, some (.int 0)))))))))) := by rfl
set_option maxRecDepth 20000 in
theorem blaw_1069 (X : q_X) (O : q_O) (n : Nat) (h : q_S) (x3 : Int32) : q_go e_law X O (n + 1) 1069 [(0, .ref 105), (1, .ref 0), (2, .ref 67), (3, .int x3)] [] h =
  q_ald X h 105 (x3 + 1) (fun w2 =>
  q_ald X h 105 (x3 + 2) (fun w4 =>
  q_c1 (O 84 h [.ref 0, .int w2, .int w4]) (fun h5 v6 =>
  q_ald X h5 105 (x3 + 1) (fun w8 =>
  q_ald X h5 105 (x3 + 2) (fun w10 =>
  q_c1 (O 181 h5 [.ref 67, .int w8, .int w10]) (fun h11 v12 =>
  if v6 = v12 then
    q_go e_law X O n 1620 [(0, .ref 105), (1, .ref 0), (2, .ref 67), (3, .int x3)] [] h11
  else
    some (h11, some (.int 0)))))))) := by rfl
set_option maxRecDepth 20000 in
theorem blaw_1102 (X : q_X) (O : q_O) (n : Nat) (h : q_S) (x3 : Int32) : q_go e_law X O (n + 1) 1102 [(0, .ref 105), (1, .ref 0), (2, .ref 67), (3, .int x3)] [] h =
  q_c1 (O 85 h [.ref 0]) (fun h1 v2 =>
  q_c1 (O 182 h1 [.ref 67]) (fun h3 v4 =>
  if v2 = v4 then
    q_go e_law X O n 1620 [(0, .ref 105), (1, .ref 0), (2, .ref 67), (3, .int x3)] [] h3
  else
    some (h3, some (.int 0)))) := by rfl
set_option maxRecDepth 20000 in
theorem blaw_1115 (X : q_X) (O : q_O) (n : Nat) (h : q_S) (x3 : Int32) : q_go e_law X O (n + 1) 1115 [(0, .ref 105), (1, .ref 0), (2, .ref 67), (3, .int x3)] [] h =
  q_c1 (O 86 h [.ref 0]) (fun h1 v2 =>
  q_c1 (O 183 h1 [.ref 67]) (fun h3 v4 =>
  if v2 = v4 then
    q_go e_law X O n 1620 [(0, .ref 105), (1, .ref 0), (2, .ref 67), (3, .int x3)] [] h3
  else
    some (h3, some (.int 0)))) := by rfl
set_option maxRecDepth 20000 in
theorem blaw_1128 (X : q_X) (O : q_O) (n : Nat) (h : q_S) (x3 : Int32) : q_go e_law X O (n + 1) 1128 [(0, .ref 105), (1, .ref 0), (2, .ref 67), (3, .int x3)] [] h =
  q_c1 (O 87 h [.ref 0]) (fun h1 v2 =>
  q_c1 (O 146 h1 [.ref 67]) (fun h3 v4 =>
  if v2 = v4 then
    q_go e_law X O n 1620 [(0, .ref 105), (1, .ref 0), (2, .ref 67), (3, .int x3)] [] h3
  else
    some (h3, some (.int 0)))) := by rfl
set_option maxRecDepth 20000 in
theorem blaw_1141 (X : q_X) (O : q_O) (n : Nat) (h : q_S) (x3 : Int32) : q_go e_law X O (n + 1) 1141 [(0, .ref 105), (1, .ref 0), (2, .ref 67), (3, .int x3)] [] h =
  q_c1 (O 88 h [.ref 0]) (fun h1 v2 =>
  q_c1 (O 147 h1 [.ref 67]) (fun h3 v4 =>
  if v2 = v4 then
    q_go e_law X O n 1620 [(0, .ref 105), (1, .ref 0), (2, .ref 67), (3, .int x3)] [] h3
  else
    some (h3, some (.int 0)))) := by rfl
set_option maxRecDepth 20000 in
theorem blaw_1154 (X : q_X) (O : q_O) (n : Nat) (h : q_S) (x3 : Int32) : q_go e_law X O (n + 1) 1154 [(0, .ref 105), (1, .ref 0), (2, .ref 67), (3, .int x3)] [] h =
  q_ald X h 105 (x3 + 1) (fun w2 =>
  q_c1 (O 89 h [.ref 0, .int w2]) (fun h3 v4 =>
  q_ald X h3 105 (x3 + 1) (fun w6 =>
  q_c1 (O 184 h3 [.ref 67, .int w6]) (fun h7 v8 =>
  if v4 = v8 then
    q_go e_law X O n 1620 [(0, .ref 105), (1, .ref 0), (2, .ref 67), (3, .int x3)] [] h7
  else
    some (h7, some (.int 0)))))) := by rfl
set_option maxRecDepth 20000 in
theorem blaw_1177 (X : q_X) (O : q_O) (n : Nat) (h : q_S) (x3 : Int32) : q_go e_law X O (n + 1) 1177 [(0, .ref 105), (1, .ref 0), (2, .ref 67), (3, .int x3)] [] h =
  q_c1 (O 90 h [.ref 0]) (fun h1 v2 =>
  q_c1 (O 185 h1 [.ref 67]) (fun h3 v4 =>
  if v2 = v4 then
    q_go e_law X O n 1620 [(0, .ref 105), (1, .ref 0), (2, .ref 67), (3, .int x3)] [] h3
  else
    some (h3, some (.int 0)))) := by rfl
set_option maxRecDepth 20000 in
theorem blaw_1190 (X : q_X) (O : q_O) (n : Nat) (h : q_S) (x3 : Int32) : q_go e_law X O (n + 1) 1190 [(0, .ref 105), (1, .ref 0), (2, .ref 67), (3, .int x3)] [] h =
  q_c1 (O 91 h [.ref 0]) (fun h1 v2 =>
  q_c1 (O 192 h1 [.ref 67]) (fun h3 v4 =>
  if v2 = v4 then
    q_go e_law X O n 1620 [(0, .ref 105), (1, .ref 0), (2, .ref 67), (3, .int x3)] [] h3
  else
    some (h3, some (.int 0)))) := by rfl
set_option maxRecDepth 20000 in
theorem blaw_1203 (X : q_X) (O : q_O) (n : Nat) (h : q_S) (x3 : Int32) : q_go e_law X O (n + 1) 1203 [(0, .ref 105), (1, .ref 0), (2, .ref 67), (3, .int x3)] [] h =
  q_ald X h 105 (x3 + 1) (fun w2 =>
  q_ald X h 105 (x3 + 2) (fun w4 =>
  q_ald X h 105 (x3 + 3) (fun w6 =>
  q_c1 (O 92 h [.ref 0, .int w2, .int w4, .int w6]) (fun h7 v8 =>
  q_ald X h7 105 (x3 + 1) (fun w10 =>
  q_ald X h7 105 (x3 + 2) (fun w12 =>
  q_ald X h7 105 (x3 + 3) (fun w14 =>
  q_c1 (O 170 h7 [.ref 67, .int w10, .int w12, .int w14]) (fun h15 v16 =>
  if v8 = v16 then
    q_go e_law X O n 1620 [(0, .ref 105), (1, .ref 0), (2, .ref 67), (3, .int x3)] [] h15
  else
    some (h15, some (.int 0)))))))))) := by rfl
set_option maxRecDepth 20000 in
theorem blaw_1246 (X : q_X) (O : q_O) (n : Nat) (h : q_S) (x3 : Int32) : q_go e_law X O (n + 1) 1246 [(0, .ref 105), (1, .ref 0), (2, .ref 67), (3, .int x3)] [] h =
  q_ald X h 105 (x3 + 1) (fun w2 =>
  q_ald X h 105 (x3 + 2) (fun w4 =>
  q_ald X h 105 (x3 + 3) (fun w6 =>
  q_ald X h 105 (x3 + 4) (fun w8 =>
  q_c1 (O 93 h [.ref 0, .int w2, .int w4, .long ((((w6 : Int32)).toInt64 <<< (((32 : Int32)).toInt64 &&& 63)) ||| (((w8 : Int32)).toInt64 &&& (Int64.ofNat 4294967295)))]) (fun h9 v10 =>
  q_ald X h9 105 (x3 + 1) (fun w12 =>
  q_ald X h9 105 (x3 + 2) (fun w14 =>
  q_ald X h9 105 (x3 + 3) (fun w16 =>
  q_ald X h9 105 (x3 + 4) (fun w18 =>
  q_c1 (O 171 h9 [.ref 67, .int w12, .int w14, .long ((((w16 : Int32)).toInt64 <<< (((32 : Int32)).toInt64 &&& 63)) ||| (((w18 : Int32)).toInt64 &&& (Int64.ofNat 4294967295)))]) (fun h19 v20 =>
  if v10 = v20 then
    q_go e_law X O n 1620 [(0, .ref 105), (1, .ref 0), (2, .ref 67), (3, .int x3)] [] h19
  else
    some (h19, some (.int 0)))))))))))) := by rfl
set_option maxRecDepth 20000 in
theorem blaw_1319 (X : q_X) (O : q_O) (n : Nat) (h : q_S) (x3 : Int32) : q_go e_law X O (n + 1) 1319 [(0, .ref 105), (1, .ref 0), (2, .ref 67), (3, .int x3)] [] h =
  q_ald X h 105 (x3 + 1) (fun w2 =>
  q_ald X h 105 (x3 + 2) (fun w4 =>
  q_c3 (O 94 h [.ref 0, .int w2, .int w4]) (fun h5 v6 =>
  q_ald X h5 105 (x3 + 1) (fun w8 =>
  q_ald X h5 105 (x3 + 2) (fun w10 =>
  q_c3 (O 172 h5 [.ref 67, .int w8, .int w10]) (fun h11 v12 =>
  if (lg_cmp v6 v12) = 0 then
    q_go e_law X O n 1620 [(0, .ref 105), (1, .ref 0), (2, .ref 67), (3, .int x3)] [] h11
  else
    some (h11, some (.int 0)))))))) := by rfl
set_option maxRecDepth 20000 in
theorem blaw_1353 (X : q_X) (O : q_O) (n : Nat) (h : q_S) (x3 : Int32) : q_go e_law X O (n + 1) 1353 [(0, .ref 105), (1, .ref 0), (2, .ref 67), (3, .int x3)] [] h =
  q_ald X h 105 (x3 + 1) (fun w2 =>
  q_ald X h 105 (x3 + 2) (fun w4 =>
  q_ald X h 105 (x3 + 3) (fun w6 =>
  q_c1 (O 95 h [.ref 0, .int w2, .int w4, .int w6]) (fun h7 v8 =>
  q_ald X h7 105 (x3 + 1) (fun w10 =>
  q_ald X h7 105 (x3 + 2) (fun w12 =>
  q_ald X h7 105 (x3 + 3) (fun w14 =>
  q_c1 (O 173 h7 [.ref 67, .int w10, .int w12, .int w14]) (fun h15 v16 =>
  if v8 = v16 then
    q_go e_law X O n 1620 [(0, .ref 105), (1, .ref 0), (2, .ref 67), (3, .int x3)] [] h15
  else
    some (h15, some (.int 0)))))))))) := by rfl
set_option maxRecDepth 20000 in
theorem blaw_1396 (X : q_X) (O : q_O) (n : Nat) (h : q_S) (x3 : Int32) : q_go e_law X O (n + 1) 1396 [(0, .ref 105), (1, .ref 0), (2, .ref 67), (3, .int x3)] [] h =
  q_ald X h 105 (x3 + 1) (fun w2 =>
  q_ald X h 105 (x3 + 2) (fun w4 =>
  q_ald X h 105 (x3 + 3) (fun w6 =>
  q_ald X h 105 (x3 + 4) (fun w8 =>
  q_ald X h 105 (x3 + 5) (fun w10 =>
  q_c1 (O 96 h [.ref 0, .int w2, .int w4, .int w6, .int w8, .int w10]) (fun h11 v12 =>
  q_ald X h11 105 (x3 + 1) (fun w14 =>
  q_ald X h11 105 (x3 + 2) (fun w16 =>
  q_ald X h11 105 (x3 + 3) (fun w18 =>
  q_ald X h11 105 (x3 + 4) (fun w20 =>
  q_ald X h11 105 (x3 + 5) (fun w22 =>
  q_c1 (O 174 h11 [.ref 67, .int w14, .int w16, .int w18, .int w20, .int w22]) (fun h23 v24 =>
  if v12 = v24 then
    q_go e_law X O n 1620 [(0, .ref 105), (1, .ref 0), (2, .ref 67), (3, .int x3)] [] h23
  else
    some (h23, some (.int 0)))))))))))))) := by rfl
set_option maxRecDepth 20000 in
theorem blaw_1459 (X : q_X) (O : q_O) (n : Nat) (h : q_S) (x3 : Int32) : q_go e_law X O (n + 1) 1459 [(0, .ref 105), (1, .ref 0), (2, .ref 67), (3, .int x3)] [] h =
  q_ald X h 105 (x3 + 1) (fun w2 =>
  q_ald X h 105 (x3 + 2) (fun w4 =>
  q_ald X h 105 (x3 + 3) (fun w6 =>
  q_c1 (O 97 h [.ref 0, .int w2, .int w4, .int w6]) (fun h7 v8 =>
  q_ald X h7 105 (x3 + 1) (fun w10 =>
  q_ald X h7 105 (x3 + 2) (fun w12 =>
  q_ald X h7 105 (x3 + 3) (fun w14 =>
  q_c1 (O 197 h7 [.ref 67, .int w10, .int w12, .int w14]) (fun h15 v16 =>
  if v8 = v16 then
    q_go e_law X O n 1620 [(0, .ref 105), (1, .ref 0), (2, .ref 67), (3, .int x3)] [] h15
  else
    some (h15, some (.int 0)))))))))) := by rfl
set_option maxRecDepth 20000 in
theorem blaw_1502 (X : q_X) (O : q_O) (n : Nat) (h : q_S) (x3 : Int32) : q_go e_law X O (n + 1) 1502 [(0, .ref 105), (1, .ref 0), (2, .ref 67), (3, .int x3)] [] h =
  q_ald X h 105 (x3 + 1) (fun w2 =>
  q_c1 (O 98 h [.ref 0, .int w2]) (fun h3 v4 =>
  q_ald X h3 105 (x3 + 1) (fun w6 =>
  q_c1 (O 198 h3 [.ref 67, .int w6]) (fun h7 v8 =>
  if v4 = v8 then
    q_go e_law X O n 1620 [(0, .ref 105), (1, .ref 0), (2, .ref 67), (3, .int x3)] [] h7
  else
    some (h7, some (.int 0)))))) := by rfl
set_option maxRecDepth 20000 in
theorem blaw_1525 (X : q_X) (O : q_O) (n : Nat) (h : q_S) (x3 : Int32) : q_go e_law X O (n + 1) 1525 [(0, .ref 105), (1, .ref 0), (2, .ref 67), (3, .int x3)] [] h =
  q_ald X h 105 (x3 + 1) (fun w2 =>
  q_ald X h 105 (x3 + 2) (fun w4 =>
  q_c1 (O 99 h [.ref 0, .int w2, .int w4]) (fun h5 v6 =>
  q_ald X h5 105 (x3 + 1) (fun w8 =>
  q_ald X h5 105 (x3 + 2) (fun w10 =>
  q_c1 (O 199 h5 [.ref 67, .int w8, .int w10]) (fun h11 v12 =>
  if v6 = v12 then
    q_go e_law X O n 1620 [(0, .ref 105), (1, .ref 0), (2, .ref 67), (3, .int x3)] [] h11
  else
    some (h11, some (.int 0)))))))) := by rfl
set_option maxRecDepth 20000 in
theorem blaw_1558 (X : q_X) (O : q_O) (n : Nat) (h : q_S) (x3 : Int32) : q_go e_law X O (n + 1) 1558 [(0, .ref 105), (1, .ref 0), (2, .ref 67), (3, .int x3)] [] h =
  q_c1 (O 100 h [.ref 0]) (fun h1 v2 =>
  q_c1 (O 203 h1 [.ref 67]) (fun h3 v4 =>
  if v2 = v4 then
    q_go e_law X O n 1620 [(0, .ref 105), (1, .ref 0), (2, .ref 67), (3, .int x3)] [] h3
  else
    some (h3, some (.int 0)))) := by rfl
set_option maxRecDepth 20000 in
theorem blaw_1571 (X : q_X) (O : q_O) (n : Nat) (h : q_S) (x3 : Int32) : q_go e_law X O (n + 1) 1571 [(0, .ref 105), (1, .ref 0), (2, .ref 67), (3, .int x3)] [] h =
  q_c1 (O 101 h [.ref 0]) (fun h1 v2 =>
  q_c1 (O 204 h1 [.ref 67]) (fun h3 v4 =>
  if v2 = v4 then
    q_go e_law X O n 1620 [(0, .ref 105), (1, .ref 0), (2, .ref 67), (3, .int x3)] [] h3
  else
    some (h3, some (.int 0)))) := by rfl
set_option maxRecDepth 20000 in
theorem blaw_1584 (X : q_X) (O : q_O) (n : Nat) (h : q_S) (x3 : Int32) : q_go e_law X O (n + 1) 1584 [(0, .ref 105), (1, .ref 0), (2, .ref 67), (3, .int x3)] [] h =
  q_c1 (O 102 h [.ref 0]) (fun h1 v2 =>
  q_c1 (O 205 h1 [.ref 67]) (fun h3 v4 =>
  if v2 = v4 then
    q_go e_law X O n 1620 [(0, .ref 105), (1, .ref 0), (2, .ref 67), (3, .int x3)] [] h3
  else
    some (h3, some (.int 0)))) := by rfl
set_option maxRecDepth 20000 in
theorem blaw_1597 (X : q_X) (O : q_O) (n : Nat) (h : q_S) (x3 : Int32) : q_go e_law X O (n + 1) 1597 [(0, .ref 105), (1, .ref 0), (2, .ref 67), (3, .int x3)] [] h =
  q_ald X h 105 (x3 + 1) (fun w2 =>
  q_c1 (O 103 h [.ref 0, .int w2]) (fun h3 v4 =>
  q_ald X h3 105 (x3 + 1) (fun w6 =>
  q_c1 (O 207 h3 [.ref 67, .int w6]) (fun h7 v8 =>
  if v4 = v8 then
    q_go e_law X O n 1620 [(0, .ref 105), (1, .ref 0), (2, .ref 67), (3, .int x3)] [] h7
  else
    some (h7, some (.int 0)))))) := by rfl
set_option maxRecDepth 20000 in
theorem blaw_1620 (X : q_X) (O : q_O) (n : Nat) (h : q_S) (x3 : Int32) : q_go e_law X O (n + 1) 1620 [(0, .ref 105), (1, .ref 0), (2, .ref 67), (3, .int x3)] [] h =
  q_go e_law X O n 18 [(0, .ref 105), (1, .ref 0), (2, .ref 67), (3, .int (x3 + 6))] [] h := by rfl
