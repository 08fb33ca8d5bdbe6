/-! ===== the links of the pools, each by its word ===== -/
def q_csL : List String := ["WhirlShafts$Changes", "WhirlShafts$Crown", "WhirlShafts$Disc", "WhirlShafts$Hub", "WhirlShafts$Line", "WhirlShafts$Orders", "WhirlShafts$Rates", "WhirlShafts$Rim", "WhirlShafts$Row", "WhirlShafts$Shell", "WhirlShafts$Tape", "WhirlShafts", "WhirlShaftsModel", "java/lang/Math", "WhirlShaftsLaw"]
def q_cs (o : Nat) : String := (q_csL[o]?).getD ""
def q_LF : List (List (Nat × Nat × Nat × Nat)) := [[(9, 0, 0, 1), (15, 0, 1, 1), (18, 0, 2, 1), (21, 0, 3, 1), (24, 0, 4, 0), (28, 0, 5, 0)], [], [(9, 2, 0, 1), (15, 2, 1, 0), (19, 2, 2, 0), (22, 2, 3, 0)], [], [(9, 4, 1, 1), (15, 4, 2, 1), (18, 4, 3, 1), (21, 4, 4, 1), (24, 4, 5, 1), (27, 4, 0, 1), (31, 4, 6, 0), (35, 4, 7, 0), (38, 4, 8, 0)], [(9, 5, 0, 1), (15, 5, 1, 1), (18, 5, 2, 1), (21, 5, 3, 0)], [(11, 6, 1, 1), (15, 6, 2, 1), (18, 6, 3, 1), (23, 6, 4, 1), (26, 4, 6, 0), (32, 6, 0, 0)], [], [(9, 8, 0, 1), (15, 8, 1, 0), (19, 8, 2, 0)], [], [(9, 10, 0, 1), (15, 10, 3, 1), (18, 10, 1, 0), (30, 10, 2, 0)], [(17, 11, 0, 1), (39, 11, 2, 1), (43, 11, 3, 1), (46, 11, 4, 1), (52, 11, 6, 1), (56, 11, 7, 1), (62, 11, 8, 1), (69, 11, 9, 1), (76, 11, 10, 1), (82, 11, 11, 1), (95, 4, 6, 0), (106, 4, 7, 0), (109, 4, 8, 0), (140, 4, 1, 1), (208, 4, 4, 1), (211, 4, 2, 1), (225, 8, 2, 0), (236, 8, 0, 1), (244, 5, 3, 0), (249, 5, 0, 1), (252, 5, 1, 1), (255, 5, 2, 1), (261, 0, 4, 0), (268, 0, 5, 0), (274, 10, 1, 0), (297, 8, 1, 0), (309, 11, 1, 2), (325, 2, 1, 0), (328, 2, 0, 1), (337, 11, 5, 0), (361, 10, 2, 0), (370, 10, 3, 1)], [(9, 12, 3, 1), (15, 12, 4, 1), (18, 12, 5, 1), (21, 12, 6, 1), (24, 12, 7, 1), (27, 12, 8, 1), (30, 12, 9, 1), (33, 12, 10, 1), (36, 12, 11, 1), (39, 12, 12, 1), (42, 12, 13, 1), (46, 12, 14, 1), (49, 12, 15, 1), (52, 12, 16, 1), (55, 12, 17, 1), (58, 12, 18, 1), (61, 12, 19, 1), (64, 12, 22, 1), (67, 12, 23, 1), (70, 12, 24, 1), (73, 12, 25, 1), (76, 12, 27, 1), (79, 12, 28, 1), (82, 12, 29, 1), (85, 12, 30, 1), (88, 12, 31, 1), (91, 12, 32, 1), (94, 12, 33, 1), (97, 12, 34, 1), (100, 12, 38, 1), (103, 12, 40, 1), (106, 12, 41, 1), (109, 12, 42, 1), (112, 12, 43, 1), (115, 12, 45, 0), (119, 12, 0, 0), (130, 12, 1, 0), (137, 12, 2, 0), (166, 12, 20, 0), (169, 12, 21, 0), (247, 12, 26, 0), (257, 12, 35, 0), (260, 12, 36, 0), (269, 12, 37, 0), (291, 12, 39, 0), (306, 12, 46, 0), (310, 12, 44, 0)], [], []]
def q_LP : List (List (Nat × Nat × Nat × Nat)) := [[(24, 0, 4, 0), (28, 0, 5, 0)], [], [(15, 2, 1, 0), (19, 2, 2, 0), (22, 2, 3, 0)], [], [(31, 4, 6, 0), (35, 4, 7, 0), (38, 4, 8, 0)], [(21, 5, 3, 0)], [(32, 6, 0, 0)], [], [(15, 8, 1, 0), (19, 8, 2, 0)], [], [(18, 10, 1, 0), (30, 10, 2, 0)], [(95, 4, 6, 0), (106, 4, 7, 0), (109, 4, 8, 0), (244, 5, 3, 0), (274, 10, 1, 0), (309, 11, 1, 2), (337, 11, 5, 4), (361, 10, 2, 0)], [(115, 12, 45, 0), (119, 12, 0, 0), (130, 12, 1, 0), (137, 12, 2, 0), (166, 12, 20, 0), (169, 12, 21, 0), (247, 12, 26, 0), (257, 12, 35, 0), (260, 12, 36, 0), (269, 12, 37, 0), (291, 12, 39, 0), (306, 12, 46, 4), (310, 12, 44, 0)], [], []]
def q_LS : List (List (Nat × Nat × Nat)) := [[], [], [], [], [(58, 105, 2)], [], [(57, 209, 2), (65, 210, 2)], [], [], [(11, 208, 2)], [(22, 56, 1), (26, 57, 1)], [(87, 104, 1), (91, 105, 2), (158, 107, 2), (182, 106, 1), (189, 108, 3), (218, 109, 1), (331, 110, 2)], [(122, 120, 3), (126, 123, 1), (147, 129, 1), (185, 141, 1), (188, 142, 1), (209, 124, 2), (218, 158, 3), (228, 168, 1), (231, 169, 2), (266, 187, 1)], [], []]
def q_LV : List (List (Nat × Nat × Nat × Nat)) := [[(31, 0, 2, 0), (40, 4, 24, 3)], [(11, 1, 9, 1)], [(25, 1, 9, 1), (25, 2, 9, 1), (25, 3, 9, 1), (25, 7, 9, 1), (25, 9, 9, 1), (29, 1, 7, 1), (29, 2, 11, 1), (29, 3, 15, 1), (29, 7, 11, 1), (29, 9, 15, 1), (33, 1, 47, 1), (33, 2, 12, 1), (33, 3, 12, 1), (33, 7, 47, 1), (33, 9, 54, 1)], [(7, 3, 9, 1), (7, 9, 9, 1)], [(47, 4, 19, 1), (51, 4, 20, 1), (54, 4, 21, 2), (61, 4, 26, 1), (65, 4, 25, 1), (68, 1, 5, 2), (68, 2, 10, 2), (68, 3, 14, 2), (68, 7, 46, 2), (68, 9, 53, 2), (74, 4, 28, 1), (77, 4, 27, 1), (80, 4, 30, 1), (83, 4, 31, 1), (86, 4, 29, 1)], [], [(33, 4, 29, 1), (37, 4, 32, 1), (39, 4, 31, 1), (42, 6, 38, 4), (46, 6, 39, 3), (50, 6, 40, 1), (68, 6, 42, 0), (72, 6, 37, 2)], [(7, 1, 9, 1), (7, 7, 9, 1)], [], [(16, 9, 9, 1), (26, 9, 15, 1)], [(33, 10, 60, 0)], [(99, 0, 0, 0), (102, 4, 17, 3), (112, 4, 22, 3), (115, 4, 23, 2), (119, 4, 24, 3), (123, 0, 1, 4), (127, 4, 21, 2), (130, 4, 20, 1), (133, 4, 31, 1), (137, 4, 19, 1), (143, 4, 28, 1), (146, 4, 29, 1), (149, 4, 30, 1), (152, 4, 27, 1), (155, 4, 32, 1), (161, 6, 36, 1), (165, 6, 37, 2), (168, 6, 40, 1), (171, 6, 38, 4), (175, 6, 41, 1), (178, 6, 42, 0), (185, 11, 112, 3), (193, 6, 45, 3), (196, 6, 43, 2), (199, 4, 16, 1), (202, 11, 114, 4), (205, 11, 113, 4), (214, 4, 18, 1), (221, 8, 48, 0), (228, 11, 117, 4), (232, 11, 116, 5), (240, 6, 44, 3), (247, 5, 34, 3), (258, 11, 64, 3), (264, 0, 3, 1), (271, 0, 4, 1), (277, 10, 55, 1), (279, 10, 58, 0), (282, 11, 118, 0), (285, 8, 49, 2), (289, 8, 50, 1), (291, 8, 52, 2), (300, 8, 51, 2), (313, 1, 8, 2), (313, 2, 8, 2), (313, 3, 8, 2), (313, 7, 8, 2), (313, 9, 8, 2), (316, 1, 7, 1), (316, 2, 11, 1), (316, 3, 15, 1), (316, 7, 11, 1), (316, 9, 15, 1), (319, 1, 47, 1), (319, 2, 12, 1), (319, 3, 12, 1), (319, 7, 47, 1), (319, 9, 54, 1), (322, 1, 6, 1), (322, 2, 13, 1), (322, 3, 13, 1), (322, 7, 13, 1), (322, 9, 13, 1), (334, 5, 35, 1), (341, 4, 33, 1), (345, 4, 25, 1), (348, 11, 111, 0), (357, 11, 115, 3), (364, 10, 59, 0), (367, 11, 119, 1), (373, 11, 61, 3), (376, 11, 62, 0)], [(133, 12, 125, 1), (144, 12, 128, 1), (151, 12, 130, 4), (155, 12, 126, 0), (158, 12, 132, 0), (162, 12, 131, 2), (172, 12, 134, 0), (175, 12, 121, 1), (178, 12, 122, 1), (181, 12, 140, 2), (191, 12, 127, 0), (194, 12, 143, 3), (198, 12, 138, 2), (201, 12, 144, 4), (205, 12, 139, 3), (212, 12, 155, 2), (215, 12, 133, 2), (221, 12, 159, 3), (224, 12, 165, 1), (237, 12, 177, 4), (240, 12, 178, 5), (244, 12, 175, 3), (250, 12, 202, 2), (254, 12, 145, 3), (263, 12, 186, 0), (272, 12, 188, 0), (275, 12, 189, 0), (279, 12, 135, 3), (282, 12, 136, 0), (285, 12, 190, 0), (288, 12, 191, 1), (294, 12, 193, 1), (297, 12, 194, 2), (300, 12, 195, 2), (303, 12, 196, 2), (313, 12, 200, 1), (316, 12, 201, 1), (320, 12, 206, 0)], [], [(13, 11, 61, 3), (17, 12, 135, 3), (18, 11, 62, 0), (22, 12, 136, 0), (23, 11, 63, 0), (26, 12, 137, 0), (27, 11, 64, 3), (30, 12, 145, 3), (31, 11, 65, 2), (35, 12, 148, 2), (36, 11, 66, 2), (39, 12, 149, 2), (40, 11, 67, 2), (43, 12, 150, 2), (44, 11, 68, 3), (47, 12, 151, 3), (48, 11, 69, 2), (51, 12, 152, 2), (52, 11, 70, 3), (55, 12, 153, 3), (56, 11, 71, 0), (59, 12, 154, 0), (60, 11, 72, 2), (63, 12, 156, 2), (64, 11, 73, 3), (67, 12, 157, 3), (68, 11, 74, 3), (71, 12, 160, 3), (72, 11, 75, 2), (75, 12, 161, 2), (76, 11, 76, 5), (80, 12, 162, 5), (81, 11, 77, 4), (85, 12, 163, 4), (86, 11, 78, 3), (89, 12, 164, 3), (90, 11, 79, 2), (93, 12, 166, 2), (94, 11, 80, 1), (98, 12, 167, 1), (99, 11, 81, 5), (102, 12, 176, 5), (103, 11, 82, 2), (106, 12, 179, 2), (107, 11, 83, 3), (110, 12, 180, 3), (111, 11, 84, 2), (114, 12, 181, 2), (115, 11, 85, 0), (118, 12, 182, 0), (119, 11, 86, 0), (122, 12, 183, 0), (123, 11, 87, 0), (126, 12, 146, 0), (127, 11, 88, 0), (130, 12, 147, 0), (131, 11, 89, 1), (134, 12, 184, 1), (135, 11, 90, 0), (138, 12, 185, 0), (139, 11, 91, 0), (142, 12, 192, 0), (143, 11, 92, 3), (146, 12, 170, 3), (149, 11, 93, 3), (153, 12, 171, 3), (154, 11, 94, 2), (158, 12, 172, 2), (159, 11, 95, 3), (162, 12, 173, 3), (163, 11, 96, 5), (166, 12, 174, 5), (167, 11, 97, 3), (170, 12, 197, 3), (171, 11, 98, 1), (174, 12, 198, 1), (175, 11, 99, 2), (178, 12, 199, 2), (179, 11, 100, 0), (182, 12, 203, 0), (183, 11, 101, 0), (186, 12, 204, 0), (187, 11, 102, 0), (190, 12, 205, 0), (191, 11, 103, 1), (194, 12, 207, 1)]]
def q_LI : List (List (Nat × Nat × Nat)) := [[], [(7, 46, 2), (17, 13, 1), (21, 11, 1)], [], [(13, 11, 1)], [], [], [], [(13, 12, 1)], [], [(7, 14, 2), (22, 12, 1)], [], [], [], [], []]
def q_LC : List (List (Nat × Nat)) := [[], [], [], [], [], [], [(53, 1073741823), (55, 10007), (63, 2), (76, 9999)], [], [], [], [], [(295, 9223372036854775808)], [(140, 10007), (142, 268435455), (235, 9223372036854775808)], [], [(147, 4294967295)]]
def q_LG : List (List (Nat × Nat)) := [[], [], [], [], [], [], [], [], [], [], [], [(9, 102), (351, 103), (354, 104)], [], [], []]
def q_LA : List (List (Nat)) := [[34], [], [], [], [41], [25], [], [], [], [], [], [303], [], [], []]
def q_niL : List Nat := [53, 53, 53, 53, 53, 49, 49, 49, 46, 46, 46, 46, 46, 46, 48, 48, 51, 51, 51, 51, 51, 51, 51, 51, 51, 51, 51, 51, 51, 51, 51, 51, 51, 51, 52, 52, 54, 54, 54, 54, 54, 54, 54, 54, 54, 54, 47, 47, 56, 56, 56, 56, 56, 50, 50, 55, 55, 55, 55, 55, 55, 45, 45, 45, 45, 45, 45, 45, 45, 45, 45, 45, 45, 45, 45, 45, 45, 45, 45, 45, 45, 45, 45, 45, 45, 45, 45, 45, 45, 45, 45, 45, 45, 45, 45, 45, 45, 45, 45, 45, 45, 45, 45, 45, 45, 45, 45, 45, 45, 45, 45, 45, 45, 45, 45, 45, 45, 45, 45, 45, 57, 57, 57, 57, 57, 57, 57, 57, 57, 57, 57, 57, 57, 57, 57, 57, 57, 57, 57, 57, 57, 57, 57, 57, 57, 57, 57, 57, 57, 57, 57, 57, 57, 57, 57, 57, 57, 57, 57, 57, 57, 57, 57, 57, 57, 57, 57, 57, 57, 57, 57, 57, 57, 57, 57, 57, 57, 57, 57, 57, 57, 57, 57, 57, 57, 57, 57, 57, 57, 57, 57, 57, 57, 57, 57, 57, 57, 57, 57, 57, 57, 57, 57, 57, 57, 57, 57, 57, 59, 59, 59]
def q_ni (y : Nat) : Nat := (q_niL[y]?).getD 0
theorem q_nat : (Jvm.natives.all fun r => r.cls != "java/lang/Math" || !(["(II)I", "(JJ)J"].contains r.desc)) = true := by decide +kernel
theorem q_plainM {x : MethodName} (hc : x.cls = "java/lang/Math") (hd : ["(II)I", "(JJ)J"].contains x.desc = true) : plainFor x = true := by
  unfold plainFor
  rw [Bool.or_eq_true]
  right
  rw [Option.isNone_iff_eq_none, NativeRow.find?, List.find?_eq_none]
  intro r hr h
  have := List.all_eq_true.mp q_nat r hr
  simp only [Bool.and_eq_true, beq_iff_eq] at h
  rw [h.1.2, h.2, hc, hd] at this
  simp at this
theorem q_okY1 : ∀ y, y < 208 → plainName (q_yn y).cls = true := by decide +kernel
set_option maxRecDepth 20000 in
theorem cw_0 : lw_tbl[349]? = some (.code (q_yn 0) (q_cc 0) (q_mx 0) (q_rt 0)) := by rfl
set_option maxRecDepth 20000 in
theorem cw_1 : lw_tbl[398]? = some (.code (q_yn 1) (q_cc 1) (q_mx 1) (q_rt 1)) := by rfl
set_option maxRecDepth 20000 in
theorem cw_2 : lw_tbl[402]? = some (.code (q_yn 2) (q_cc 2) (q_mx 2) (q_rt 2)) := by rfl
set_option maxRecDepth 20000 in
theorem cw_3 : lw_tbl[669]? = some (.code (q_yn 3) (q_cc 3) (q_mx 3) (q_rt 3)) := by rfl
set_option maxRecDepth 20000 in
theorem cw_4 : lw_tbl[678]? = some (.code (q_yn 4) (q_cc 4) (q_mx 4) (q_rt 4)) := by rfl
set_option maxRecDepth 20000 in
theorem cw_5 : lw_tbl[435]? = some (.code (q_yn 5) (q_cc 5) (q_mx 5) (q_rt 5)) := by rfl
set_option maxRecDepth 20000 in
theorem cw_6 : lw_tbl[837]? = some (.code (q_yn 6) (q_cc 6) (q_mx 6) (q_rt 6)) := by rfl
set_option maxRecDepth 20000 in
theorem cw_7 : lw_tbl[780]? = some (.code (q_yn 7) (q_cc 7) (q_mx 7) (q_rt 7)) := by rfl
set_option maxRecDepth 20000 in
theorem cw_8 : lw_tbl[773]? = some (.code (q_yn 8) (q_cc 8) (q_mx 8) (q_rt 8)) := by rfl
set_option maxRecDepth 20000 in
theorem cw_9 : lw_tbl[786]? = some (.code (q_yn 9) (q_cc 9) (q_mx 9) (q_rt 9)) := by rfl
set_option maxRecDepth 20000 in
theorem cw_10 : lw_tbl[450]? = some (.code (q_yn 10) (q_cc 10) (q_mx 10) (q_rt 10)) := by rfl
set_option maxRecDepth 20000 in
theorem cw_11 : lw_tbl[800]? = some (.code (q_yn 11) (q_cc 11) (q_mx 11) (q_rt 11)) := by rfl
set_option maxRecDepth 20000 in
theorem cw_12 : lw_tbl[829]? = some (.code (q_yn 12) (q_cc 12) (q_mx 12) (q_rt 12)) := by rfl
set_option maxRecDepth 20000 in
theorem cw_13 : lw_tbl[844]? = some (.code (q_yn 13) (q_cc 13) (q_mx 13) (q_rt 13)) := by rfl
set_option maxRecDepth 20000 in
theorem cw_14 : lw_tbl[441]? = some (.code (q_yn 14) (q_cc 14) (q_mx 14) (q_rt 14)) := by rfl
set_option maxRecDepth 20000 in
theorem cw_15 : lw_tbl[792]? = some (.code (q_yn 15) (q_cc 15) (q_mx 15) (q_rt 15)) := by rfl
set_option maxRecDepth 20000 in
theorem cw_16 : lw_tbl[579]? = some (.code (q_yn 16) (q_cc 16) (q_mx 16) (q_rt 16)) := by rfl
set_option maxRecDepth 20000 in
theorem cw_17 : lw_tbl[353]? = some (.code (q_yn 17) (q_cc 17) (q_mx 17) (q_rt 17)) := by rfl
set_option maxRecDepth 20000 in
theorem cw_18 : lw_tbl[604]? = some (.code (q_yn 18) (q_cc 18) (q_mx 18) (q_rt 18)) := by rfl
set_option maxRecDepth 20000 in
theorem cw_19 : lw_tbl[377]? = some (.code (q_yn 19) (q_cc 19) (q_mx 19) (q_rt 19)) := by rfl
set_option maxRecDepth 20000 in
theorem cw_20 : lw_tbl[381]? = some (.code (q_yn 20) (q_cc 20) (q_mx 20) (q_rt 20)) := by rfl
set_option maxRecDepth 20000 in
theorem cw_21 : lw_tbl[373]? = some (.code (q_yn 21) (q_cc 21) (q_mx 21) (q_rt 21)) := by rfl
set_option maxRecDepth 20000 in
theorem cw_22 : lw_tbl[369]? = some (.code (q_yn 22) (q_cc 22) (q_mx 22) (q_rt 22)) := by rfl
set_option maxRecDepth 20000 in
theorem cw_23 : lw_tbl[390]? = some (.code (q_yn 23) (q_cc 23) (q_mx 23) (q_rt 23)) := by rfl
set_option maxRecDepth 20000 in
theorem cw_24 : lw_tbl[394]? = some (.code (q_yn 24) (q_cc 24) (q_mx 24) (q_rt 24)) := by rfl
set_option maxRecDepth 20000 in
theorem cw_25 : lw_tbl[423]? = some (.code (q_yn 25) (q_cc 25) (q_mx 25) (q_rt 25)) := by rfl
set_option maxRecDepth 20000 in
theorem cw_26 : lw_tbl[386]? = some (.code (q_yn 26) (q_cc 26) (q_mx 26) (q_rt 26)) := by rfl
set_option maxRecDepth 20000 in
theorem cw_27 : lw_tbl[419]? = some (.code (q_yn 27) (q_cc 27) (q_mx 27) (q_rt 27)) := by rfl
set_option maxRecDepth 20000 in
theorem cw_28 : lw_tbl[428]? = some (.code (q_yn 28) (q_cc 28) (q_mx 28) (q_rt 28)) := by rfl
set_option maxRecDepth 20000 in
theorem cw_29 : lw_tbl[454]? = some (.code (q_yn 29) (q_cc 29) (q_mx 29) (q_rt 29)) := by rfl
set_option maxRecDepth 20000 in
theorem cw_30 : lw_tbl[459]? = some (.code (q_yn 30) (q_cc 30) (q_mx 30) (q_rt 30)) := by rfl
set_option maxRecDepth 20000 in
theorem cw_31 : lw_tbl[415]? = some (.code (q_yn 31) (q_cc 31) (q_mx 31) (q_rt 31)) := by rfl
set_option maxRecDepth 20000 in
theorem cw_32 : lw_tbl[464]? = some (.code (q_yn 32) (q_cc 32) (q_mx 32) (q_rt 32)) := by rfl
set_option maxRecDepth 20000 in
theorem cw_33 : lw_tbl[873]? = some (.code (q_yn 33) (q_cc 33) (q_mx 33) (q_rt 33)) := by rfl
set_option maxRecDepth 20000 in
theorem cw_34 : lw_tbl[648]? = some (.code (q_yn 34) (q_cc 34) (q_mx 34) (q_rt 34)) := by rfl
set_option maxRecDepth 20000 in
theorem cw_35 : lw_tbl[864]? = some (.code (q_yn 35) (q_cc 35) (q_mx 35) (q_rt 35)) := by rfl
set_option maxRecDepth 20000 in
theorem cw_36 : lw_tbl[480]? = some (.code (q_yn 36) (q_cc 36) (q_mx 36) (q_rt 36)) := by rfl
set_option maxRecDepth 20000 in
theorem cw_37 : lw_tbl[487]? = some (.code (q_yn 37) (q_cc 37) (q_mx 37) (q_rt 37)) := by rfl
set_option maxRecDepth 20000 in
theorem cw_38 : lw_tbl[491]? = some (.code (q_yn 38) (q_cc 38) (q_mx 38) (q_rt 38)) := by rfl
set_option maxRecDepth 20000 in
theorem cw_39 : lw_tbl[495]? = some (.code (q_yn 39) (q_cc 39) (q_mx 39) (q_rt 39)) := by rfl
set_option maxRecDepth 20000 in
theorem cw_40 : lw_tbl[500]? = some (.code (q_yn 40) (q_cc 40) (q_mx 40) (q_rt 40)) := by rfl
set_option maxRecDepth 20000 in
theorem cw_41 : lw_tbl[522]? = some (.code (q_yn 41) (q_cc 41) (q_mx 41) (q_rt 41)) := by rfl
set_option maxRecDepth 20000 in
theorem cw_42 : lw_tbl[534]? = some (.code (q_yn 42) (q_cc 42) (q_mx 42) (q_rt 42)) := by rfl
set_option maxRecDepth 20000 in
theorem cw_43 : lw_tbl[550]? = some (.code (q_yn 43) (q_cc 43) (q_mx 43) (q_rt 43)) := by rfl
set_option maxRecDepth 20000 in
theorem cw_44 : lw_tbl[631]? = some (.code (q_yn 44) (q_cc 44) (q_mx 44) (q_rt 44)) := by rfl
set_option maxRecDepth 20000 in
theorem cw_45 : lw_tbl[567]? = some (.code (q_yn 45) (q_cc 45) (q_mx 45) (q_rt 45)) := by rfl
set_option maxRecDepth 20000 in
theorem cw_46 : lw_tbl[438]? = some (.code (q_yn 46) (q_cc 46) (q_mx 46) (q_rt 46)) := by rfl
set_option maxRecDepth 20000 in
theorem cw_47 : lw_tbl[808]? = some (.code (q_yn 47) (q_cc 47) (q_mx 47) (q_rt 47)) := by rfl
set_option maxRecDepth 20000 in
theorem cw_48 : lw_tbl[619]? = some (.code (q_yn 48) (q_cc 48) (q_mx 48) (q_rt 48)) := by rfl
set_option maxRecDepth 20000 in
theorem cw_49 : lw_tbl[730]? = some (.code (q_yn 49) (q_cc 49) (q_mx 49) (q_rt 49)) := by rfl
set_option maxRecDepth 20000 in
theorem cw_50 : lw_tbl[738]? = some (.code (q_yn 50) (q_cc 50) (q_mx 50) (q_rt 50)) := by rfl
set_option maxRecDepth 20000 in
theorem cw_51 : lw_tbl[759]? = some (.code (q_yn 51) (q_cc 51) (q_mx 51) (q_rt 51)) := by rfl
set_option maxRecDepth 20000 in
theorem cw_52 : lw_tbl[742]? = some (.code (q_yn 52) (q_cc 52) (q_mx 52) (q_rt 52)) := by rfl
set_option maxRecDepth 20000 in
theorem cw_53 : lw_tbl[445]? = some (.code (q_yn 53) (q_cc 53) (q_mx 53) (q_rt 53)) := by rfl
set_option maxRecDepth 20000 in
theorem cw_54 : lw_tbl[818]? = some (.code (q_yn 54) (q_cc 54) (q_mx 54) (q_rt 54)) := by rfl
set_option maxRecDepth 20000 in
theorem cw_55 : lw_tbl[686]? = some (.code (q_yn 55) (q_cc 55) (q_mx 55) (q_rt 55)) := by rfl
set_option maxRecDepth 20000 in
theorem cw_56 : lw_tbl[701]? = some (.code (q_yn 56) (q_cc 56) (q_mx 56) (q_rt 56)) := by rfl
set_option maxRecDepth 20000 in
theorem cw_57 : lw_tbl[704]? = some (.code (q_yn 57) (q_cc 57) (q_mx 57) (q_rt 57)) := by rfl
set_option maxRecDepth 20000 in
theorem cw_58 : lw_tbl[698]? = some (.code (q_yn 58) (q_cc 58) (q_mx 58) (q_rt 58)) := by rfl
set_option maxRecDepth 20000 in
theorem cw_59 : lw_tbl[712]? = some (.code (q_yn 59) (q_cc 59) (q_mx 59) (q_rt 59)) := by rfl
set_option maxRecDepth 20000 in
theorem cw_60 : lw_tbl[716]? = some (.code (q_yn 60) (q_cc 60) (q_mx 60) (q_rt 60)) := by rfl
set_option maxRecDepth 20000 in
theorem cw_61 : lw_tbl[335]? = some (.code (q_yn 61) (q_cc 61) (q_mx 61) (q_rt 61)) := by rfl
set_option maxRecDepth 20000 in
theorem cw_62 : lw_tbl[357]? = some (.code (q_yn 62) (q_cc 62) (q_mx 62) (q_rt 62)) := by rfl
set_option maxRecDepth 20000 in
theorem cw_63 : lw_tbl[361]? = some (.code (q_yn 63) (q_cc 63) (q_mx 63) (q_rt 63)) := by rfl
set_option maxRecDepth 20000 in
theorem cw_64 : lw_tbl[365]? = some (.code (q_yn 64) (q_cc 64) (q_mx 64) (q_rt 64)) := by rfl
set_option maxRecDepth 20000 in
theorem cw_65 : lw_tbl[409]? = some (.code (q_yn 65) (q_cc 65) (q_mx 65) (q_rt 65)) := by rfl
set_option maxRecDepth 20000 in
theorem cw_66 : lw_tbl[470]? = some (.code (q_yn 66) (q_cc 66) (q_mx 66) (q_rt 66)) := by rfl
set_option maxRecDepth 20000 in
theorem cw_67 : lw_tbl[504]? = some (.code (q_yn 67) (q_cc 67) (q_mx 67) (q_rt 67)) := by rfl
set_option maxRecDepth 20000 in
theorem cw_68 : lw_tbl[509]? = some (.code (q_yn 68) (q_cc 68) (q_mx 68) (q_rt 68)) := by rfl
set_option maxRecDepth 20000 in
theorem cw_69 : lw_tbl[514]? = some (.code (q_yn 69) (q_cc 69) (q_mx 69) (q_rt 69)) := by rfl
set_option maxRecDepth 20000 in
theorem cw_70 : lw_tbl[518]? = some (.code (q_yn 70) (q_cc 70) (q_mx 70) (q_rt 70)) := by rfl
set_option maxRecDepth 20000 in
theorem cw_71 : lw_tbl[530]? = some (.code (q_yn 71) (q_cc 71) (q_mx 71) (q_rt 71)) := by rfl
set_option maxRecDepth 20000 in
theorem cw_72 : lw_tbl[542]? = some (.code (q_yn 72) (q_cc 72) (q_mx 72) (q_rt 72)) := by rfl
set_option maxRecDepth 20000 in
theorem cw_73 : lw_tbl[556]? = some (.code (q_yn 73) (q_cc 73) (q_mx 73) (q_rt 73)) := by rfl
set_option maxRecDepth 20000 in
theorem cw_74 : lw_tbl[560]? = some (.code (q_yn 74) (q_cc 74) (q_mx 74) (q_rt 74)) := by rfl
set_option maxRecDepth 20000 in
theorem cw_75 : lw_tbl[571]? = some (.code (q_yn 75) (q_cc 75) (q_mx 75) (q_rt 75)) := by rfl
set_option maxRecDepth 20000 in
theorem cw_76 : lw_tbl[575]? = some (.code (q_yn 76) (q_cc 76) (q_mx 76) (q_rt 76)) := by rfl
set_option maxRecDepth 20000 in
theorem cw_77 : lw_tbl[592]? = some (.code (q_yn 77) (q_cc 77) (q_mx 77) (q_rt 77)) := by rfl
set_option maxRecDepth 20000 in
theorem cw_78 : lw_tbl[596]? = some (.code (q_yn 78) (q_cc 78) (q_mx 78) (q_rt 78)) := by rfl
set_option maxRecDepth 20000 in
theorem cw_79 : lw_tbl[600]? = some (.code (q_yn 79) (q_cc 79) (q_mx 79) (q_rt 79)) := by rfl
set_option maxRecDepth 20000 in
theorem cw_80 : lw_tbl[608]? = some (.code (q_yn 80) (q_cc 80) (q_mx 80) (q_rt 80)) := by rfl
set_option maxRecDepth 20000 in
theorem cw_81 : lw_tbl[612]? = some (.code (q_yn 81) (q_cc 81) (q_mx 81) (q_rt 81)) := by rfl
set_option maxRecDepth 20000 in
theorem cw_82 : lw_tbl[640]? = some (.code (q_yn 82) (q_cc 82) (q_mx 82) (q_rt 82)) := by rfl
set_option maxRecDepth 20000 in
theorem cw_83 : lw_tbl[644]? = some (.code (q_yn 83) (q_cc 83) (q_mx 83) (q_rt 83)) := by rfl
set_option maxRecDepth 20000 in
theorem cw_84 : lw_tbl[652]? = some (.code (q_yn 84) (q_cc 84) (q_mx 84) (q_rt 84)) := by rfl
set_option maxRecDepth 20000 in
theorem cw_85 : lw_tbl[656]? = some (.code (q_yn 85) (q_cc 85) (q_mx 85) (q_rt 85)) := by rfl
set_option maxRecDepth 20000 in
theorem cw_86 : lw_tbl[661]? = some (.code (q_yn 86) (q_cc 86) (q_mx 86) (q_rt 86)) := by rfl
set_option maxRecDepth 20000 in
theorem cw_87 : lw_tbl[665]? = some (.code (q_yn 87) (q_cc 87) (q_mx 87) (q_rt 87)) := by rfl
set_option maxRecDepth 20000 in
theorem cw_88 : lw_tbl[674]? = some (.code (q_yn 88) (q_cc 88) (q_mx 88) (q_rt 88)) := by rfl
set_option maxRecDepth 20000 in
theorem cw_89 : lw_tbl[682]? = some (.code (q_yn 89) (q_cc 89) (q_mx 89) (q_rt 89)) := by rfl
set_option maxRecDepth 20000 in
theorem cw_90 : lw_tbl[690]? = some (.code (q_yn 90) (q_cc 90) (q_mx 90) (q_rt 90)) := by rfl
set_option maxRecDepth 20000 in
theorem cw_91 : lw_tbl[694]? = some (.code (q_yn 91) (q_cc 91) (q_mx 91) (q_rt 91)) := by rfl
set_option maxRecDepth 20000 in
theorem cw_92 : lw_tbl[726]? = some (.code (q_yn 92) (q_cc 92) (q_mx 92) (q_rt 92)) := by rfl
set_option maxRecDepth 20000 in
theorem cw_93 : lw_tbl[734]? = some (.code (q_yn 93) (q_cc 93) (q_mx 93) (q_rt 93)) := by rfl
set_option maxRecDepth 20000 in
theorem cw_94 : lw_tbl[746]? = some (.code (q_yn 94) (q_cc 94) (q_mx 94) (q_rt 94)) := by rfl
set_option maxRecDepth 20000 in
theorem cw_95 : lw_tbl[751]? = some (.code (q_yn 95) (q_cc 95) (q_mx 95) (q_rt 95)) := by rfl
set_option maxRecDepth 20000 in
theorem cw_96 : lw_tbl[755]? = some (.code (q_yn 96) (q_cc 96) (q_mx 96) (q_rt 96)) := by rfl
set_option maxRecDepth 20000 in
theorem cw_97 : lw_tbl[764]? = some (.code (q_yn 97) (q_cc 97) (q_mx 97) (q_rt 97)) := by rfl
set_option maxRecDepth 20000 in
theorem cw_98 : lw_tbl[849]? = some (.code (q_yn 98) (q_cc 98) (q_mx 98) (q_rt 98)) := by rfl
set_option maxRecDepth 20000 in
theorem cw_99 : lw_tbl[853]? = some (.code (q_yn 99) (q_cc 99) (q_mx 99) (q_rt 99)) := by rfl
set_option maxRecDepth 20000 in
theorem cw_100 : lw_tbl[860]? = some (.code (q_yn 100) (q_cc 100) (q_mx 100) (q_rt 100)) := by rfl
set_option maxRecDepth 20000 in
theorem cw_101 : lw_tbl[869]? = some (.code (q_yn 101) (q_cc 101) (q_mx 101) (q_rt 101)) := by rfl
set_option maxRecDepth 20000 in
theorem cw_102 : lw_tbl[878]? = some (.code (q_yn 102) (q_cc 102) (q_mx 102) (q_rt 102)) := by rfl
set_option maxRecDepth 20000 in
theorem cw_103 : lw_tbl[882]? = some (.code (q_yn 103) (q_cc 103) (q_mx 103) (q_rt 103)) := by rfl
set_option maxRecDepth 20000 in
theorem cw_104 : lw_tbl[338]? = some (.code (q_yn 104) (q_cc 104) (q_mx 104) (q_rt 104)) := by rfl
set_option maxRecDepth 20000 in
theorem cw_105 : lw_tbl[341]? = some (.code (q_yn 105) (q_cc 105) (q_mx 105) (q_rt 105)) := by rfl
set_option maxRecDepth 20000 in
theorem cw_106 : lw_tbl[476]? = some (.code (q_yn 106) (q_cc 106) (q_mx 106) (q_rt 106)) := by rfl
set_option maxRecDepth 20000 in
theorem cw_107 : lw_tbl[473]? = some (.code (q_yn 107) (q_cc 107) (q_mx 107) (q_rt 107)) := by rfl
set_option maxRecDepth 20000 in
theorem cw_108 : lw_tbl[563]? = some (.code (q_yn 108) (q_cc 108) (q_mx 108) (q_rt 108)) := by rfl
set_option maxRecDepth 20000 in
theorem cw_109 : lw_tbl[615]? = some (.code (q_yn 109) (q_cc 109) (q_mx 109) (q_rt 109)) := by rfl
set_option maxRecDepth 20000 in
theorem cw_110 : lw_tbl[856]? = some (.code (q_yn 110) (q_cc 110) (q_mx 110) (q_rt 110)) := by rfl
set_option maxRecDepth 20000 in
theorem cw_111 : lw_tbl[887]? = some (.code (q_yn 111) (q_cc 111) (q_mx 111) (q_rt 111)) := by rfl
set_option maxRecDepth 20000 in
theorem cw_112 : lw_tbl[546]? = some (.code (q_yn 112) (q_cc 112) (q_mx 112) (q_rt 112)) := by rfl
set_option maxRecDepth 20000 in
theorem cw_113 : lw_tbl[588]? = some (.code (q_yn 113) (q_cc 113) (q_mx 113) (q_rt 113)) := by rfl
set_option maxRecDepth 20000 in
theorem cw_114 : lw_tbl[584]? = some (.code (q_yn 114) (q_cc 114) (q_mx 114) (q_rt 114)) := by rfl
set_option maxRecDepth 20000 in
theorem cw_115 : lw_tbl[627]? = some (.code (q_yn 115) (q_cc 115) (q_mx 115) (q_rt 115)) := by rfl
set_option maxRecDepth 20000 in
theorem cw_116 : lw_tbl[636]? = some (.code (q_yn 116) (q_cc 116) (q_mx 116) (q_rt 116)) := by rfl
set_option maxRecDepth 20000 in
theorem cw_117 : lw_tbl[623]? = some (.code (q_yn 117) (q_cc 117) (q_mx 117) (q_rt 117)) := by rfl
set_option maxRecDepth 20000 in
theorem cw_118 : lw_tbl[708]? = some (.code (q_yn 118) (q_cc 118) (q_mx 118) (q_rt 118)) := by rfl
set_option maxRecDepth 20000 in
theorem cw_119 : lw_tbl[720]? = some (.code (q_yn 119) (q_cc 119) (q_mx 119) (q_rt 119)) := by rfl
set_option maxRecDepth 20000 in
theorem cw_120 : lw_tbl[1042]? = some (.code (q_yn 120) (q_cc 120) (q_mx 120) (q_rt 120)) := by rfl
set_option maxRecDepth 20000 in
theorem cw_121 : lw_tbl[1070]? = some (.code (q_yn 121) (q_cc 121) (q_mx 121) (q_rt 121)) := by rfl
set_option maxRecDepth 20000 in
theorem cw_122 : lw_tbl[1074]? = some (.code (q_yn 122) (q_cc 122) (q_mx 122) (q_rt 122)) := by rfl
set_option maxRecDepth 20000 in
theorem cw_123 : lw_tbl[1126]? = some (.code (q_yn 123) (q_cc 123) (q_mx 123) (q_rt 123)) := by rfl
set_option maxRecDepth 20000 in
theorem cw_124 : lw_tbl[1123]? = some (.code (q_yn 124) (q_cc 124) (q_mx 124) (q_rt 124)) := by rfl
set_option maxRecDepth 20000 in
theorem cw_125 : lw_tbl[1116]? = some (.code (q_yn 125) (q_cc 125) (q_mx 125) (q_rt 125)) := by rfl
set_option maxRecDepth 20000 in
theorem cw_126 : lw_tbl[1112]? = some (.code (q_yn 126) (q_cc 126) (q_mx 126) (q_rt 126)) := by rfl
set_option maxRecDepth 20000 in
theorem cw_127 : lw_tbl[1084]? = some (.code (q_yn 127) (q_cc 127) (q_mx 127) (q_rt 127)) := by rfl
set_option maxRecDepth 20000 in
theorem cw_128 : lw_tbl[1139]? = some (.code (q_yn 128) (q_cc 128) (q_mx 128) (q_rt 128)) := by rfl
set_option maxRecDepth 20000 in
theorem cw_129 : lw_tbl[1142]? = some (.code (q_yn 129) (q_cc 129) (q_mx 129) (q_rt 129)) := by rfl
set_option maxRecDepth 20000 in
theorem cw_130 : lw_tbl[1134]? = some (.code (q_yn 130) (q_cc 130) (q_mx 130) (q_rt 130)) := by rfl
set_option maxRecDepth 20000 in
theorem cw_131 : lw_tbl[1130]? = some (.code (q_yn 131) (q_cc 131) (q_mx 131) (q_rt 131)) := by rfl
set_option maxRecDepth 20000 in
theorem cw_132 : lw_tbl[1167]? = some (.code (q_yn 132) (q_cc 132) (q_mx 132) (q_rt 132)) := by rfl
set_option maxRecDepth 20000 in
theorem cw_133 : lw_tbl[1179]? = some (.code (q_yn 133) (q_cc 133) (q_mx 133) (q_rt 133)) := by rfl
set_option maxRecDepth 20000 in
theorem cw_134 : lw_tbl[1046]? = some (.code (q_yn 134) (q_cc 134) (q_mx 134) (q_rt 134)) := by rfl
set_option maxRecDepth 20000 in
theorem cw_135 : lw_tbl[1039]? = some (.code (q_yn 135) (q_cc 135) (q_mx 135) (q_rt 135)) := by rfl
set_option maxRecDepth 20000 in
theorem cw_136 : lw_tbl[1050]? = some (.code (q_yn 136) (q_cc 136) (q_mx 136) (q_rt 136)) := by rfl
set_option maxRecDepth 20000 in
theorem cw_137 : lw_tbl[1054]? = some (.code (q_yn 137) (q_cc 137) (q_mx 137) (q_rt 137)) := by rfl
set_option maxRecDepth 20000 in
theorem cw_138 : lw_tbl[1088]? = some (.code (q_yn 138) (q_cc 138) (q_mx 138) (q_rt 138)) := by rfl
set_option maxRecDepth 20000 in
theorem cw_139 : lw_tbl[1096]? = some (.code (q_yn 139) (q_cc 139) (q_mx 139) (q_rt 139)) := by rfl
set_option maxRecDepth 20000 in
theorem cw_140 : lw_tbl[1066]? = some (.code (q_yn 140) (q_cc 140) (q_mx 140) (q_rt 140)) := by rfl
set_option maxRecDepth 20000 in
theorem cw_141 : lw_tbl[1077]? = some (.code (q_yn 141) (q_cc 141) (q_mx 141) (q_rt 141)) := by rfl
set_option maxRecDepth 20000 in
theorem cw_142 : lw_tbl[1080]? = some (.code (q_yn 142) (q_cc 142) (q_mx 142) (q_rt 142)) := by rfl
set_option maxRecDepth 20000 in
theorem cw_143 : lw_tbl[1062]? = some (.code (q_yn 143) (q_cc 143) (q_mx 143) (q_rt 143)) := by rfl
set_option maxRecDepth 20000 in
theorem cw_144 : lw_tbl[1092]? = some (.code (q_yn 144) (q_cc 144) (q_mx 144) (q_rt 144)) := by rfl
set_option maxRecDepth 20000 in
theorem cw_145 : lw_tbl[1058]? = some (.code (q_yn 145) (q_cc 145) (q_mx 145) (q_rt 145)) := by rfl
set_option maxRecDepth 20000 in
theorem cw_146 : lw_tbl[1100]? = some (.code (q_yn 146) (q_cc 146) (q_mx 146) (q_rt 146)) := by rfl
set_option maxRecDepth 20000 in
theorem cw_147 : lw_tbl[1104]? = some (.code (q_yn 147) (q_cc 147) (q_mx 147) (q_rt 147)) := by rfl
set_option maxRecDepth 20000 in
theorem cw_148 : lw_tbl[1108]? = some (.code (q_yn 148) (q_cc 148) (q_mx 148) (q_rt 148)) := by rfl
set_option maxRecDepth 20000 in
theorem cw_149 : lw_tbl[1120]? = some (.code (q_yn 149) (q_cc 149) (q_mx 149) (q_rt 149)) := by rfl
set_option maxRecDepth 20000 in
theorem cw_150 : lw_tbl[1147]? = some (.code (q_yn 150) (q_cc 150) (q_mx 150) (q_rt 150)) := by rfl
set_option maxRecDepth 20000 in
theorem cw_151 : lw_tbl[1151]? = some (.code (q_yn 151) (q_cc 151) (q_mx 151) (q_rt 151)) := by rfl
set_option maxRecDepth 20000 in
theorem cw_152 : lw_tbl[1155]? = some (.code (q_yn 152) (q_cc 152) (q_mx 152) (q_rt 152)) := by rfl
set_option maxRecDepth 20000 in
theorem cw_153 : lw_tbl[1159]? = some (.code (q_yn 153) (q_cc 153) (q_mx 153) (q_rt 153)) := by rfl
set_option maxRecDepth 20000 in
theorem cw_154 : lw_tbl[1163]? = some (.code (q_yn 154) (q_cc 154) (q_mx 154) (q_rt 154)) := by rfl
set_option maxRecDepth 20000 in
theorem cw_155 : lw_tbl[1175]? = some (.code (q_yn 155) (q_cc 155) (q_mx 155) (q_rt 155)) := by rfl
set_option maxRecDepth 20000 in
theorem cw_156 : lw_tbl[1171]? = some (.code (q_yn 156) (q_cc 156) (q_mx 156) (q_rt 156)) := by rfl
set_option maxRecDepth 20000 in
theorem cw_157 : lw_tbl[1183]? = some (.code (q_yn 157) (q_cc 157) (q_mx 157) (q_rt 157)) := by rfl
set_option maxRecDepth 20000 in
theorem cw_158 : lw_tbl[1190]? = some (.code (q_yn 158) (q_cc 158) (q_mx 158) (q_rt 158)) := by rfl
set_option maxRecDepth 20000 in
theorem cw_159 : lw_tbl[1194]? = some (.code (q_yn 159) (q_cc 159) (q_mx 159) (q_rt 159)) := by rfl
set_option maxRecDepth 20000 in
theorem cw_160 : lw_tbl[1187]? = some (.code (q_yn 160) (q_cc 160) (q_mx 160) (q_rt 160)) := by rfl
set_option maxRecDepth 20000 in
theorem cw_161 : lw_tbl[1198]? = some (.code (q_yn 161) (q_cc 161) (q_mx 161) (q_rt 161)) := by rfl
set_option maxRecDepth 20000 in
theorem cw_162 : lw_tbl[1202]? = some (.code (q_yn 162) (q_cc 162) (q_mx 162) (q_rt 162)) := by rfl
set_option maxRecDepth 20000 in
theorem cw_163 : lw_tbl[1206]? = some (.code (q_yn 163) (q_cc 163) (q_mx 163) (q_rt 163)) := by rfl
set_option maxRecDepth 20000 in
theorem cw_164 : lw_tbl[1210]? = some (.code (q_yn 164) (q_cc 164) (q_mx 164) (q_rt 164)) := by rfl
set_option maxRecDepth 20000 in
theorem cw_165 : lw_tbl[1218]? = some (.code (q_yn 165) (q_cc 165) (q_mx 165) (q_rt 165)) := by rfl
set_option maxRecDepth 20000 in
theorem cw_166 : lw_tbl[1214]? = some (.code (q_yn 166) (q_cc 166) (q_mx 166) (q_rt 166)) := by rfl
set_option maxRecDepth 20000 in
theorem cw_167 : lw_tbl[1222]? = some (.code (q_yn 167) (q_cc 167) (q_mx 167) (q_rt 167)) := by rfl
set_option maxRecDepth 20000 in
theorem cw_168 : lw_tbl[1229]? = some (.code (q_yn 168) (q_cc 168) (q_mx 168) (q_rt 168)) := by rfl
set_option maxRecDepth 20000 in
theorem cw_169 : lw_tbl[1236]? = some (.code (q_yn 169) (q_cc 169) (q_mx 169) (q_rt 169)) := by rfl
set_option maxRecDepth 20000 in
theorem cw_170 : lw_tbl[1226]? = some (.code (q_yn 170) (q_cc 170) (q_mx 170) (q_rt 170)) := by rfl
set_option maxRecDepth 20000 in
theorem cw_171 : lw_tbl[1233]? = some (.code (q_yn 171) (q_cc 171) (q_mx 171) (q_rt 171)) := by rfl
set_option maxRecDepth 20000 in
theorem cw_172 : lw_tbl[1240]? = some (.code (q_yn 172) (q_cc 172) (q_mx 172) (q_rt 172)) := by rfl
set_option maxRecDepth 20000 in
theorem cw_173 : lw_tbl[1245]? = some (.code (q_yn 173) (q_cc 173) (q_mx 173) (q_rt 173)) := by rfl
set_option maxRecDepth 20000 in
theorem cw_174 : lw_tbl[1249]? = some (.code (q_yn 174) (q_cc 174) (q_mx 174) (q_rt 174)) := by rfl
set_option maxRecDepth 20000 in
theorem cw_175 : lw_tbl[1261]? = some (.code (q_yn 175) (q_cc 175) (q_mx 175) (q_rt 175)) := by rfl
set_option maxRecDepth 20000 in
theorem cw_176 : lw_tbl[1253]? = some (.code (q_yn 176) (q_cc 176) (q_mx 176) (q_rt 176)) := by rfl
set_option maxRecDepth 20000 in
theorem cw_177 : lw_tbl[1257]? = some (.code (q_yn 177) (q_cc 177) (q_mx 177) (q_rt 177)) := by rfl
set_option maxRecDepth 20000 in
theorem cw_178 : lw_tbl[1265]? = some (.code (q_yn 178) (q_cc 178) (q_mx 178) (q_rt 178)) := by rfl
set_option maxRecDepth 20000 in
theorem cw_179 : lw_tbl[1269]? = some (.code (q_yn 179) (q_cc 179) (q_mx 179) (q_rt 179)) := by rfl
set_option maxRecDepth 20000 in
theorem cw_180 : lw_tbl[1273]? = some (.code (q_yn 180) (q_cc 180) (q_mx 180) (q_rt 180)) := by rfl
set_option maxRecDepth 20000 in
theorem cw_181 : lw_tbl[1277]? = some (.code (q_yn 181) (q_cc 181) (q_mx 181) (q_rt 181)) := by rfl
set_option maxRecDepth 20000 in
theorem cw_182 : lw_tbl[1293]? = some (.code (q_yn 182) (q_cc 182) (q_mx 182) (q_rt 182)) := by rfl
set_option maxRecDepth 20000 in
theorem cw_183 : lw_tbl[1298]? = some (.code (q_yn 183) (q_cc 183) (q_mx 183) (q_rt 183)) := by rfl
set_option maxRecDepth 20000 in
theorem cw_184 : lw_tbl[1302]? = some (.code (q_yn 184) (q_cc 184) (q_mx 184) (q_rt 184)) := by rfl
set_option maxRecDepth 20000 in
theorem cw_185 : lw_tbl[1306]? = some (.code (q_yn 185) (q_cc 185) (q_mx 185) (q_rt 185)) := by rfl
set_option maxRecDepth 20000 in
theorem cw_186 : lw_tbl[1322]? = some (.code (q_yn 186) (q_cc 186) (q_mx 186) (q_rt 186)) := by rfl
set_option maxRecDepth 20000 in
theorem cw_187 : lw_tbl[1325]? = some (.code (q_yn 187) (q_cc 187) (q_mx 187) (q_rt 187)) := by rfl
set_option maxRecDepth 20000 in
theorem cw_188 : lw_tbl[1329]? = some (.code (q_yn 188) (q_cc 188) (q_mx 188) (q_rt 188)) := by rfl
set_option maxRecDepth 20000 in
theorem cw_189 : lw_tbl[1318]? = some (.code (q_yn 189) (q_cc 189) (q_mx 189) (q_rt 189)) := by rfl
set_option maxRecDepth 20000 in
theorem cw_190 : lw_tbl[1314]? = some (.code (q_yn 190) (q_cc 190) (q_mx 190) (q_rt 190)) := by rfl
set_option maxRecDepth 20000 in
theorem cw_191 : lw_tbl[1333]? = some (.code (q_yn 191) (q_cc 191) (q_mx 191) (q_rt 191)) := by rfl
set_option maxRecDepth 20000 in
theorem cw_192 : lw_tbl[1310]? = some (.code (q_yn 192) (q_cc 192) (q_mx 192) (q_rt 192)) := by rfl
set_option maxRecDepth 20000 in
theorem cw_193 : lw_tbl[1347]? = some (.code (q_yn 193) (q_cc 193) (q_mx 193) (q_rt 193)) := by rfl
set_option maxRecDepth 20000 in
theorem cw_194 : lw_tbl[1343]? = some (.code (q_yn 194) (q_cc 194) (q_mx 194) (q_rt 194)) := by rfl
set_option maxRecDepth 20000 in
theorem cw_195 : lw_tbl[1351]? = some (.code (q_yn 195) (q_cc 195) (q_mx 195) (q_rt 195)) := by rfl
set_option maxRecDepth 20000 in
theorem cw_196 : lw_tbl[1355]? = some (.code (q_yn 196) (q_cc 196) (q_mx 196) (q_rt 196)) := by rfl
set_option maxRecDepth 20000 in
theorem cw_197 : lw_tbl[1339]? = some (.code (q_yn 197) (q_cc 197) (q_mx 197) (q_rt 197)) := by rfl
set_option maxRecDepth 20000 in
theorem cw_198 : lw_tbl[1359]? = some (.code (q_yn 198) (q_cc 198) (q_mx 198) (q_rt 198)) := by rfl
set_option maxRecDepth 20000 in
theorem cw_199 : lw_tbl[1363]? = some (.code (q_yn 199) (q_cc 199) (q_mx 199) (q_rt 199)) := by rfl
set_option maxRecDepth 20000 in
theorem cw_200 : lw_tbl[1285]? = some (.code (q_yn 200) (q_cc 200) (q_mx 200) (q_rt 200)) := by rfl
set_option maxRecDepth 20000 in
theorem cw_201 : lw_tbl[1289]? = some (.code (q_yn 201) (q_cc 201) (q_mx 201) (q_rt 201)) := by rfl
set_option maxRecDepth 20000 in
theorem cw_202 : lw_tbl[1281]? = some (.code (q_yn 202) (q_cc 202) (q_mx 202) (q_rt 202)) := by rfl
set_option maxRecDepth 20000 in
theorem cw_203 : lw_tbl[1367]? = some (.code (q_yn 203) (q_cc 203) (q_mx 203) (q_rt 203)) := by rfl
set_option maxRecDepth 20000 in
theorem cw_204 : lw_tbl[1371]? = some (.code (q_yn 204) (q_cc 204) (q_mx 204) (q_rt 204)) := by rfl
set_option maxRecDepth 20000 in
theorem cw_205 : lw_tbl[1375]? = some (.code (q_yn 205) (q_cc 205) (q_mx 205) (q_rt 205)) := by rfl
set_option maxRecDepth 20000 in
theorem cw_206 : lw_tbl[1383]? = some (.code (q_yn 206) (q_cc 206) (q_mx 206) (q_rt 206)) := by rfl
set_option maxRecDepth 20000 in
theorem cw_207 : lw_tbl[1379]? = some (.code (q_yn 207) (q_cc 207) (q_mx 207) (q_rt 207)) := by rfl
set_option maxRecDepth 20000 in
theorem cw_208 : lw_tbl[449]? = some (.code (q_yn 208) (q_cc 208) (q_mx 208) (q_rt 208)) := by rfl
set_option maxRecDepth 20000 in
theorem cw_209 : lw_tbl[526]? = some (.code (q_yn 209) (q_cc 209) (q_mx 209) (q_rt 209)) := by rfl
set_option maxRecDepth 20000 in
theorem cw_210 : lw_tbl[538]? = some (.code (q_yn 210) (q_cc 210) (q_mx 210) (q_rt 210)) := by rfl
theorem q_okY3 : ∀ y, y < 211 → lw_tbl[q_ni y]? = some (.initialized (q_yn y).cls) := by decide +kernel
theorem q_okY4 : ∀ y, y < 211 → ((q_yn y).cls ≠ "java/lang/invoke/MethodHandle" ∧ (q_yn y).cls ≠ "java/lang/invoke/VarHandle") := by decide +kernel
theorem yk_0 : q_okY 0 := ⟨plainFor_of_name (q_okY1 0 (by decide)), q_in _ cw_0 rfl, q_in _ (q_okY3 0 (by decide)) rfl, q_okY4 0 (by decide)⟩
theorem yk_1 : q_okY 1 := ⟨plainFor_of_name (q_okY1 1 (by decide)), q_in _ cw_1 rfl, q_in _ (q_okY3 1 (by decide)) rfl, q_okY4 1 (by decide)⟩
theorem yk_2 : q_okY 2 := ⟨plainFor_of_name (q_okY1 2 (by decide)), q_in _ cw_2 rfl, q_in _ (q_okY3 2 (by decide)) rfl, q_okY4 2 (by decide)⟩
theorem yk_3 : q_okY 3 := ⟨plainFor_of_name (q_okY1 3 (by decide)), q_in _ cw_3 rfl, q_in _ (q_okY3 3 (by decide)) rfl, q_okY4 3 (by decide)⟩
theorem yk_4 : q_okY 4 := ⟨plainFor_of_name (q_okY1 4 (by decide)), q_in _ cw_4 rfl, q_in _ (q_okY3 4 (by decide)) rfl, q_okY4 4 (by decide)⟩
theorem yk_5 : q_okY 5 := ⟨plainFor_of_name (q_okY1 5 (by decide)), q_in _ cw_5 rfl, q_in _ (q_okY3 5 (by decide)) rfl, q_okY4 5 (by decide)⟩
theorem yk_6 : q_okY 6 := ⟨plainFor_of_name (q_okY1 6 (by decide)), q_in _ cw_6 rfl, q_in _ (q_okY3 6 (by decide)) rfl, q_okY4 6 (by decide)⟩
theorem yk_7 : q_okY 7 := ⟨plainFor_of_name (q_okY1 7 (by decide)), q_in _ cw_7 rfl, q_in _ (q_okY3 7 (by decide)) rfl, q_okY4 7 (by decide)⟩
theorem yk_8 : q_okY 8 := ⟨plainFor_of_name (q_okY1 8 (by decide)), q_in _ cw_8 rfl, q_in _ (q_okY3 8 (by decide)) rfl, q_okY4 8 (by decide)⟩
theorem yk_9 : q_okY 9 := ⟨plainFor_of_name (q_okY1 9 (by decide)), q_in _ cw_9 rfl, q_in _ (q_okY3 9 (by decide)) rfl, q_okY4 9 (by decide)⟩
theorem yk_10 : q_okY 10 := ⟨plainFor_of_name (q_okY1 10 (by decide)), q_in _ cw_10 rfl, q_in _ (q_okY3 10 (by decide)) rfl, q_okY4 10 (by decide)⟩
theorem yk_11 : q_okY 11 := ⟨plainFor_of_name (q_okY1 11 (by decide)), q_in _ cw_11 rfl, q_in _ (q_okY3 11 (by decide)) rfl, q_okY4 11 (by decide)⟩
theorem yk_12 : q_okY 12 := ⟨plainFor_of_name (q_okY1 12 (by decide)), q_in _ cw_12 rfl, q_in _ (q_okY3 12 (by decide)) rfl, q_okY4 12 (by decide)⟩
theorem yk_13 : q_okY 13 := ⟨plainFor_of_name (q_okY1 13 (by decide)), q_in _ cw_13 rfl, q_in _ (q_okY3 13 (by decide)) rfl, q_okY4 13 (by decide)⟩
theorem yk_14 : q_okY 14 := ⟨plainFor_of_name (q_okY1 14 (by decide)), q_in _ cw_14 rfl, q_in _ (q_okY3 14 (by decide)) rfl, q_okY4 14 (by decide)⟩
theorem yk_15 : q_okY 15 := ⟨plainFor_of_name (q_okY1 15 (by decide)), q_in _ cw_15 rfl, q_in _ (q_okY3 15 (by decide)) rfl, q_okY4 15 (by decide)⟩
theorem yk_16 : q_okY 16 := ⟨plainFor_of_name (q_okY1 16 (by decide)), q_in _ cw_16 rfl, q_in _ (q_okY3 16 (by decide)) rfl, q_okY4 16 (by decide)⟩
theorem yk_17 : q_okY 17 := ⟨plainFor_of_name (q_okY1 17 (by decide)), q_in _ cw_17 rfl, q_in _ (q_okY3 17 (by decide)) rfl, q_okY4 17 (by decide)⟩
theorem yk_18 : q_okY 18 := ⟨plainFor_of_name (q_okY1 18 (by decide)), q_in _ cw_18 rfl, q_in _ (q_okY3 18 (by decide)) rfl, q_okY4 18 (by decide)⟩
theorem yk_19 : q_okY 19 := ⟨plainFor_of_name (q_okY1 19 (by decide)), q_in _ cw_19 rfl, q_in _ (q_okY3 19 (by decide)) rfl, q_okY4 19 (by decide)⟩
theorem yk_20 : q_okY 20 := ⟨plainFor_of_name (q_okY1 20 (by decide)), q_in _ cw_20 rfl, q_in _ (q_okY3 20 (by decide)) rfl, q_okY4 20 (by decide)⟩
theorem yk_21 : q_okY 21 := ⟨plainFor_of_name (q_okY1 21 (by decide)), q_in _ cw_21 rfl, q_in _ (q_okY3 21 (by decide)) rfl, q_okY4 21 (by decide)⟩
theorem yk_22 : q_okY 22 := ⟨plainFor_of_name (q_okY1 22 (by decide)), q_in _ cw_22 rfl, q_in _ (q_okY3 22 (by decide)) rfl, q_okY4 22 (by decide)⟩
theorem yk_23 : q_okY 23 := ⟨plainFor_of_name (q_okY1 23 (by decide)), q_in _ cw_23 rfl, q_in _ (q_okY3 23 (by decide)) rfl, q_okY4 23 (by decide)⟩
theorem yk_24 : q_okY 24 := ⟨plainFor_of_name (q_okY1 24 (by decide)), q_in _ cw_24 rfl, q_in _ (q_okY3 24 (by decide)) rfl, q_okY4 24 (by decide)⟩
theorem yk_25 : q_okY 25 := ⟨plainFor_of_name (q_okY1 25 (by decide)), q_in _ cw_25 rfl, q_in _ (q_okY3 25 (by decide)) rfl, q_okY4 25 (by decide)⟩
theorem yk_26 : q_okY 26 := ⟨plainFor_of_name (q_okY1 26 (by decide)), q_in _ cw_26 rfl, q_in _ (q_okY3 26 (by decide)) rfl, q_okY4 26 (by decide)⟩
theorem yk_27 : q_okY 27 := ⟨plainFor_of_name (q_okY1 27 (by decide)), q_in _ cw_27 rfl, q_in _ (q_okY3 27 (by decide)) rfl, q_okY4 27 (by decide)⟩
theorem yk_28 : q_okY 28 := ⟨plainFor_of_name (q_okY1 28 (by decide)), q_in _ cw_28 rfl, q_in _ (q_okY3 28 (by decide)) rfl, q_okY4 28 (by decide)⟩
theorem yk_29 : q_okY 29 := ⟨plainFor_of_name (q_okY1 29 (by decide)), q_in _ cw_29 rfl, q_in _ (q_okY3 29 (by decide)) rfl, q_okY4 29 (by decide)⟩
theorem yk_30 : q_okY 30 := ⟨plainFor_of_name (q_okY1 30 (by decide)), q_in _ cw_30 rfl, q_in _ (q_okY3 30 (by decide)) rfl, q_okY4 30 (by decide)⟩
theorem yk_31 : q_okY 31 := ⟨plainFor_of_name (q_okY1 31 (by decide)), q_in _ cw_31 rfl, q_in _ (q_okY3 31 (by decide)) rfl, q_okY4 31 (by decide)⟩
theorem yk_32 : q_okY 32 := ⟨plainFor_of_name (q_okY1 32 (by decide)), q_in _ cw_32 rfl, q_in _ (q_okY3 32 (by decide)) rfl, q_okY4 32 (by decide)⟩
theorem yk_33 : q_okY 33 := ⟨plainFor_of_name (q_okY1 33 (by decide)), q_in _ cw_33 rfl, q_in _ (q_okY3 33 (by decide)) rfl, q_okY4 33 (by decide)⟩
theorem yk_34 : q_okY 34 := ⟨plainFor_of_name (q_okY1 34 (by decide)), q_in _ cw_34 rfl, q_in _ (q_okY3 34 (by decide)) rfl, q_okY4 34 (by decide)⟩
theorem yk_35 : q_okY 35 := ⟨plainFor_of_name (q_okY1 35 (by decide)), q_in _ cw_35 rfl, q_in _ (q_okY3 35 (by decide)) rfl, q_okY4 35 (by decide)⟩
theorem yk_36 : q_okY 36 := ⟨plainFor_of_name (q_okY1 36 (by decide)), q_in _ cw_36 rfl, q_in _ (q_okY3 36 (by decide)) rfl, q_okY4 36 (by decide)⟩
theorem yk_37 : q_okY 37 := ⟨plainFor_of_name (q_okY1 37 (by decide)), q_in _ cw_37 rfl, q_in _ (q_okY3 37 (by decide)) rfl, q_okY4 37 (by decide)⟩
theorem yk_38 : q_okY 38 := ⟨plainFor_of_name (q_okY1 38 (by decide)), q_in _ cw_38 rfl, q_in _ (q_okY3 38 (by decide)) rfl, q_okY4 38 (by decide)⟩
theorem yk_39 : q_okY 39 := ⟨plainFor_of_name (q_okY1 39 (by decide)), q_in _ cw_39 rfl, q_in _ (q_okY3 39 (by decide)) rfl, q_okY4 39 (by decide)⟩
theorem yk_40 : q_okY 40 := ⟨plainFor_of_name (q_okY1 40 (by decide)), q_in _ cw_40 rfl, q_in _ (q_okY3 40 (by decide)) rfl, q_okY4 40 (by decide)⟩
theorem yk_41 : q_okY 41 := ⟨plainFor_of_name (q_okY1 41 (by decide)), q_in _ cw_41 rfl, q_in _ (q_okY3 41 (by decide)) rfl, q_okY4 41 (by decide)⟩
theorem yk_42 : q_okY 42 := ⟨plainFor_of_name (q_okY1 42 (by decide)), q_in _ cw_42 rfl, q_in _ (q_okY3 42 (by decide)) rfl, q_okY4 42 (by decide)⟩
theorem yk_43 : q_okY 43 := ⟨plainFor_of_name (q_okY1 43 (by decide)), q_in _ cw_43 rfl, q_in _ (q_okY3 43 (by decide)) rfl, q_okY4 43 (by decide)⟩
theorem yk_44 : q_okY 44 := ⟨plainFor_of_name (q_okY1 44 (by decide)), q_in _ cw_44 rfl, q_in _ (q_okY3 44 (by decide)) rfl, q_okY4 44 (by decide)⟩
theorem yk_45 : q_okY 45 := ⟨plainFor_of_name (q_okY1 45 (by decide)), q_in _ cw_45 rfl, q_in _ (q_okY3 45 (by decide)) rfl, q_okY4 45 (by decide)⟩
theorem yk_46 : q_okY 46 := ⟨plainFor_of_name (q_okY1 46 (by decide)), q_in _ cw_46 rfl, q_in _ (q_okY3 46 (by decide)) rfl, q_okY4 46 (by decide)⟩
theorem yk_47 : q_okY 47 := ⟨plainFor_of_name (q_okY1 47 (by decide)), q_in _ cw_47 rfl, q_in _ (q_okY3 47 (by decide)) rfl, q_okY4 47 (by decide)⟩
theorem yk_48 : q_okY 48 := ⟨plainFor_of_name (q_okY1 48 (by decide)), q_in _ cw_48 rfl, q_in _ (q_okY3 48 (by decide)) rfl, q_okY4 48 (by decide)⟩
theorem yk_49 : q_okY 49 := ⟨plainFor_of_name (q_okY1 49 (by decide)), q_in _ cw_49 rfl, q_in _ (q_okY3 49 (by decide)) rfl, q_okY4 49 (by decide)⟩
theorem yk_50 : q_okY 50 := ⟨plainFor_of_name (q_okY1 50 (by decide)), q_in _ cw_50 rfl, q_in _ (q_okY3 50 (by decide)) rfl, q_okY4 50 (by decide)⟩
theorem yk_51 : q_okY 51 := ⟨plainFor_of_name (q_okY1 51 (by decide)), q_in _ cw_51 rfl, q_in _ (q_okY3 51 (by decide)) rfl, q_okY4 51 (by decide)⟩
theorem yk_52 : q_okY 52 := ⟨plainFor_of_name (q_okY1 52 (by decide)), q_in _ cw_52 rfl, q_in _ (q_okY3 52 (by decide)) rfl, q_okY4 52 (by decide)⟩
theorem yk_53 : q_okY 53 := ⟨plainFor_of_name (q_okY1 53 (by decide)), q_in _ cw_53 rfl, q_in _ (q_okY3 53 (by decide)) rfl, q_okY4 53 (by decide)⟩
theorem yk_54 : q_okY 54 := ⟨plainFor_of_name (q_okY1 54 (by decide)), q_in _ cw_54 rfl, q_in _ (q_okY3 54 (by decide)) rfl, q_okY4 54 (by decide)⟩
theorem yk_55 : q_okY 55 := ⟨plainFor_of_name (q_okY1 55 (by decide)), q_in _ cw_55 rfl, q_in _ (q_okY3 55 (by decide)) rfl, q_okY4 55 (by decide)⟩
theorem yk_56 : q_okY 56 := ⟨plainFor_of_name (q_okY1 56 (by decide)), q_in _ cw_56 rfl, q_in _ (q_okY3 56 (by decide)) rfl, q_okY4 56 (by decide)⟩
theorem yk_57 : q_okY 57 := ⟨plainFor_of_name (q_okY1 57 (by decide)), q_in _ cw_57 rfl, q_in _ (q_okY3 57 (by decide)) rfl, q_okY4 57 (by decide)⟩
theorem yk_58 : q_okY 58 := ⟨plainFor_of_name (q_okY1 58 (by decide)), q_in _ cw_58 rfl, q_in _ (q_okY3 58 (by decide)) rfl, q_okY4 58 (by decide)⟩
theorem yk_59 : q_okY 59 := ⟨plainFor_of_name (q_okY1 59 (by decide)), q_in _ cw_59 rfl, q_in _ (q_okY3 59 (by decide)) rfl, q_okY4 59 (by decide)⟩
theorem yk_60 : q_okY 60 := ⟨plainFor_of_name (q_okY1 60 (by decide)), q_in _ cw_60 rfl, q_in _ (q_okY3 60 (by decide)) rfl, q_okY4 60 (by decide)⟩
theorem yk_61 : q_okY 61 := ⟨plainFor_of_name (q_okY1 61 (by decide)), q_in _ cw_61 rfl, q_in _ (q_okY3 61 (by decide)) rfl, q_okY4 61 (by decide)⟩
theorem yk_62 : q_okY 62 := ⟨plainFor_of_name (q_okY1 62 (by decide)), q_in _ cw_62 rfl, q_in _ (q_okY3 62 (by decide)) rfl, q_okY4 62 (by decide)⟩
theorem yk_63 : q_okY 63 := ⟨plainFor_of_name (q_okY1 63 (by decide)), q_in _ cw_63 rfl, q_in _ (q_okY3 63 (by decide)) rfl, q_okY4 63 (by decide)⟩
theorem yk_64 : q_okY 64 := ⟨plainFor_of_name (q_okY1 64 (by decide)), q_in _ cw_64 rfl, q_in _ (q_okY3 64 (by decide)) rfl, q_okY4 64 (by decide)⟩
theorem yk_65 : q_okY 65 := ⟨plainFor_of_name (q_okY1 65 (by decide)), q_in _ cw_65 rfl, q_in _ (q_okY3 65 (by decide)) rfl, q_okY4 65 (by decide)⟩
theorem yk_66 : q_okY 66 := ⟨plainFor_of_name (q_okY1 66 (by decide)), q_in _ cw_66 rfl, q_in _ (q_okY3 66 (by decide)) rfl, q_okY4 66 (by decide)⟩
theorem yk_67 : q_okY 67 := ⟨plainFor_of_name (q_okY1 67 (by decide)), q_in _ cw_67 rfl, q_in _ (q_okY3 67 (by decide)) rfl, q_okY4 67 (by decide)⟩
theorem yk_68 : q_okY 68 := ⟨plainFor_of_name (q_okY1 68 (by decide)), q_in _ cw_68 rfl, q_in _ (q_okY3 68 (by decide)) rfl, q_okY4 68 (by decide)⟩
theorem yk_69 : q_okY 69 := ⟨plainFor_of_name (q_okY1 69 (by decide)), q_in _ cw_69 rfl, q_in _ (q_okY3 69 (by decide)) rfl, q_okY4 69 (by decide)⟩
theorem yk_70 : q_okY 70 := ⟨plainFor_of_name (q_okY1 70 (by decide)), q_in _ cw_70 rfl, q_in _ (q_okY3 70 (by decide)) rfl, q_okY4 70 (by decide)⟩
theorem yk_71 : q_okY 71 := ⟨plainFor_of_name (q_okY1 71 (by decide)), q_in _ cw_71 rfl, q_in _ (q_okY3 71 (by decide)) rfl, q_okY4 71 (by decide)⟩
theorem yk_72 : q_okY 72 := ⟨plainFor_of_name (q_okY1 72 (by decide)), q_in _ cw_72 rfl, q_in _ (q_okY3 72 (by decide)) rfl, q_okY4 72 (by decide)⟩
theorem yk_73 : q_okY 73 := ⟨plainFor_of_name (q_okY1 73 (by decide)), q_in _ cw_73 rfl, q_in _ (q_okY3 73 (by decide)) rfl, q_okY4 73 (by decide)⟩
theorem yk_74 : q_okY 74 := ⟨plainFor_of_name (q_okY1 74 (by decide)), q_in _ cw_74 rfl, q_in _ (q_okY3 74 (by decide)) rfl, q_okY4 74 (by decide)⟩
theorem yk_75 : q_okY 75 := ⟨plainFor_of_name (q_okY1 75 (by decide)), q_in _ cw_75 rfl, q_in _ (q_okY3 75 (by decide)) rfl, q_okY4 75 (by decide)⟩
theorem yk_76 : q_okY 76 := ⟨plainFor_of_name (q_okY1 76 (by decide)), q_in _ cw_76 rfl, q_in _ (q_okY3 76 (by decide)) rfl, q_okY4 76 (by decide)⟩
theorem yk_77 : q_okY 77 := ⟨plainFor_of_name (q_okY1 77 (by decide)), q_in _ cw_77 rfl, q_in _ (q_okY3 77 (by decide)) rfl, q_okY4 77 (by decide)⟩
theorem yk_78 : q_okY 78 := ⟨plainFor_of_name (q_okY1 78 (by decide)), q_in _ cw_78 rfl, q_in _ (q_okY3 78 (by decide)) rfl, q_okY4 78 (by decide)⟩
theorem yk_79 : q_okY 79 := ⟨plainFor_of_name (q_okY1 79 (by decide)), q_in _ cw_79 rfl, q_in _ (q_okY3 79 (by decide)) rfl, q_okY4 79 (by decide)⟩
theorem yk_80 : q_okY 80 := ⟨plainFor_of_name (q_okY1 80 (by decide)), q_in _ cw_80 rfl, q_in _ (q_okY3 80 (by decide)) rfl, q_okY4 80 (by decide)⟩
theorem yk_81 : q_okY 81 := ⟨plainFor_of_name (q_okY1 81 (by decide)), q_in _ cw_81 rfl, q_in _ (q_okY3 81 (by decide)) rfl, q_okY4 81 (by decide)⟩
theorem yk_82 : q_okY 82 := ⟨plainFor_of_name (q_okY1 82 (by decide)), q_in _ cw_82 rfl, q_in _ (q_okY3 82 (by decide)) rfl, q_okY4 82 (by decide)⟩
theorem yk_83 : q_okY 83 := ⟨plainFor_of_name (q_okY1 83 (by decide)), q_in _ cw_83 rfl, q_in _ (q_okY3 83 (by decide)) rfl, q_okY4 83 (by decide)⟩
theorem yk_84 : q_okY 84 := ⟨plainFor_of_name (q_okY1 84 (by decide)), q_in _ cw_84 rfl, q_in _ (q_okY3 84 (by decide)) rfl, q_okY4 84 (by decide)⟩
theorem yk_85 : q_okY 85 := ⟨plainFor_of_name (q_okY1 85 (by decide)), q_in _ cw_85 rfl, q_in _ (q_okY3 85 (by decide)) rfl, q_okY4 85 (by decide)⟩
theorem yk_86 : q_okY 86 := ⟨plainFor_of_name (q_okY1 86 (by decide)), q_in _ cw_86 rfl, q_in _ (q_okY3 86 (by decide)) rfl, q_okY4 86 (by decide)⟩
theorem yk_87 : q_okY 87 := ⟨plainFor_of_name (q_okY1 87 (by decide)), q_in _ cw_87 rfl, q_in _ (q_okY3 87 (by decide)) rfl, q_okY4 87 (by decide)⟩
theorem yk_88 : q_okY 88 := ⟨plainFor_of_name (q_okY1 88 (by decide)), q_in _ cw_88 rfl, q_in _ (q_okY3 88 (by decide)) rfl, q_okY4 88 (by decide)⟩
theorem yk_89 : q_okY 89 := ⟨plainFor_of_name (q_okY1 89 (by decide)), q_in _ cw_89 rfl, q_in _ (q_okY3 89 (by decide)) rfl, q_okY4 89 (by decide)⟩
theorem yk_90 : q_okY 90 := ⟨plainFor_of_name (q_okY1 90 (by decide)), q_in _ cw_90 rfl, q_in _ (q_okY3 90 (by decide)) rfl, q_okY4 90 (by decide)⟩
theorem yk_91 : q_okY 91 := ⟨plainFor_of_name (q_okY1 91 (by decide)), q_in _ cw_91 rfl, q_in _ (q_okY3 91 (by decide)) rfl, q_okY4 91 (by decide)⟩
theorem yk_92 : q_okY 92 := ⟨plainFor_of_name (q_okY1 92 (by decide)), q_in _ cw_92 rfl, q_in _ (q_okY3 92 (by decide)) rfl, q_okY4 92 (by decide)⟩
theorem yk_93 : q_okY 93 := ⟨plainFor_of_name (q_okY1 93 (by decide)), q_in _ cw_93 rfl, q_in _ (q_okY3 93 (by decide)) rfl, q_okY4 93 (by decide)⟩
theorem yk_94 : q_okY 94 := ⟨plainFor_of_name (q_okY1 94 (by decide)), q_in _ cw_94 rfl, q_in _ (q_okY3 94 (by decide)) rfl, q_okY4 94 (by decide)⟩
theorem yk_95 : q_okY 95 := ⟨plainFor_of_name (q_okY1 95 (by decide)), q_in _ cw_95 rfl, q_in _ (q_okY3 95 (by decide)) rfl, q_okY4 95 (by decide)⟩
theorem yk_96 : q_okY 96 := ⟨plainFor_of_name (q_okY1 96 (by decide)), q_in _ cw_96 rfl, q_in _ (q_okY3 96 (by decide)) rfl, q_okY4 96 (by decide)⟩
theorem yk_97 : q_okY 97 := ⟨plainFor_of_name (q_okY1 97 (by decide)), q_in _ cw_97 rfl, q_in _ (q_okY3 97 (by decide)) rfl, q_okY4 97 (by decide)⟩
theorem yk_98 : q_okY 98 := ⟨plainFor_of_name (q_okY1 98 (by decide)), q_in _ cw_98 rfl, q_in _ (q_okY3 98 (by decide)) rfl, q_okY4 98 (by decide)⟩
theorem yk_99 : q_okY 99 := ⟨plainFor_of_name (q_okY1 99 (by decide)), q_in _ cw_99 rfl, q_in _ (q_okY3 99 (by decide)) rfl, q_okY4 99 (by decide)⟩
theorem yk_100 : q_okY 100 := ⟨plainFor_of_name (q_okY1 100 (by decide)), q_in _ cw_100 rfl, q_in _ (q_okY3 100 (by decide)) rfl, q_okY4 100 (by decide)⟩
theorem yk_101 : q_okY 101 := ⟨plainFor_of_name (q_okY1 101 (by decide)), q_in _ cw_101 rfl, q_in _ (q_okY3 101 (by decide)) rfl, q_okY4 101 (by decide)⟩
theorem yk_102 : q_okY 102 := ⟨plainFor_of_name (q_okY1 102 (by decide)), q_in _ cw_102 rfl, q_in _ (q_okY3 102 (by decide)) rfl, q_okY4 102 (by decide)⟩
theorem yk_103 : q_okY 103 := ⟨plainFor_of_name (q_okY1 103 (by decide)), q_in _ cw_103 rfl, q_in _ (q_okY3 103 (by decide)) rfl, q_okY4 103 (by decide)⟩
theorem yk_104 : q_okY 104 := ⟨plainFor_of_name (q_okY1 104 (by decide)), q_in _ cw_104 rfl, q_in _ (q_okY3 104 (by decide)) rfl, q_okY4 104 (by decide)⟩
theorem yk_105 : q_okY 105 := ⟨plainFor_of_name (q_okY1 105 (by decide)), q_in _ cw_105 rfl, q_in _ (q_okY3 105 (by decide)) rfl, q_okY4 105 (by decide)⟩
theorem yk_106 : q_okY 106 := ⟨plainFor_of_name (q_okY1 106 (by decide)), q_in _ cw_106 rfl, q_in _ (q_okY3 106 (by decide)) rfl, q_okY4 106 (by decide)⟩
theorem yk_107 : q_okY 107 := ⟨plainFor_of_name (q_okY1 107 (by decide)), q_in _ cw_107 rfl, q_in _ (q_okY3 107 (by decide)) rfl, q_okY4 107 (by decide)⟩
theorem yk_108 : q_okY 108 := ⟨plainFor_of_name (q_okY1 108 (by decide)), q_in _ cw_108 rfl, q_in _ (q_okY3 108 (by decide)) rfl, q_okY4 108 (by decide)⟩
theorem yk_109 : q_okY 109 := ⟨plainFor_of_name (q_okY1 109 (by decide)), q_in _ cw_109 rfl, q_in _ (q_okY3 109 (by decide)) rfl, q_okY4 109 (by decide)⟩
theorem yk_110 : q_okY 110 := ⟨plainFor_of_name (q_okY1 110 (by decide)), q_in _ cw_110 rfl, q_in _ (q_okY3 110 (by decide)) rfl, q_okY4 110 (by decide)⟩
theorem yk_111 : q_okY 111 := ⟨plainFor_of_name (q_okY1 111 (by decide)), q_in _ cw_111 rfl, q_in _ (q_okY3 111 (by decide)) rfl, q_okY4 111 (by decide)⟩
theorem yk_112 : q_okY 112 := ⟨plainFor_of_name (q_okY1 112 (by decide)), q_in _ cw_112 rfl, q_in _ (q_okY3 112 (by decide)) rfl, q_okY4 112 (by decide)⟩
theorem yk_113 : q_okY 113 := ⟨plainFor_of_name (q_okY1 113 (by decide)), q_in _ cw_113 rfl, q_in _ (q_okY3 113 (by decide)) rfl, q_okY4 113 (by decide)⟩
theorem yk_114 : q_okY 114 := ⟨plainFor_of_name (q_okY1 114 (by decide)), q_in _ cw_114 rfl, q_in _ (q_okY3 114 (by decide)) rfl, q_okY4 114 (by decide)⟩
theorem yk_115 : q_okY 115 := ⟨plainFor_of_name (q_okY1 115 (by decide)), q_in _ cw_115 rfl, q_in _ (q_okY3 115 (by decide)) rfl, q_okY4 115 (by decide)⟩
theorem yk_116 : q_okY 116 := ⟨plainFor_of_name (q_okY1 116 (by decide)), q_in _ cw_116 rfl, q_in _ (q_okY3 116 (by decide)) rfl, q_okY4 116 (by decide)⟩
theorem yk_117 : q_okY 117 := ⟨plainFor_of_name (q_okY1 117 (by decide)), q_in _ cw_117 rfl, q_in _ (q_okY3 117 (by decide)) rfl, q_okY4 117 (by decide)⟩
theorem yk_118 : q_okY 118 := ⟨plainFor_of_name (q_okY1 118 (by decide)), q_in _ cw_118 rfl, q_in _ (q_okY3 118 (by decide)) rfl, q_okY4 118 (by decide)⟩
theorem yk_119 : q_okY 119 := ⟨plainFor_of_name (q_okY1 119 (by decide)), q_in _ cw_119 rfl, q_in _ (q_okY3 119 (by decide)) rfl, q_okY4 119 (by decide)⟩
theorem yk_120 : q_okY 120 := ⟨plainFor_of_name (q_okY1 120 (by decide)), q_in _ cw_120 rfl, q_in _ (q_okY3 120 (by decide)) rfl, q_okY4 120 (by decide)⟩
theorem yk_121 : q_okY 121 := ⟨plainFor_of_name (q_okY1 121 (by decide)), q_in _ cw_121 rfl, q_in _ (q_okY3 121 (by decide)) rfl, q_okY4 121 (by decide)⟩
theorem yk_122 : q_okY 122 := ⟨plainFor_of_name (q_okY1 122 (by decide)), q_in _ cw_122 rfl, q_in _ (q_okY3 122 (by decide)) rfl, q_okY4 122 (by decide)⟩
theorem yk_123 : q_okY 123 := ⟨plainFor_of_name (q_okY1 123 (by decide)), q_in _ cw_123 rfl, q_in _ (q_okY3 123 (by decide)) rfl, q_okY4 123 (by decide)⟩
theorem yk_124 : q_okY 124 := ⟨plainFor_of_name (q_okY1 124 (by decide)), q_in _ cw_124 rfl, q_in _ (q_okY3 124 (by decide)) rfl, q_okY4 124 (by decide)⟩
theorem yk_125 : q_okY 125 := ⟨plainFor_of_name (q_okY1 125 (by decide)), q_in _ cw_125 rfl, q_in _ (q_okY3 125 (by decide)) rfl, q_okY4 125 (by decide)⟩
theorem yk_126 : q_okY 126 := ⟨plainFor_of_name (q_okY1 126 (by decide)), q_in _ cw_126 rfl, q_in _ (q_okY3 126 (by decide)) rfl, q_okY4 126 (by decide)⟩
theorem yk_127 : q_okY 127 := ⟨plainFor_of_name (q_okY1 127 (by decide)), q_in _ cw_127 rfl, q_in _ (q_okY3 127 (by decide)) rfl, q_okY4 127 (by decide)⟩
theorem yk_128 : q_okY 128 := ⟨plainFor_of_name (q_okY1 128 (by decide)), q_in _ cw_128 rfl, q_in _ (q_okY3 128 (by decide)) rfl, q_okY4 128 (by decide)⟩
theorem yk_129 : q_okY 129 := ⟨plainFor_of_name (q_okY1 129 (by decide)), q_in _ cw_129 rfl, q_in _ (q_okY3 129 (by decide)) rfl, q_okY4 129 (by decide)⟩
theorem yk_130 : q_okY 130 := ⟨plainFor_of_name (q_okY1 130 (by decide)), q_in _ cw_130 rfl, q_in _ (q_okY3 130 (by decide)) rfl, q_okY4 130 (by decide)⟩
theorem yk_131 : q_okY 131 := ⟨plainFor_of_name (q_okY1 131 (by decide)), q_in _ cw_131 rfl, q_in _ (q_okY3 131 (by decide)) rfl, q_okY4 131 (by decide)⟩
theorem yk_132 : q_okY 132 := ⟨plainFor_of_name (q_okY1 132 (by decide)), q_in _ cw_132 rfl, q_in _ (q_okY3 132 (by decide)) rfl, q_okY4 132 (by decide)⟩
theorem yk_133 : q_okY 133 := ⟨plainFor_of_name (q_okY1 133 (by decide)), q_in _ cw_133 rfl, q_in _ (q_okY3 133 (by decide)) rfl, q_okY4 133 (by decide)⟩
theorem yk_134 : q_okY 134 := ⟨plainFor_of_name (q_okY1 134 (by decide)), q_in _ cw_134 rfl, q_in _ (q_okY3 134 (by decide)) rfl, q_okY4 134 (by decide)⟩
theorem yk_135 : q_okY 135 := ⟨plainFor_of_name (q_okY1 135 (by decide)), q_in _ cw_135 rfl, q_in _ (q_okY3 135 (by decide)) rfl, q_okY4 135 (by decide)⟩
theorem yk_136 : q_okY 136 := ⟨plainFor_of_name (q_okY1 136 (by decide)), q_in _ cw_136 rfl, q_in _ (q_okY3 136 (by decide)) rfl, q_okY4 136 (by decide)⟩
theorem yk_137 : q_okY 137 := ⟨plainFor_of_name (q_okY1 137 (by decide)), q_in _ cw_137 rfl, q_in _ (q_okY3 137 (by decide)) rfl, q_okY4 137 (by decide)⟩
theorem yk_138 : q_okY 138 := ⟨plainFor_of_name (q_okY1 138 (by decide)), q_in _ cw_138 rfl, q_in _ (q_okY3 138 (by decide)) rfl, q_okY4 138 (by decide)⟩
theorem yk_139 : q_okY 139 := ⟨plainFor_of_name (q_okY1 139 (by decide)), q_in _ cw_139 rfl, q_in _ (q_okY3 139 (by decide)) rfl, q_okY4 139 (by decide)⟩
theorem yk_140 : q_okY 140 := ⟨plainFor_of_name (q_okY1 140 (by decide)), q_in _ cw_140 rfl, q_in _ (q_okY3 140 (by decide)) rfl, q_okY4 140 (by decide)⟩
theorem yk_141 : q_okY 141 := ⟨plainFor_of_name (q_okY1 141 (by decide)), q_in _ cw_141 rfl, q_in _ (q_okY3 141 (by decide)) rfl, q_okY4 141 (by decide)⟩
theorem yk_142 : q_okY 142 := ⟨plainFor_of_name (q_okY1 142 (by decide)), q_in _ cw_142 rfl, q_in _ (q_okY3 142 (by decide)) rfl, q_okY4 142 (by decide)⟩
theorem yk_143 : q_okY 143 := ⟨plainFor_of_name (q_okY1 143 (by decide)), q_in _ cw_143 rfl, q_in _ (q_okY3 143 (by decide)) rfl, q_okY4 143 (by decide)⟩
theorem yk_144 : q_okY 144 := ⟨plainFor_of_name (q_okY1 144 (by decide)), q_in _ cw_144 rfl, q_in _ (q_okY3 144 (by decide)) rfl, q_okY4 144 (by decide)⟩
theorem yk_145 : q_okY 145 := ⟨plainFor_of_name (q_okY1 145 (by decide)), q_in _ cw_145 rfl, q_in _ (q_okY3 145 (by decide)) rfl, q_okY4 145 (by decide)⟩
theorem yk_146 : q_okY 146 := ⟨plainFor_of_name (q_okY1 146 (by decide)), q_in _ cw_146 rfl, q_in _ (q_okY3 146 (by decide)) rfl, q_okY4 146 (by decide)⟩
theorem yk_147 : q_okY 147 := ⟨plainFor_of_name (q_okY1 147 (by decide)), q_in _ cw_147 rfl, q_in _ (q_okY3 147 (by decide)) rfl, q_okY4 147 (by decide)⟩
theorem yk_148 : q_okY 148 := ⟨plainFor_of_name (q_okY1 148 (by decide)), q_in _ cw_148 rfl, q_in _ (q_okY3 148 (by decide)) rfl, q_okY4 148 (by decide)⟩
theorem yk_149 : q_okY 149 := ⟨plainFor_of_name (q_okY1 149 (by decide)), q_in _ cw_149 rfl, q_in _ (q_okY3 149 (by decide)) rfl, q_okY4 149 (by decide)⟩
theorem yk_150 : q_okY 150 := ⟨plainFor_of_name (q_okY1 150 (by decide)), q_in _ cw_150 rfl, q_in _ (q_okY3 150 (by decide)) rfl, q_okY4 150 (by decide)⟩
theorem yk_151 : q_okY 151 := ⟨plainFor_of_name (q_okY1 151 (by decide)), q_in _ cw_151 rfl, q_in _ (q_okY3 151 (by decide)) rfl, q_okY4 151 (by decide)⟩
theorem yk_152 : q_okY 152 := ⟨plainFor_of_name (q_okY1 152 (by decide)), q_in _ cw_152 rfl, q_in _ (q_okY3 152 (by decide)) rfl, q_okY4 152 (by decide)⟩
theorem yk_153 : q_okY 153 := ⟨plainFor_of_name (q_okY1 153 (by decide)), q_in _ cw_153 rfl, q_in _ (q_okY3 153 (by decide)) rfl, q_okY4 153 (by decide)⟩
theorem yk_154 : q_okY 154 := ⟨plainFor_of_name (q_okY1 154 (by decide)), q_in _ cw_154 rfl, q_in _ (q_okY3 154 (by decide)) rfl, q_okY4 154 (by decide)⟩
theorem yk_155 : q_okY 155 := ⟨plainFor_of_name (q_okY1 155 (by decide)), q_in _ cw_155 rfl, q_in _ (q_okY3 155 (by decide)) rfl, q_okY4 155 (by decide)⟩
theorem yk_156 : q_okY 156 := ⟨plainFor_of_name (q_okY1 156 (by decide)), q_in _ cw_156 rfl, q_in _ (q_okY3 156 (by decide)) rfl, q_okY4 156 (by decide)⟩
theorem yk_157 : q_okY 157 := ⟨plainFor_of_name (q_okY1 157 (by decide)), q_in _ cw_157 rfl, q_in _ (q_okY3 157 (by decide)) rfl, q_okY4 157 (by decide)⟩
theorem yk_158 : q_okY 158 := ⟨plainFor_of_name (q_okY1 158 (by decide)), q_in _ cw_158 rfl, q_in _ (q_okY3 158 (by decide)) rfl, q_okY4 158 (by decide)⟩
theorem yk_159 : q_okY 159 := ⟨plainFor_of_name (q_okY1 159 (by decide)), q_in _ cw_159 rfl, q_in _ (q_okY3 159 (by decide)) rfl, q_okY4 159 (by decide)⟩
theorem yk_160 : q_okY 160 := ⟨plainFor_of_name (q_okY1 160 (by decide)), q_in _ cw_160 rfl, q_in _ (q_okY3 160 (by decide)) rfl, q_okY4 160 (by decide)⟩
theorem yk_161 : q_okY 161 := ⟨plainFor_of_name (q_okY1 161 (by decide)), q_in _ cw_161 rfl, q_in _ (q_okY3 161 (by decide)) rfl, q_okY4 161 (by decide)⟩
theorem yk_162 : q_okY 162 := ⟨plainFor_of_name (q_okY1 162 (by decide)), q_in _ cw_162 rfl, q_in _ (q_okY3 162 (by decide)) rfl, q_okY4 162 (by decide)⟩
theorem yk_163 : q_okY 163 := ⟨plainFor_of_name (q_okY1 163 (by decide)), q_in _ cw_163 rfl, q_in _ (q_okY3 163 (by decide)) rfl, q_okY4 163 (by decide)⟩
theorem yk_164 : q_okY 164 := ⟨plainFor_of_name (q_okY1 164 (by decide)), q_in _ cw_164 rfl, q_in _ (q_okY3 164 (by decide)) rfl, q_okY4 164 (by decide)⟩
theorem yk_165 : q_okY 165 := ⟨plainFor_of_name (q_okY1 165 (by decide)), q_in _ cw_165 rfl, q_in _ (q_okY3 165 (by decide)) rfl, q_okY4 165 (by decide)⟩
theorem yk_166 : q_okY 166 := ⟨plainFor_of_name (q_okY1 166 (by decide)), q_in _ cw_166 rfl, q_in _ (q_okY3 166 (by decide)) rfl, q_okY4 166 (by decide)⟩
theorem yk_167 : q_okY 167 := ⟨plainFor_of_name (q_okY1 167 (by decide)), q_in _ cw_167 rfl, q_in _ (q_okY3 167 (by decide)) rfl, q_okY4 167 (by decide)⟩
theorem yk_168 : q_okY 168 := ⟨plainFor_of_name (q_okY1 168 (by decide)), q_in _ cw_168 rfl, q_in _ (q_okY3 168 (by decide)) rfl, q_okY4 168 (by decide)⟩
theorem yk_169 : q_okY 169 := ⟨plainFor_of_name (q_okY1 169 (by decide)), q_in _ cw_169 rfl, q_in _ (q_okY3 169 (by decide)) rfl, q_okY4 169 (by decide)⟩
theorem yk_170 : q_okY 170 := ⟨plainFor_of_name (q_okY1 170 (by decide)), q_in _ cw_170 rfl, q_in _ (q_okY3 170 (by decide)) rfl, q_okY4 170 (by decide)⟩
theorem yk_171 : q_okY 171 := ⟨plainFor_of_name (q_okY1 171 (by decide)), q_in _ cw_171 rfl, q_in _ (q_okY3 171 (by decide)) rfl, q_okY4 171 (by decide)⟩
theorem yk_172 : q_okY 172 := ⟨plainFor_of_name (q_okY1 172 (by decide)), q_in _ cw_172 rfl, q_in _ (q_okY3 172 (by decide)) rfl, q_okY4 172 (by decide)⟩
theorem yk_173 : q_okY 173 := ⟨plainFor_of_name (q_okY1 173 (by decide)), q_in _ cw_173 rfl, q_in _ (q_okY3 173 (by decide)) rfl, q_okY4 173 (by decide)⟩
theorem yk_174 : q_okY 174 := ⟨plainFor_of_name (q_okY1 174 (by decide)), q_in _ cw_174 rfl, q_in _ (q_okY3 174 (by decide)) rfl, q_okY4 174 (by decide)⟩
theorem yk_175 : q_okY 175 := ⟨plainFor_of_name (q_okY1 175 (by decide)), q_in _ cw_175 rfl, q_in _ (q_okY3 175 (by decide)) rfl, q_okY4 175 (by decide)⟩
theorem yk_176 : q_okY 176 := ⟨plainFor_of_name (q_okY1 176 (by decide)), q_in _ cw_176 rfl, q_in _ (q_okY3 176 (by decide)) rfl, q_okY4 176 (by decide)⟩
theorem yk_177 : q_okY 177 := ⟨plainFor_of_name (q_okY1 177 (by decide)), q_in _ cw_177 rfl, q_in _ (q_okY3 177 (by decide)) rfl, q_okY4 177 (by decide)⟩
theorem yk_178 : q_okY 178 := ⟨plainFor_of_name (q_okY1 178 (by decide)), q_in _ cw_178 rfl, q_in _ (q_okY3 178 (by decide)) rfl, q_okY4 178 (by decide)⟩
theorem yk_179 : q_okY 179 := ⟨plainFor_of_name (q_okY1 179 (by decide)), q_in _ cw_179 rfl, q_in _ (q_okY3 179 (by decide)) rfl, q_okY4 179 (by decide)⟩
theorem yk_180 : q_okY 180 := ⟨plainFor_of_name (q_okY1 180 (by decide)), q_in _ cw_180 rfl, q_in _ (q_okY3 180 (by decide)) rfl, q_okY4 180 (by decide)⟩
theorem yk_181 : q_okY 181 := ⟨plainFor_of_name (q_okY1 181 (by decide)), q_in _ cw_181 rfl, q_in _ (q_okY3 181 (by decide)) rfl, q_okY4 181 (by decide)⟩
theorem yk_182 : q_okY 182 := ⟨plainFor_of_name (q_okY1 182 (by decide)), q_in _ cw_182 rfl, q_in _ (q_okY3 182 (by decide)) rfl, q_okY4 182 (by decide)⟩
theorem yk_183 : q_okY 183 := ⟨plainFor_of_name (q_okY1 183 (by decide)), q_in _ cw_183 rfl, q_in _ (q_okY3 183 (by decide)) rfl, q_okY4 183 (by decide)⟩
theorem yk_184 : q_okY 184 := ⟨plainFor_of_name (q_okY1 184 (by decide)), q_in _ cw_184 rfl, q_in _ (q_okY3 184 (by decide)) rfl, q_okY4 184 (by decide)⟩
theorem yk_185 : q_okY 185 := ⟨plainFor_of_name (q_okY1 185 (by decide)), q_in _ cw_185 rfl, q_in _ (q_okY3 185 (by decide)) rfl, q_okY4 185 (by decide)⟩
theorem yk_186 : q_okY 186 := ⟨plainFor_of_name (q_okY1 186 (by decide)), q_in _ cw_186 rfl, q_in _ (q_okY3 186 (by decide)) rfl, q_okY4 186 (by decide)⟩
theorem yk_187 : q_okY 187 := ⟨plainFor_of_name (q_okY1 187 (by decide)), q_in _ cw_187 rfl, q_in _ (q_okY3 187 (by decide)) rfl, q_okY4 187 (by decide)⟩
theorem yk_188 : q_okY 188 := ⟨plainFor_of_name (q_okY1 188 (by decide)), q_in _ cw_188 rfl, q_in _ (q_okY3 188 (by decide)) rfl, q_okY4 188 (by decide)⟩
theorem yk_189 : q_okY 189 := ⟨plainFor_of_name (q_okY1 189 (by decide)), q_in _ cw_189 rfl, q_in _ (q_okY3 189 (by decide)) rfl, q_okY4 189 (by decide)⟩
theorem yk_190 : q_okY 190 := ⟨plainFor_of_name (q_okY1 190 (by decide)), q_in _ cw_190 rfl, q_in _ (q_okY3 190 (by decide)) rfl, q_okY4 190 (by decide)⟩
theorem yk_191 : q_okY 191 := ⟨plainFor_of_name (q_okY1 191 (by decide)), q_in _ cw_191 rfl, q_in _ (q_okY3 191 (by decide)) rfl, q_okY4 191 (by decide)⟩
theorem yk_192 : q_okY 192 := ⟨plainFor_of_name (q_okY1 192 (by decide)), q_in _ cw_192 rfl, q_in _ (q_okY3 192 (by decide)) rfl, q_okY4 192 (by decide)⟩
theorem yk_193 : q_okY 193 := ⟨plainFor_of_name (q_okY1 193 (by decide)), q_in _ cw_193 rfl, q_in _ (q_okY3 193 (by decide)) rfl, q_okY4 193 (by decide)⟩
theorem yk_194 : q_okY 194 := ⟨plainFor_of_name (q_okY1 194 (by decide)), q_in _ cw_194 rfl, q_in _ (q_okY3 194 (by decide)) rfl, q_okY4 194 (by decide)⟩
theorem yk_195 : q_okY 195 := ⟨plainFor_of_name (q_okY1 195 (by decide)), q_in _ cw_195 rfl, q_in _ (q_okY3 195 (by decide)) rfl, q_okY4 195 (by decide)⟩
theorem yk_196 : q_okY 196 := ⟨plainFor_of_name (q_okY1 196 (by decide)), q_in _ cw_196 rfl, q_in _ (q_okY3 196 (by decide)) rfl, q_okY4 196 (by decide)⟩
theorem yk_197 : q_okY 197 := ⟨plainFor_of_name (q_okY1 197 (by decide)), q_in _ cw_197 rfl, q_in _ (q_okY3 197 (by decide)) rfl, q_okY4 197 (by decide)⟩
theorem yk_198 : q_okY 198 := ⟨plainFor_of_name (q_okY1 198 (by decide)), q_in _ cw_198 rfl, q_in _ (q_okY3 198 (by decide)) rfl, q_okY4 198 (by decide)⟩
theorem yk_199 : q_okY 199 := ⟨plainFor_of_name (q_okY1 199 (by decide)), q_in _ cw_199 rfl, q_in _ (q_okY3 199 (by decide)) rfl, q_okY4 199 (by decide)⟩
theorem yk_200 : q_okY 200 := ⟨plainFor_of_name (q_okY1 200 (by decide)), q_in _ cw_200 rfl, q_in _ (q_okY3 200 (by decide)) rfl, q_okY4 200 (by decide)⟩
theorem yk_201 : q_okY 201 := ⟨plainFor_of_name (q_okY1 201 (by decide)), q_in _ cw_201 rfl, q_in _ (q_okY3 201 (by decide)) rfl, q_okY4 201 (by decide)⟩
theorem yk_202 : q_okY 202 := ⟨plainFor_of_name (q_okY1 202 (by decide)), q_in _ cw_202 rfl, q_in _ (q_okY3 202 (by decide)) rfl, q_okY4 202 (by decide)⟩
theorem yk_203 : q_okY 203 := ⟨plainFor_of_name (q_okY1 203 (by decide)), q_in _ cw_203 rfl, q_in _ (q_okY3 203 (by decide)) rfl, q_okY4 203 (by decide)⟩
theorem yk_204 : q_okY 204 := ⟨plainFor_of_name (q_okY1 204 (by decide)), q_in _ cw_204 rfl, q_in _ (q_okY3 204 (by decide)) rfl, q_okY4 204 (by decide)⟩
theorem yk_205 : q_okY 205 := ⟨plainFor_of_name (q_okY1 205 (by decide)), q_in _ cw_205 rfl, q_in _ (q_okY3 205 (by decide)) rfl, q_okY4 205 (by decide)⟩
theorem yk_206 : q_okY 206 := ⟨plainFor_of_name (q_okY1 206 (by decide)), q_in _ cw_206 rfl, q_in _ (q_okY3 206 (by decide)) rfl, q_okY4 206 (by decide)⟩
theorem yk_207 : q_okY 207 := ⟨plainFor_of_name (q_okY1 207 (by decide)), q_in _ cw_207 rfl, q_in _ (q_okY3 207 (by decide)) rfl, q_okY4 207 (by decide)⟩
theorem yk_208 : q_okY 208 := ⟨q_plainM (by decide +kernel) (by decide +kernel), q_in _ cw_208 rfl, q_in _ (q_okY3 208 (by decide)) rfl, q_okY4 208 (by decide)⟩
theorem yk_209 : q_okY 209 := ⟨q_plainM (by decide +kernel) (by decide +kernel), q_in _ cw_209 rfl, q_in _ (q_okY3 209 (by decide)) rfl, q_okY4 209 (by decide)⟩
theorem yk_210 : q_okY 210 := ⟨q_plainM (by decide +kernel) (by decide +kernel), q_in _ cw_210 rfl, q_in _ (q_okY3 210 (by decide)) rfl, q_okY4 210 (by decide)⟩
theorem q_okY_all : ∀ (y : Nat), y < 211 → q_okY y
  | 0, _ => yk_0
  | 1, _ => yk_1
  | 2, _ => yk_2
  | 3, _ => yk_3
  | 4, _ => yk_4
  | 5, _ => yk_5
  | 6, _ => yk_6
  | 7, _ => yk_7
  | 8, _ => yk_8
  | 9, _ => yk_9
  | 10, _ => yk_10
  | 11, _ => yk_11
  | 12, _ => yk_12
  | 13, _ => yk_13
  | 14, _ => yk_14
  | 15, _ => yk_15
  | 16, _ => yk_16
  | 17, _ => yk_17
  | 18, _ => yk_18
  | 19, _ => yk_19
  | 20, _ => yk_20
  | 21, _ => yk_21
  | 22, _ => yk_22
  | 23, _ => yk_23
  | 24, _ => yk_24
  | 25, _ => yk_25
  | 26, _ => yk_26
  | 27, _ => yk_27
  | 28, _ => yk_28
  | 29, _ => yk_29
  | 30, _ => yk_30
  | 31, _ => yk_31
  | 32, _ => yk_32
  | 33, _ => yk_33
  | 34, _ => yk_34
  | 35, _ => yk_35
  | 36, _ => yk_36
  | 37, _ => yk_37
  | 38, _ => yk_38
  | 39, _ => yk_39
  | 40, _ => yk_40
  | 41, _ => yk_41
  | 42, _ => yk_42
  | 43, _ => yk_43
  | 44, _ => yk_44
  | 45, _ => yk_45
  | 46, _ => yk_46
  | 47, _ => yk_47
  | 48, _ => yk_48
  | 49, _ => yk_49
  | 50, _ => yk_50
  | 51, _ => yk_51
  | 52, _ => yk_52
  | 53, _ => yk_53
  | 54, _ => yk_54
  | 55, _ => yk_55
  | 56, _ => yk_56
  | 57, _ => yk_57
  | 58, _ => yk_58
  | 59, _ => yk_59
  | 60, _ => yk_60
  | 61, _ => yk_61
  | 62, _ => yk_62
  | 63, _ => yk_63
  | 64, _ => yk_64
  | 65, _ => yk_65
  | 66, _ => yk_66
  | 67, _ => yk_67
  | 68, _ => yk_68
  | 69, _ => yk_69
  | 70, _ => yk_70
  | 71, _ => yk_71
  | 72, _ => yk_72
  | 73, _ => yk_73
  | 74, _ => yk_74
  | 75, _ => yk_75
  | 76, _ => yk_76
  | 77, _ => yk_77
  | 78, _ => yk_78
  | 79, _ => yk_79
  | 80, _ => yk_80
  | 81, _ => yk_81
  | 82, _ => yk_82
  | 83, _ => yk_83
  | 84, _ => yk_84
  | 85, _ => yk_85
  | 86, _ => yk_86
  | 87, _ => yk_87
  | 88, _ => yk_88
  | 89, _ => yk_89
  | 90, _ => yk_90
  | 91, _ => yk_91
  | 92, _ => yk_92
  | 93, _ => yk_93
  | 94, _ => yk_94
  | 95, _ => yk_95
  | 96, _ => yk_96
  | 97, _ => yk_97
  | 98, _ => yk_98
  | 99, _ => yk_99
  | 100, _ => yk_100
  | 101, _ => yk_101
  | 102, _ => yk_102
  | 103, _ => yk_103
  | 104, _ => yk_104
  | 105, _ => yk_105
  | 106, _ => yk_106
  | 107, _ => yk_107
  | 108, _ => yk_108
  | 109, _ => yk_109
  | 110, _ => yk_110
  | 111, _ => yk_111
  | 112, _ => yk_112
  | 113, _ => yk_113
  | 114, _ => yk_114
  | 115, _ => yk_115
  | 116, _ => yk_116
  | 117, _ => yk_117
  | 118, _ => yk_118
  | 119, _ => yk_119
  | 120, _ => yk_120
  | 121, _ => yk_121
  | 122, _ => yk_122
  | 123, _ => yk_123
  | 124, _ => yk_124
  | 125, _ => yk_125
  | 126, _ => yk_126
  | 127, _ => yk_127
  | 128, _ => yk_128
  | 129, _ => yk_129
  | 130, _ => yk_130
  | 131, _ => yk_131
  | 132, _ => yk_132
  | 133, _ => yk_133
  | 134, _ => yk_134
  | 135, _ => yk_135
  | 136, _ => yk_136
  | 137, _ => yk_137
  | 138, _ => yk_138
  | 139, _ => yk_139
  | 140, _ => yk_140
  | 141, _ => yk_141
  | 142, _ => yk_142
  | 143, _ => yk_143
  | 144, _ => yk_144
  | 145, _ => yk_145
  | 146, _ => yk_146
  | 147, _ => yk_147
  | 148, _ => yk_148
  | 149, _ => yk_149
  | 150, _ => yk_150
  | 151, _ => yk_151
  | 152, _ => yk_152
  | 153, _ => yk_153
  | 154, _ => yk_154
  | 155, _ => yk_155
  | 156, _ => yk_156
  | 157, _ => yk_157
  | 158, _ => yk_158
  | 159, _ => yk_159
  | 160, _ => yk_160
  | 161, _ => yk_161
  | 162, _ => yk_162
  | 163, _ => yk_163
  | 164, _ => yk_164
  | 165, _ => yk_165
  | 166, _ => yk_166
  | 167, _ => yk_167
  | 168, _ => yk_168
  | 169, _ => yk_169
  | 170, _ => yk_170
  | 171, _ => yk_171
  | 172, _ => yk_172
  | 173, _ => yk_173
  | 174, _ => yk_174
  | 175, _ => yk_175
  | 176, _ => yk_176
  | 177, _ => yk_177
  | 178, _ => yk_178
  | 179, _ => yk_179
  | 180, _ => yk_180
  | 181, _ => yk_181
  | 182, _ => yk_182
  | 183, _ => yk_183
  | 184, _ => yk_184
  | 185, _ => yk_185
  | 186, _ => yk_186
  | 187, _ => yk_187
  | 188, _ => yk_188
  | 189, _ => yk_189
  | 190, _ => yk_190
  | 191, _ => yk_191
  | 192, _ => yk_192
  | 193, _ => yk_193
  | 194, _ => yk_194
  | 195, _ => yk_195
  | 196, _ => yk_196
  | 197, _ => yk_197
  | 198, _ => yk_198
  | 199, _ => yk_199
  | 200, _ => yk_200
  | 201, _ => yk_201
  | 202, _ => yk_202
  | 203, _ => yk_203
  | 204, _ => yk_204
  | 205, _ => yk_205
  | 206, _ => yk_206
  | 207, _ => yk_207
  | 208, _ => yk_208
  | 209, _ => yk_209
  | 210, _ => yk_210
  | n + 211, h => absurd h (by omega)
theorem q_sub_c (D : Nat) {c : Nat} (l : List Nat) (h : (List.range 13).all (fun c => !q_sub c D || q_memb c l) = true) (hs : q_sub c D = true) : q_memb c l = true := by
  have hc : c < 13 := by
    rcases Nat.lt_or_ge c 13 with q | q
    · exact q
    · unfold q_sub at hs
      rw [List.getElem?_eq_none (by simp [q_subT]; omega)] at hs
      simp [q_memb] at hs
  have := List.all_eq_true.mp h c (List.mem_range.mpr hc)
  rw [hs] at this
  simpa using this
theorem q_memb_or {c a : Nat} {l : List Nat} (h : q_memb c (a :: l) = true) : c = a ∨ q_memb c l = true := by
  unfold q_memb at h
  cases hb : Nat.beq a c with
  | true => exact Or.inl (Nat.eq_of_beq_eq_true hb).symm
  | false =>
    rw [hb] at h
    exact Or.inr h
theorem rLF_0_9_0_0_1 : q_fok (q_cs 0) 9 0 0 1 := by
  intro c hc
  have hm := q_sub_c 0 [0] (by decide +kernel) hc
  rcases q_memb_or hm with rfl | hm
  · exact ⟨RX0, TX0, rfl, (by decide +kernel), ⟨"WhirlShafts$Changes", (by decide +kernel), q_in 207 (by decide +kernel) (by decide +kernel)⟩, (by decide +kernel)⟩
  · cases hm
theorem rLF_0_15_0_1_1 : q_fok (q_cs 0) 15 0 1 1 := by
  intro c hc
  have hm := q_sub_c 0 [0] (by decide +kernel) hc
  rcases q_memb_or hm with rfl | hm
  · exact ⟨RX0, TX0, rfl, (by decide +kernel), ⟨"WhirlShafts$Changes", (by decide +kernel), q_in 208 (by decide +kernel) (by decide +kernel)⟩, (by decide +kernel)⟩
  · cases hm
theorem rLF_0_18_0_2_1 : q_fok (q_cs 0) 18 0 2 1 := by
  intro c hc
  have hm := q_sub_c 0 [0] (by decide +kernel) hc
  rcases q_memb_or hm with rfl | hm
  · exact ⟨RX0, TX0, rfl, (by decide +kernel), ⟨"WhirlShafts$Changes", (by decide +kernel), q_in 209 (by decide +kernel) (by decide +kernel)⟩, (by decide +kernel)⟩
  · cases hm
theorem rLF_0_21_0_3_1 : q_fok (q_cs 0) 21 0 3 1 := by
  intro c hc
  have hm := q_sub_c 0 [0] (by decide +kernel) hc
  rcases q_memb_or hm with rfl | hm
  · exact ⟨RX0, TX0, rfl, (by decide +kernel), ⟨"WhirlShafts$Changes", (by decide +kernel), q_in 210 (by decide +kernel) (by decide +kernel)⟩, (by decide +kernel)⟩
  · cases hm
theorem rLF_0_24_0_4_0 : q_fok (q_cs 0) 24 0 4 0 := by
  intro c hc
  have hm := q_sub_c 0 [0] (by decide +kernel) hc
  rcases q_memb_or hm with rfl | hm
  · exact ⟨RX0, TX0, rfl, (by decide +kernel), ⟨"WhirlShafts$Changes", (by decide +kernel), q_in 211 (by decide +kernel) (by decide +kernel)⟩, (by decide +kernel)⟩
  · cases hm
theorem rLF_0_28_0_5_0 : q_fok (q_cs 0) 28 0 5 0 := by
  intro c hc
  have hm := q_sub_c 0 [0] (by decide +kernel) hc
  rcases q_memb_or hm with rfl | hm
  · exact ⟨RX0, TX0, rfl, (by decide +kernel), ⟨"WhirlShafts$Changes", (by decide +kernel), q_in 213 (by decide +kernel) (by decide +kernel)⟩, (by decide +kernel)⟩
  · cases hm
theorem rLF_2_9_2_0_1 : q_fok (q_cs 2) 9 2 0 1 := by
  intro c hc
  have hm := q_sub_c 2 [1, 2, 3, 7, 9] (by decide +kernel) hc
  rcases q_memb_or hm with rfl | hm
  · exact ⟨RX1, TX1, rfl, (by decide +kernel), ⟨"WhirlShafts$Disc", (by decide +kernel), q_in 77 (by decide +kernel) (by decide +kernel)⟩, (by decide +kernel)⟩
  rcases q_memb_or hm with rfl | hm
  · exact ⟨RX2, TX2, rfl, (by decide +kernel), ⟨"WhirlShafts$Disc", (by decide +kernel), q_in 77 (by decide +kernel) (by decide +kernel)⟩, (by decide +kernel)⟩
  rcases q_memb_or hm with rfl | hm
  · exact ⟨RX3, TX3, rfl, (by decide +kernel), ⟨"WhirlShafts$Disc", (by decide +kernel), q_in 77 (by decide +kernel) (by decide +kernel)⟩, (by decide +kernel)⟩
  rcases q_memb_or hm with rfl | hm
  · exact ⟨RX7, TX7, rfl, (by decide +kernel), ⟨"WhirlShafts$Disc", (by decide +kernel), q_in 77 (by decide +kernel) (by decide +kernel)⟩, (by decide +kernel)⟩
  rcases q_memb_or hm with rfl | hm
  · exact ⟨RX9, TX9, rfl, (by decide +kernel), ⟨"WhirlShafts$Disc", (by decide +kernel), q_in 77 (by decide +kernel) (by decide +kernel)⟩, (by decide +kernel)⟩
  · cases hm
theorem rLF_2_15_2_1_0 : q_fok (q_cs 2) 15 2 1 0 := by
  intro c hc
  have hm := q_sub_c 2 [1, 2, 3, 7, 9] (by decide +kernel) hc
  rcases q_memb_or hm with rfl | hm
  · exact ⟨RX1, TX1, rfl, (by decide +kernel), ⟨"WhirlShafts$Disc", (by decide +kernel), q_in 79 (by decide +kernel) (by decide +kernel)⟩, (by decide +kernel)⟩
  rcases q_memb_or hm with rfl | hm
  · exact ⟨RX2, TX2, rfl, (by decide +kernel), ⟨"WhirlShafts$Disc", (by decide +kernel), q_in 79 (by decide +kernel) (by decide +kernel)⟩, (by decide +kernel)⟩
  rcases q_memb_or hm with rfl | hm
  · exact ⟨RX3, TX3, rfl, (by decide +kernel), ⟨"WhirlShafts$Disc", (by decide +kernel), q_in 79 (by decide +kernel) (by decide +kernel)⟩, (by decide +kernel)⟩
  rcases q_memb_or hm with rfl | hm
  · exact ⟨RX7, TX7, rfl, (by decide +kernel), ⟨"WhirlShafts$Disc", (by decide +kernel), q_in 79 (by decide +kernel) (by decide +kernel)⟩, (by decide +kernel)⟩
  rcases q_memb_or hm with rfl | hm
  · exact ⟨RX9, TX9, rfl, (by decide +kernel), ⟨"WhirlShafts$Disc", (by decide +kernel), q_in 79 (by decide +kernel) (by decide +kernel)⟩, (by decide +kernel)⟩
  · cases hm
theorem rLF_2_19_2_2_0 : q_fok (q_cs 2) 19 2 2 0 := by
  intro c hc
  have hm := q_sub_c 2 [1, 2, 3, 7, 9] (by decide +kernel) hc
  rcases q_memb_or hm with rfl | hm
  · exact ⟨RX1, TX1, rfl, (by decide +kernel), ⟨"WhirlShafts$Disc", (by decide +kernel), q_in 81 (by decide +kernel) (by decide +kernel)⟩, (by decide +kernel)⟩
  rcases q_memb_or hm with rfl | hm
  · exact ⟨RX2, TX2, rfl, (by decide +kernel), ⟨"WhirlShafts$Disc", (by decide +kernel), q_in 81 (by decide +kernel) (by decide +kernel)⟩, (by decide +kernel)⟩
  rcases q_memb_or hm with rfl | hm
  · exact ⟨RX3, TX3, rfl, (by decide +kernel), ⟨"WhirlShafts$Disc", (by decide +kernel), q_in 81 (by decide +kernel) (by decide +kernel)⟩, (by decide +kernel)⟩
  rcases q_memb_or hm with rfl | hm
  · exact ⟨RX7, TX7, rfl, (by decide +kernel), ⟨"WhirlShafts$Disc", (by decide +kernel), q_in 81 (by decide +kernel) (by decide +kernel)⟩, (by decide +kernel)⟩
  rcases q_memb_or hm with rfl | hm
  · exact ⟨RX9, TX9, rfl, (by decide +kernel), ⟨"WhirlShafts$Disc", (by decide +kernel), q_in 81 (by decide +kernel) (by decide +kernel)⟩, (by decide +kernel)⟩
  · cases hm
theorem rLF_2_22_2_3_0 : q_fok (q_cs 2) 22 2 3 0 := by
  intro c hc
  have hm := q_sub_c 2 [1, 2, 3, 7, 9] (by decide +kernel) hc
  rcases q_memb_or hm with rfl | hm
  · exact ⟨RX1, TX1, rfl, (by decide +kernel), ⟨"WhirlShafts$Disc", (by decide +kernel), q_in 82 (by decide +kernel) (by decide +kernel)⟩, (by decide +kernel)⟩
  rcases q_memb_or hm with rfl | hm
  · exact ⟨RX2, TX2, rfl, (by decide +kernel), ⟨"WhirlShafts$Disc", (by decide +kernel), q_in 82 (by decide +kernel) (by decide +kernel)⟩, (by decide +kernel)⟩
  rcases q_memb_or hm with rfl | hm
  · exact ⟨RX3, TX3, rfl, (by decide +kernel), ⟨"WhirlShafts$Disc", (by decide +kernel), q_in 82 (by decide +kernel) (by decide +kernel)⟩, (by decide +kernel)⟩
  rcases q_memb_or hm with rfl | hm
  · exact ⟨RX7, TX7, rfl, (by decide +kernel), ⟨"WhirlShafts$Disc", (by decide +kernel), q_in 82 (by decide +kernel) (by decide +kernel)⟩, (by decide +kernel)⟩
  rcases q_memb_or hm with rfl | hm
  · exact ⟨RX9, TX9, rfl, (by decide +kernel), ⟨"WhirlShafts$Disc", (by decide +kernel), q_in 82 (by decide +kernel) (by decide +kernel)⟩, (by decide +kernel)⟩
  · cases hm
theorem rLF_4_9_4_1_1 : q_fok (q_cs 4) 9 4 1 1 := by
  intro c hc
  have hm := q_sub_c 4 [4] (by decide +kernel) hc
  rcases q_memb_or hm with rfl | hm
  · exact ⟨RX4, TX4, rfl, (by decide +kernel), ⟨"WhirlShafts$Line", (by decide +kernel), q_in 144 (by decide +kernel) (by decide +kernel)⟩, (by decide +kernel)⟩
  · cases hm
theorem rLF_4_15_4_2_1 : q_fok (q_cs 4) 15 4 2 1 := by
  intro c hc
  have hm := q_sub_c 4 [4] (by decide +kernel) hc
  rcases q_memb_or hm with rfl | hm
  · exact ⟨RX4, TX4, rfl, (by decide +kernel), ⟨"WhirlShafts$Line", (by decide +kernel), q_in 146 (by decide +kernel) (by decide +kernel)⟩, (by decide +kernel)⟩
  · cases hm
theorem rLF_4_18_4_3_1 : q_fok (q_cs 4) 18 4 3 1 := by
  intro c hc
  have hm := q_sub_c 4 [4] (by decide +kernel) hc
  rcases q_memb_or hm with rfl | hm
  · exact ⟨RX4, TX4, rfl, (by decide +kernel), ⟨"WhirlShafts$Line", (by decide +kernel), q_in 148 (by decide +kernel) (by decide +kernel)⟩, (by decide +kernel)⟩
  · cases hm
theorem rLF_4_21_4_4_1 : q_fok (q_cs 4) 21 4 4 1 := by
  intro c hc
  have hm := q_sub_c 4 [4] (by decide +kernel) hc
  rcases q_memb_or hm with rfl | hm
  · exact ⟨RX4, TX4, rfl, (by decide +kernel), ⟨"WhirlShafts$Line", (by decide +kernel), q_in 149 (by decide +kernel) (by decide +kernel)⟩, (by decide +kernel)⟩
  · cases hm
theorem rLF_4_24_4_5_1 : q_fok (q_cs 4) 24 4 5 1 := by
  intro c hc
  have hm := q_sub_c 4 [4] (by decide +kernel) hc
  rcases q_memb_or hm with rfl | hm
  · exact ⟨RX4, TX4, rfl, (by decide +kernel), ⟨"WhirlShafts$Line", (by decide +kernel), q_in 151 (by decide +kernel) (by decide +kernel)⟩, (by decide +kernel)⟩
  · cases hm
theorem rLF_4_27_4_0_1 : q_fok (q_cs 4) 27 4 0 1 := by
  intro c hc
  have hm := q_sub_c 4 [4] (by decide +kernel) hc
  rcases q_memb_or hm with rfl | hm
  · exact ⟨RX4, TX4, rfl, (by decide +kernel), ⟨"WhirlShafts$Line", (by decide +kernel), q_in 143 (by decide +kernel) (by decide +kernel)⟩, (by decide +kernel)⟩
  · cases hm
theorem rLF_4_31_4_6_0 : q_fok (q_cs 4) 31 4 6 0 := by
  intro c hc
  have hm := q_sub_c 4 [4] (by decide +kernel) hc
  rcases q_memb_or hm with rfl | hm
  · exact ⟨RX4, TX4, rfl, (by decide +kernel), ⟨"WhirlShafts$Line", (by decide +kernel), q_in 153 (by decide +kernel) (by decide +kernel)⟩, (by decide +kernel)⟩
  · cases hm
theorem rLF_4_35_4_7_0 : q_fok (q_cs 4) 35 4 7 0 := by
  intro c hc
  have hm := q_sub_c 4 [4] (by decide +kernel) hc
  rcases q_memb_or hm with rfl | hm
  · exact ⟨RX4, TX4, rfl, (by decide +kernel), ⟨"WhirlShafts$Line", (by decide +kernel), q_in 155 (by decide +kernel) (by decide +kernel)⟩, (by decide +kernel)⟩
  · cases hm
theorem rLF_4_38_4_8_0 : q_fok (q_cs 4) 38 4 8 0 := by
  intro c hc
  have hm := q_sub_c 4 [4] (by decide +kernel) hc
  rcases q_memb_or hm with rfl | hm
  · exact ⟨RX4, TX4, rfl, (by decide +kernel), ⟨"WhirlShafts$Line", (by decide +kernel), q_in 157 (by decide +kernel) (by decide +kernel)⟩, (by decide +kernel)⟩
  · cases hm
theorem rLF_5_9_5_0_1 : q_fok (q_cs 5) 9 5 0 1 := by
  intro c hc
  have hm := q_sub_c 5 [5] (by decide +kernel) hc
  rcases q_memb_or hm with rfl | hm
  · exact ⟨RX5, TX5, rfl, (by decide +kernel), ⟨"WhirlShafts$Orders", (by decide +kernel), q_in 184 (by decide +kernel) (by decide +kernel)⟩, (by decide +kernel)⟩
  · cases hm
theorem rLF_5_15_5_1_1 : q_fok (q_cs 5) 15 5 1 1 := by
  intro c hc
  have hm := q_sub_c 5 [5] (by decide +kernel) hc
  rcases q_memb_or hm with rfl | hm
  · exact ⟨RX5, TX5, rfl, (by decide +kernel), ⟨"WhirlShafts$Orders", (by decide +kernel), q_in 186 (by decide +kernel) (by decide +kernel)⟩, (by decide +kernel)⟩
  · cases hm
theorem rLF_5_18_5_2_1 : q_fok (q_cs 5) 18 5 2 1 := by
  intro c hc
  have hm := q_sub_c 5 [5] (by decide +kernel) hc
  rcases q_memb_or hm with rfl | hm
  · exact ⟨RX5, TX5, rfl, (by decide +kernel), ⟨"WhirlShafts$Orders", (by decide +kernel), q_in 188 (by decide +kernel) (by decide +kernel)⟩, (by decide +kernel)⟩
  · cases hm
theorem rLF_5_21_5_3_0 : q_fok (q_cs 5) 21 5 3 0 := by
  intro c hc
  have hm := q_sub_c 5 [5] (by decide +kernel) hc
  rcases q_memb_or hm with rfl | hm
  · exact ⟨RX5, TX5, rfl, (by decide +kernel), ⟨"WhirlShafts$Orders", (by decide +kernel), q_in 190 (by decide +kernel) (by decide +kernel)⟩, (by decide +kernel)⟩
  · cases hm
theorem rLF_6_11_6_1_1 : q_fok (q_cs 6) 11 6 1 1 := by
  intro c hc
  have hm := q_sub_c 6 [6] (by decide +kernel) hc
  rcases q_memb_or hm with rfl | hm
  · exact ⟨RX6, TX6, rfl, (by decide +kernel), ⟨"WhirlShafts$Rates", (by decide +kernel), q_in 237 (by decide +kernel) (by decide +kernel)⟩, (by decide +kernel)⟩
  · cases hm
theorem rLF_6_15_6_2_1 : q_fok (q_cs 6) 15 6 2 1 := by
  intro c hc
  have hm := q_sub_c 6 [6] (by decide +kernel) hc
  rcases q_memb_or hm with rfl | hm
  · exact ⟨RX6, TX6, rfl, (by decide +kernel), ⟨"WhirlShafts$Rates", (by decide +kernel), q_in 238 (by decide +kernel) (by decide +kernel)⟩, (by decide +kernel)⟩
  · cases hm
theorem rLF_6_18_6_3_1 : q_fok (q_cs 6) 18 6 3 1 := by
  intro c hc
  have hm := q_sub_c 6 [6] (by decide +kernel) hc
  rcases q_memb_or hm with rfl | hm
  · exact ⟨RX6, TX6, rfl, (by decide +kernel), ⟨"WhirlShafts$Rates", (by decide +kernel), q_in 239 (by decide +kernel) (by decide +kernel)⟩, (by decide +kernel)⟩
  · cases hm
theorem rLF_6_23_6_4_1 : q_fok (q_cs 6) 23 6 4 1 := by
  intro c hc
  have hm := q_sub_c 6 [6] (by decide +kernel) hc
  rcases q_memb_or hm with rfl | hm
  · exact ⟨RX6, TX6, rfl, (by decide +kernel), ⟨"WhirlShafts$Rates", (by decide +kernel), q_in 240 (by decide +kernel) (by decide +kernel)⟩, (by decide +kernel)⟩
  · cases hm
theorem rLF_6_26_4_6_0 : q_fok (q_cs 6) 26 4 6 0 := by
  intro c hc
  have hm := q_sub_c 4 [4] (by decide +kernel) hc
  rcases q_memb_or hm with rfl | hm
  · exact ⟨RX4, TX4, rfl, (by decide +kernel), ⟨"WhirlShafts$Line", (by decide +kernel), q_in 152 (by decide +kernel) (by decide +kernel)⟩, (by decide +kernel)⟩
  · cases hm
theorem rLF_6_32_6_0_0 : q_fok (q_cs 6) 32 6 0 0 := by
  intro c hc
  have hm := q_sub_c 6 [6] (by decide +kernel) hc
  rcases q_memb_or hm with rfl | hm
  · exact ⟨RX6, TX6, rfl, (by decide +kernel), ⟨"WhirlShafts$Rates", (by decide +kernel), q_in 236 (by decide +kernel) (by decide +kernel)⟩, (by decide +kernel)⟩
  · cases hm
theorem rLF_8_9_8_0_1 : q_fok (q_cs 8) 9 8 0 1 := by
  intro c hc
  have hm := q_sub_c 8 [8] (by decide +kernel) hc
  rcases q_memb_or hm with rfl | hm
  · exact ⟨RX8, TX8, rfl, (by decide +kernel), ⟨"WhirlShafts$Row", (by decide +kernel), q_in 282 (by decide +kernel) (by decide +kernel)⟩, (by decide +kernel)⟩
  · cases hm
theorem rLF_8_15_8_1_0 : q_fok (q_cs 8) 15 8 1 0 := by
  intro c hc
  have hm := q_sub_c 8 [8] (by decide +kernel) hc
  rcases q_memb_or hm with rfl | hm
  · exact ⟨RX8, TX8, rfl, (by decide +kernel), ⟨"WhirlShafts$Row", (by decide +kernel), q_in 284 (by decide +kernel) (by decide +kernel)⟩, (by decide +kernel)⟩
  · cases hm
theorem rLF_8_19_8_2_0 : q_fok (q_cs 8) 19 8 2 0 := by
  intro c hc
  have hm := q_sub_c 8 [8] (by decide +kernel) hc
  rcases q_memb_or hm with rfl | hm
  · exact ⟨RX8, TX8, rfl, (by decide +kernel), ⟨"WhirlShafts$Row", (by decide +kernel), q_in 286 (by decide +kernel) (by decide +kernel)⟩, (by decide +kernel)⟩
  · cases hm
theorem rLF_10_9_10_0_1 : q_fok (q_cs 10) 9 10 0 1 := by
  intro c hc
  have hm := q_sub_c 10 [10] (by decide +kernel) hc
  rcases q_memb_or hm with rfl | hm
  · exact ⟨RX10, TX10, rfl, (by decide +kernel), ⟨"WhirlShafts$Tape", (by decide +kernel), q_in 259 (by decide +kernel) (by decide +kernel)⟩, (by decide +kernel)⟩
  · cases hm
theorem rLF_10_15_10_3_1 : q_fok (q_cs 10) 15 10 3 1 := by
  intro c hc
  have hm := q_sub_c 10 [10] (by decide +kernel) hc
  rcases q_memb_or hm with rfl | hm
  · exact ⟨RX10, TX10, rfl, (by decide +kernel), ⟨"WhirlShafts$Tape", (by decide +kernel), q_in 264 (by decide +kernel) (by decide +kernel)⟩, (by decide +kernel)⟩
  · cases hm
theorem rLF_10_18_10_1_0 : q_fok (q_cs 10) 18 10 1 0 := by
  intro c hc
  have hm := q_sub_c 10 [10] (by decide +kernel) hc
  rcases q_memb_or hm with rfl | hm
  · exact ⟨RX10, TX10, rfl, (by decide +kernel), ⟨"WhirlShafts$Tape", (by decide +kernel), q_in 260 (by decide +kernel) (by decide +kernel)⟩, (by decide +kernel)⟩
  · cases hm
theorem rLF_10_30_10_2_0 : q_fok (q_cs 10) 30 10 2 0 := by
  intro c hc
  have hm := q_sub_c 10 [10] (by decide +kernel) hc
  rcases q_memb_or hm with rfl | hm
  · exact ⟨RX10, TX10, rfl, (by decide +kernel), ⟨"WhirlShafts$Tape", (by decide +kernel), q_in 262 (by decide +kernel) (by decide +kernel)⟩, (by decide +kernel)⟩
  · cases hm
theorem rLF_11_17_11_0_1 : q_fok (q_cs 11) 17 11 0 1 := by
  intro c hc
  have hm := q_sub_c 11 [11] (by decide +kernel) hc
  rcases q_memb_or hm with rfl | hm
  · exact ⟨RX11, TX11, rfl, (by decide +kernel), ⟨"WhirlShafts", (by decide +kernel), q_in 295 (by decide +kernel) (by decide +kernel)⟩, (by decide +kernel)⟩
  · cases hm
theorem rLF_11_39_11_2_1 : q_fok (q_cs 11) 39 11 2 1 := by
  intro c hc
  have hm := q_sub_c 11 [11] (by decide +kernel) hc
  rcases q_memb_or hm with rfl | hm
  · exact ⟨RX11, TX11, rfl, (by decide +kernel), ⟨"WhirlShafts", (by decide +kernel), q_in 297 (by decide +kernel) (by decide +kernel)⟩, (by decide +kernel)⟩
  · cases hm
theorem rLF_11_43_11_3_1 : q_fok (q_cs 11) 43 11 3 1 := by
  intro c hc
  have hm := q_sub_c 11 [11] (by decide +kernel) hc
  rcases q_memb_or hm with rfl | hm
  · exact ⟨RX11, TX11, rfl, (by decide +kernel), ⟨"WhirlShafts", (by decide +kernel), q_in 298 (by decide +kernel) (by decide +kernel)⟩, (by decide +kernel)⟩
  · cases hm
theorem rLF_11_46_11_4_1 : q_fok (q_cs 11) 46 11 4 1 := by
  intro c hc
  have hm := q_sub_c 11 [11] (by decide +kernel) hc
  rcases q_memb_or hm with rfl | hm
  · exact ⟨RX11, TX11, rfl, (by decide +kernel), ⟨"WhirlShafts", (by decide +kernel), q_in 299 (by decide +kernel) (by decide +kernel)⟩, (by decide +kernel)⟩
  · cases hm
theorem rLF_11_52_11_6_1 : q_fok (q_cs 11) 52 11 6 1 := by
  intro c hc
  have hm := q_sub_c 11 [11] (by decide +kernel) hc
  rcases q_memb_or hm with rfl | hm
  · exact ⟨RX11, TX11, rfl, (by decide +kernel), ⟨"WhirlShafts", (by decide +kernel), q_in 301 (by decide +kernel) (by decide +kernel)⟩, (by decide +kernel)⟩
  · cases hm
theorem rLF_11_56_11_7_1 : q_fok (q_cs 11) 56 11 7 1 := by
  intro c hc
  have hm := q_sub_c 11 [11] (by decide +kernel) hc
  rcases q_memb_or hm with rfl | hm
  · exact ⟨RX11, TX11, rfl, (by decide +kernel), ⟨"WhirlShafts", (by decide +kernel), q_in 302 (by decide +kernel) (by decide +kernel)⟩, (by decide +kernel)⟩
  · cases hm
theorem rLF_11_62_11_8_1 : q_fok (q_cs 11) 62 11 8 1 := by
  intro c hc
  have hm := q_sub_c 11 [11] (by decide +kernel) hc
  rcases q_memb_or hm with rfl | hm
  · exact ⟨RX11, TX11, rfl, (by decide +kernel), ⟨"WhirlShafts", (by decide +kernel), q_in 303 (by decide +kernel) (by decide +kernel)⟩, (by decide +kernel)⟩
  · cases hm
theorem rLF_11_69_11_9_1 : q_fok (q_cs 11) 69 11 9 1 := by
  intro c hc
  have hm := q_sub_c 11 [11] (by decide +kernel) hc
  rcases q_memb_or hm with rfl | hm
  · exact ⟨RX11, TX11, rfl, (by decide +kernel), ⟨"WhirlShafts", (by decide +kernel), q_in 304 (by decide +kernel) (by decide +kernel)⟩, (by decide +kernel)⟩
  · cases hm
theorem rLF_11_76_11_10_1 : q_fok (q_cs 11) 76 11 10 1 := by
  intro c hc
  have hm := q_sub_c 11 [11] (by decide +kernel) hc
  rcases q_memb_or hm with rfl | hm
  · exact ⟨RX11, TX11, rfl, (by decide +kernel), ⟨"WhirlShafts", (by decide +kernel), q_in 305 (by decide +kernel) (by decide +kernel)⟩, (by decide +kernel)⟩
  · cases hm
theorem rLF_11_82_11_11_1 : q_fok (q_cs 11) 82 11 11 1 := by
  intro c hc
  have hm := q_sub_c 11 [11] (by decide +kernel) hc
  rcases q_memb_or hm with rfl | hm
  · exact ⟨RX11, TX11, rfl, (by decide +kernel), ⟨"WhirlShafts", (by decide +kernel), q_in 306 (by decide +kernel) (by decide +kernel)⟩, (by decide +kernel)⟩
  · cases hm
theorem rLF_11_95_4_6_0 : q_fok (q_cs 11) 95 4 6 0 := by
  intro c hc
  have hm := q_sub_c 4 [4] (by decide +kernel) hc
  rcases q_memb_or hm with rfl | hm
  · exact ⟨RX4, TX4, rfl, (by decide +kernel), ⟨"WhirlShafts$Line", (by decide +kernel), q_in 154 (by decide +kernel) (by decide +kernel)⟩, (by decide +kernel)⟩
  · cases hm
theorem rLF_11_106_4_7_0 : q_fok (q_cs 11) 106 4 7 0 := by
  intro c hc
  have hm := q_sub_c 4 [4] (by decide +kernel) hc
  rcases q_memb_or hm with rfl | hm
  · exact ⟨RX4, TX4, rfl, (by decide +kernel), ⟨"WhirlShafts$Line", (by decide +kernel), q_in 156 (by decide +kernel) (by decide +kernel)⟩, (by decide +kernel)⟩
  · cases hm
theorem rLF_11_109_4_8_0 : q_fok (q_cs 11) 109 4 8 0 := by
  intro c hc
  have hm := q_sub_c 4 [4] (by decide +kernel) hc
  rcases q_memb_or hm with rfl | hm
  · exact ⟨RX4, TX4, rfl, (by decide +kernel), ⟨"WhirlShafts$Line", (by decide +kernel), q_in 158 (by decide +kernel) (by decide +kernel)⟩, (by decide +kernel)⟩
  · cases hm
theorem rLF_11_140_4_1_1 : q_fok (q_cs 11) 140 4 1 1 := by
  intro c hc
  have hm := q_sub_c 4 [4] (by decide +kernel) hc
  rcases q_memb_or hm with rfl | hm
  · exact ⟨RX4, TX4, rfl, (by decide +kernel), ⟨"WhirlShafts$Line", (by decide +kernel), q_in 145 (by decide +kernel) (by decide +kernel)⟩, (by decide +kernel)⟩
  · cases hm
theorem rLF_11_208_4_4_1 : q_fok (q_cs 11) 208 4 4 1 := by
  intro c hc
  have hm := q_sub_c 4 [4] (by decide +kernel) hc
  rcases q_memb_or hm with rfl | hm
  · exact ⟨RX4, TX4, rfl, (by decide +kernel), ⟨"WhirlShafts$Line", (by decide +kernel), q_in 150 (by decide +kernel) (by decide +kernel)⟩, (by decide +kernel)⟩
  · cases hm
theorem rLF_11_211_4_2_1 : q_fok (q_cs 11) 211 4 2 1 := by
  intro c hc
  have hm := q_sub_c 4 [4] (by decide +kernel) hc
  rcases q_memb_or hm with rfl | hm
  · exact ⟨RX4, TX4, rfl, (by decide +kernel), ⟨"WhirlShafts$Line", (by decide +kernel), q_in 147 (by decide +kernel) (by decide +kernel)⟩, (by decide +kernel)⟩
  · cases hm
theorem rLF_11_225_8_2_0 : q_fok (q_cs 11) 225 8 2 0 := by
  intro c hc
  have hm := q_sub_c 8 [8] (by decide +kernel) hc
  rcases q_memb_or hm with rfl | hm
  · exact ⟨RX8, TX8, rfl, (by decide +kernel), ⟨"WhirlShafts$Row", (by decide +kernel), q_in 287 (by decide +kernel) (by decide +kernel)⟩, (by decide +kernel)⟩
  · cases hm
theorem rLF_11_236_8_0_1 : q_fok (q_cs 11) 236 8 0 1 := by
  intro c hc
  have hm := q_sub_c 8 [8] (by decide +kernel) hc
  rcases q_memb_or hm with rfl | hm
  · exact ⟨RX8, TX8, rfl, (by decide +kernel), ⟨"WhirlShafts$Row", (by decide +kernel), q_in 283 (by decide +kernel) (by decide +kernel)⟩, (by decide +kernel)⟩
  · cases hm
theorem rLF_11_244_5_3_0 : q_fok (q_cs 11) 244 5 3 0 := by
  intro c hc
  have hm := q_sub_c 5 [5] (by decide +kernel) hc
  rcases q_memb_or hm with rfl | hm
  · exact ⟨RX5, TX5, rfl, (by decide +kernel), ⟨"WhirlShafts$Orders", (by decide +kernel), q_in 191 (by decide +kernel) (by decide +kernel)⟩, (by decide +kernel)⟩
  · cases hm
theorem rLF_11_249_5_0_1 : q_fok (q_cs 11) 249 5 0 1 := by
  intro c hc
  have hm := q_sub_c 5 [5] (by decide +kernel) hc
  rcases q_memb_or hm with rfl | hm
  · exact ⟨RX5, TX5, rfl, (by decide +kernel), ⟨"WhirlShafts$Orders", (by decide +kernel), q_in 185 (by decide +kernel) (by decide +kernel)⟩, (by decide +kernel)⟩
  · cases hm
theorem rLF_11_252_5_1_1 : q_fok (q_cs 11) 252 5 1 1 := by
  intro c hc
  have hm := q_sub_c 5 [5] (by decide +kernel) hc
  rcases q_memb_or hm with rfl | hm
  · exact ⟨RX5, TX5, rfl, (by decide +kernel), ⟨"WhirlShafts$Orders", (by decide +kernel), q_in 187 (by decide +kernel) (by decide +kernel)⟩, (by decide +kernel)⟩
  · cases hm
theorem rLF_11_255_5_2_1 : q_fok (q_cs 11) 255 5 2 1 := by
  intro c hc
  have hm := q_sub_c 5 [5] (by decide +kernel) hc
  rcases q_memb_or hm with rfl | hm
  · exact ⟨RX5, TX5, rfl, (by decide +kernel), ⟨"WhirlShafts$Orders", (by decide +kernel), q_in 189 (by decide +kernel) (by decide +kernel)⟩, (by decide +kernel)⟩
  · cases hm
theorem rLF_11_261_0_4_0 : q_fok (q_cs 11) 261 0 4 0 := by
  intro c hc
  have hm := q_sub_c 0 [0] (by decide +kernel) hc
  rcases q_memb_or hm with rfl | hm
  · exact ⟨RX0, TX0, rfl, (by decide +kernel), ⟨"WhirlShafts$Changes", (by decide +kernel), q_in 212 (by decide +kernel) (by decide +kernel)⟩, (by decide +kernel)⟩
  · cases hm
theorem rLF_11_268_0_5_0 : q_fok (q_cs 11) 268 0 5 0 := by
  intro c hc
  have hm := q_sub_c 0 [0] (by decide +kernel) hc
  rcases q_memb_or hm with rfl | hm
  · exact ⟨RX0, TX0, rfl, (by decide +kernel), ⟨"WhirlShafts$Changes", (by decide +kernel), q_in 214 (by decide +kernel) (by decide +kernel)⟩, (by decide +kernel)⟩
  · cases hm
theorem rLF_11_274_10_1_0 : q_fok (q_cs 11) 274 10 1 0 := by
  intro c hc
  have hm := q_sub_c 10 [10] (by decide +kernel) hc
  rcases q_memb_or hm with rfl | hm
  · exact ⟨RX10, TX10, rfl, (by decide +kernel), ⟨"WhirlShafts$Tape", (by decide +kernel), q_in 261 (by decide +kernel) (by decide +kernel)⟩, (by decide +kernel)⟩
  · cases hm
theorem rLF_11_297_8_1_0 : q_fok (q_cs 11) 297 8 1 0 := by
  intro c hc
  have hm := q_sub_c 8 [8] (by decide +kernel) hc
  rcases q_memb_or hm with rfl | hm
  · exact ⟨RX8, TX8, rfl, (by decide +kernel), ⟨"WhirlShafts$Row", (by decide +kernel), q_in 285 (by decide +kernel) (by decide +kernel)⟩, (by decide +kernel)⟩
  · cases hm
theorem rLF_11_309_11_1_2 : q_fok (q_cs 11) 309 11 1 2 := by
  intro c hc
  have hm := q_sub_c 11 [11] (by decide +kernel) hc
  rcases q_memb_or hm with rfl | hm
  · exact ⟨RX11, TX11, rfl, (by decide +kernel), ⟨"WhirlShafts", (by decide +kernel), q_in 296 (by decide +kernel) (by decide +kernel)⟩, (by decide +kernel)⟩
  · cases hm
theorem rLF_11_325_2_1_0 : q_fok (q_cs 11) 325 2 1 0 := by
  intro c hc
  have hm := q_sub_c 2 [1, 2, 3, 7, 9] (by decide +kernel) hc
  rcases q_memb_or hm with rfl | hm
  · exact ⟨RX1, TX1, rfl, (by decide +kernel), ⟨"WhirlShafts$Disc", (by decide +kernel), q_in 80 (by decide +kernel) (by decide +kernel)⟩, (by decide +kernel)⟩
  rcases q_memb_or hm with rfl | hm
  · exact ⟨RX2, TX2, rfl, (by decide +kernel), ⟨"WhirlShafts$Disc", (by decide +kernel), q_in 80 (by decide +kernel) (by decide +kernel)⟩, (by decide +kernel)⟩
  rcases q_memb_or hm with rfl | hm
  · exact ⟨RX3, TX3, rfl, (by decide +kernel), ⟨"WhirlShafts$Disc", (by decide +kernel), q_in 80 (by decide +kernel) (by decide +kernel)⟩, (by decide +kernel)⟩
  rcases q_memb_or hm with rfl | hm
  · exact ⟨RX7, TX7, rfl, (by decide +kernel), ⟨"WhirlShafts$Disc", (by decide +kernel), q_in 80 (by decide +kernel) (by decide +kernel)⟩, (by decide +kernel)⟩
  rcases q_memb_or hm with rfl | hm
  · exact ⟨RX9, TX9, rfl, (by decide +kernel), ⟨"WhirlShafts$Disc", (by decide +kernel), q_in 80 (by decide +kernel) (by decide +kernel)⟩, (by decide +kernel)⟩
  · cases hm
theorem rLF_11_328_2_0_1 : q_fok (q_cs 11) 328 2 0 1 := by
  intro c hc
  have hm := q_sub_c 2 [1, 2, 3, 7, 9] (by decide +kernel) hc
  rcases q_memb_or hm with rfl | hm
  · exact ⟨RX1, TX1, rfl, (by decide +kernel), ⟨"WhirlShafts$Disc", (by decide +kernel), q_in 78 (by decide +kernel) (by decide +kernel)⟩, (by decide +kernel)⟩
  rcases q_memb_or hm with rfl | hm
  · exact ⟨RX2, TX2, rfl, (by decide +kernel), ⟨"WhirlShafts$Disc", (by decide +kernel), q_in 78 (by decide +kernel) (by decide +kernel)⟩, (by decide +kernel)⟩
  rcases q_memb_or hm with rfl | hm
  · exact ⟨RX3, TX3, rfl, (by decide +kernel), ⟨"WhirlShafts$Disc", (by decide +kernel), q_in 78 (by decide +kernel) (by decide +kernel)⟩, (by decide +kernel)⟩
  rcases q_memb_or hm with rfl | hm
  · exact ⟨RX7, TX7, rfl, (by decide +kernel), ⟨"WhirlShafts$Disc", (by decide +kernel), q_in 78 (by decide +kernel) (by decide +kernel)⟩, (by decide +kernel)⟩
  rcases q_memb_or hm with rfl | hm
  · exact ⟨RX9, TX9, rfl, (by decide +kernel), ⟨"WhirlShafts$Disc", (by decide +kernel), q_in 78 (by decide +kernel) (by decide +kernel)⟩, (by decide +kernel)⟩
  · cases hm
theorem rLF_11_337_11_5_0 : q_fok (q_cs 11) 337 11 5 0 := by
  intro c hc
  have hm := q_sub_c 11 [11] (by decide +kernel) hc
  rcases q_memb_or hm with rfl | hm
  · exact ⟨RX11, TX11, rfl, (by decide +kernel), ⟨"WhirlShafts", (by decide +kernel), q_in 300 (by decide +kernel) (by decide +kernel)⟩, (by decide +kernel)⟩
  · cases hm
theorem rLF_11_361_10_2_0 : q_fok (q_cs 11) 361 10 2 0 := by
  intro c hc
  have hm := q_sub_c 10 [10] (by decide +kernel) hc
  rcases q_memb_or hm with rfl | hm
  · exact ⟨RX10, TX10, rfl, (by decide +kernel), ⟨"WhirlShafts$Tape", (by decide +kernel), q_in 263 (by decide +kernel) (by decide +kernel)⟩, (by decide +kernel)⟩
  · cases hm
theorem rLF_11_370_10_3_1 : q_fok (q_cs 11) 370 10 3 1 := by
  intro c hc
  have hm := q_sub_c 10 [10] (by decide +kernel) hc
  rcases q_memb_or hm with rfl | hm
  · exact ⟨RX10, TX10, rfl, (by decide +kernel), ⟨"WhirlShafts$Tape", (by decide +kernel), q_in 265 (by decide +kernel) (by decide +kernel)⟩, (by decide +kernel)⟩
  · cases hm
theorem rLF_12_9_12_3_1 : q_fok (q_cs 12) 9 12 3 1 := by
  intro c hc
  have hm := q_sub_c 12 [12] (by decide +kernel) hc
  rcases q_memb_or hm with rfl | hm
  · exact ⟨RX12, TX12, rfl, (by decide +kernel), ⟨"WhirlShaftsModel", (by decide +kernel), q_in 897 (by decide +kernel) (by decide +kernel)⟩, (by decide +kernel)⟩
  · cases hm
theorem rLF_12_15_12_4_1 : q_fok (q_cs 12) 15 12 4 1 := by
  intro c hc
  have hm := q_sub_c 12 [12] (by decide +kernel) hc
  rcases q_memb_or hm with rfl | hm
  · exact ⟨RX12, TX12, rfl, (by decide +kernel), ⟨"WhirlShaftsModel", (by decide +kernel), q_in 898 (by decide +kernel) (by decide +kernel)⟩, (by decide +kernel)⟩
  · cases hm
theorem rLF_12_18_12_5_1 : q_fok (q_cs 12) 18 12 5 1 := by
  intro c hc
  have hm := q_sub_c 12 [12] (by decide +kernel) hc
  rcases q_memb_or hm with rfl | hm
  · exact ⟨RX12, TX12, rfl, (by decide +kernel), ⟨"WhirlShaftsModel", (by decide +kernel), q_in 899 (by decide +kernel) (by decide +kernel)⟩, (by decide +kernel)⟩
  · cases hm
theorem rLF_12_21_12_6_1 : q_fok (q_cs 12) 21 12 6 1 := by
  intro c hc
  have hm := q_sub_c 12 [12] (by decide +kernel) hc
  rcases q_memb_or hm with rfl | hm
  · exact ⟨RX12, TX12, rfl, (by decide +kernel), ⟨"WhirlShaftsModel", (by decide +kernel), q_in 900 (by decide +kernel) (by decide +kernel)⟩, (by decide +kernel)⟩
  · cases hm
theorem rLF_12_24_12_7_1 : q_fok (q_cs 12) 24 12 7 1 := by
  intro c hc
  have hm := q_sub_c 12 [12] (by decide +kernel) hc
  rcases q_memb_or hm with rfl | hm
  · exact ⟨RX12, TX12, rfl, (by decide +kernel), ⟨"WhirlShaftsModel", (by decide +kernel), q_in 901 (by decide +kernel) (by decide +kernel)⟩, (by decide +kernel)⟩
  · cases hm
theorem rLF_12_27_12_8_1 : q_fok (q_cs 12) 27 12 8 1 := by
  intro c hc
  have hm := q_sub_c 12 [12] (by decide +kernel) hc
  rcases q_memb_or hm with rfl | hm
  · exact ⟨RX12, TX12, rfl, (by decide +kernel), ⟨"WhirlShaftsModel", (by decide +kernel), q_in 902 (by decide +kernel) (by decide +kernel)⟩, (by decide +kernel)⟩
  · cases hm
theorem rLF_12_30_12_9_1 : q_fok (q_cs 12) 30 12 9 1 := by
  intro c hc
  have hm := q_sub_c 12 [12] (by decide +kernel) hc
  rcases q_memb_or hm with rfl | hm
  · exact ⟨RX12, TX12, rfl, (by decide +kernel), ⟨"WhirlShaftsModel", (by decide +kernel), q_in 903 (by decide +kernel) (by decide +kernel)⟩, (by decide +kernel)⟩
  · cases hm
theorem rLF_12_33_12_10_1 : q_fok (q_cs 12) 33 12 10 1 := by
  intro c hc
  have hm := q_sub_c 12 [12] (by decide +kernel) hc
  rcases q_memb_or hm with rfl | hm
  · exact ⟨RX12, TX12, rfl, (by decide +kernel), ⟨"WhirlShaftsModel", (by decide +kernel), q_in 904 (by decide +kernel) (by decide +kernel)⟩, (by decide +kernel)⟩
  · cases hm
theorem rLF_12_36_12_11_1 : q_fok (q_cs 12) 36 12 11 1 := by
  intro c hc
  have hm := q_sub_c 12 [12] (by decide +kernel) hc
  rcases q_memb_or hm with rfl | hm
  · exact ⟨RX12, TX12, rfl, (by decide +kernel), ⟨"WhirlShaftsModel", (by decide +kernel), q_in 905 (by decide +kernel) (by decide +kernel)⟩, (by decide +kernel)⟩
  · cases hm
theorem rLF_12_39_12_12_1 : q_fok (q_cs 12) 39 12 12 1 := by
  intro c hc
  have hm := q_sub_c 12 [12] (by decide +kernel) hc
  rcases q_memb_or hm with rfl | hm
  · exact ⟨RX12, TX12, rfl, (by decide +kernel), ⟨"WhirlShaftsModel", (by decide +kernel), q_in 906 (by decide +kernel) (by decide +kernel)⟩, (by decide +kernel)⟩
  · cases hm
theorem rLF_12_42_12_13_1 : q_fok (q_cs 12) 42 12 13 1 := by
  intro c hc
  have hm := q_sub_c 12 [12] (by decide +kernel) hc
  rcases q_memb_or hm with rfl | hm
  · exact ⟨RX12, TX12, rfl, (by decide +kernel), ⟨"WhirlShaftsModel", (by decide +kernel), q_in 907 (by decide +kernel) (by decide +kernel)⟩, (by decide +kernel)⟩
  · cases hm
theorem rLF_12_46_12_14_1 : q_fok (q_cs 12) 46 12 14 1 := by
  intro c hc
  have hm := q_sub_c 12 [12] (by decide +kernel) hc
  rcases q_memb_or hm with rfl | hm
  · exact ⟨RX12, TX12, rfl, (by decide +kernel), ⟨"WhirlShaftsModel", (by decide +kernel), q_in 908 (by decide +kernel) (by decide +kernel)⟩, (by decide +kernel)⟩
  · cases hm
theorem rLF_12_49_12_15_1 : q_fok (q_cs 12) 49 12 15 1 := by
  intro c hc
  have hm := q_sub_c 12 [12] (by decide +kernel) hc
  rcases q_memb_or hm with rfl | hm
  · exact ⟨RX12, TX12, rfl, (by decide +kernel), ⟨"WhirlShaftsModel", (by decide +kernel), q_in 909 (by decide +kernel) (by decide +kernel)⟩, (by decide +kernel)⟩
  · cases hm
theorem rLF_12_52_12_16_1 : q_fok (q_cs 12) 52 12 16 1 := by
  intro c hc
  have hm := q_sub_c 12 [12] (by decide +kernel) hc
  rcases q_memb_or hm with rfl | hm
  · exact ⟨RX12, TX12, rfl, (by decide +kernel), ⟨"WhirlShaftsModel", (by decide +kernel), q_in 910 (by decide +kernel) (by decide +kernel)⟩, (by decide +kernel)⟩
  · cases hm
theorem rLF_12_55_12_17_1 : q_fok (q_cs 12) 55 12 17 1 := by
  intro c hc
  have hm := q_sub_c 12 [12] (by decide +kernel) hc
  rcases q_memb_or hm with rfl | hm
  · exact ⟨RX12, TX12, rfl, (by decide +kernel), ⟨"WhirlShaftsModel", (by decide +kernel), q_in 911 (by decide +kernel) (by decide +kernel)⟩, (by decide +kernel)⟩
  · cases hm
theorem rLF_12_58_12_18_1 : q_fok (q_cs 12) 58 12 18 1 := by
  intro c hc
  have hm := q_sub_c 12 [12] (by decide +kernel) hc
  rcases q_memb_or hm with rfl | hm
  · exact ⟨RX12, TX12, rfl, (by decide +kernel), ⟨"WhirlShaftsModel", (by decide +kernel), q_in 912 (by decide +kernel) (by decide +kernel)⟩, (by decide +kernel)⟩
  · cases hm
theorem rLF_12_61_12_19_1 : q_fok (q_cs 12) 61 12 19 1 := by
  intro c hc
  have hm := q_sub_c 12 [12] (by decide +kernel) hc
  rcases q_memb_or hm with rfl | hm
  · exact ⟨RX12, TX12, rfl, (by decide +kernel), ⟨"WhirlShaftsModel", (by decide +kernel), q_in 913 (by decide +kernel) (by decide +kernel)⟩, (by decide +kernel)⟩
  · cases hm
theorem rLF_12_64_12_22_1 : q_fok (q_cs 12) 64 12 22 1 := by
  intro c hc
  have hm := q_sub_c 12 [12] (by decide +kernel) hc
  rcases q_memb_or hm with rfl | hm
  · exact ⟨RX12, TX12, rfl, (by decide +kernel), ⟨"WhirlShaftsModel", (by decide +kernel), q_in 916 (by decide +kernel) (by decide +kernel)⟩, (by decide +kernel)⟩
  · cases hm
theorem rLF_12_67_12_23_1 : q_fok (q_cs 12) 67 12 23 1 := by
  intro c hc
  have hm := q_sub_c 12 [12] (by decide +kernel) hc
  rcases q_memb_or hm with rfl | hm
  · exact ⟨RX12, TX12, rfl, (by decide +kernel), ⟨"WhirlShaftsModel", (by decide +kernel), q_in 917 (by decide +kernel) (by decide +kernel)⟩, (by decide +kernel)⟩
  · cases hm
theorem rLF_12_70_12_24_1 : q_fok (q_cs 12) 70 12 24 1 := by
  intro c hc
  have hm := q_sub_c 12 [12] (by decide +kernel) hc
  rcases q_memb_or hm with rfl | hm
  · exact ⟨RX12, TX12, rfl, (by decide +kernel), ⟨"WhirlShaftsModel", (by decide +kernel), q_in 918 (by decide +kernel) (by decide +kernel)⟩, (by decide +kernel)⟩
  · cases hm
theorem rLF_12_73_12_25_1 : q_fok (q_cs 12) 73 12 25 1 := by
  intro c hc
  have hm := q_sub_c 12 [12] (by decide +kernel) hc
  rcases q_memb_or hm with rfl | hm
  · exact ⟨RX12, TX12, rfl, (by decide +kernel), ⟨"WhirlShaftsModel", (by decide +kernel), q_in 919 (by decide +kernel) (by decide +kernel)⟩, (by decide +kernel)⟩
  · cases hm
theorem rLF_12_76_12_27_1 : q_fok (q_cs 12) 76 12 27 1 := by
  intro c hc
  have hm := q_sub_c 12 [12] (by decide +kernel) hc
  rcases q_memb_or hm with rfl | hm
  · exact ⟨RX12, TX12, rfl, (by decide +kernel), ⟨"WhirlShaftsModel", (by decide +kernel), q_in 921 (by decide +kernel) (by decide +kernel)⟩, (by decide +kernel)⟩
  · cases hm
theorem rLF_12_79_12_28_1 : q_fok (q_cs 12) 79 12 28 1 := by
  intro c hc
  have hm := q_sub_c 12 [12] (by decide +kernel) hc
  rcases q_memb_or hm with rfl | hm
  · exact ⟨RX12, TX12, rfl, (by decide +kernel), ⟨"WhirlShaftsModel", (by decide +kernel), q_in 922 (by decide +kernel) (by decide +kernel)⟩, (by decide +kernel)⟩
  · cases hm
theorem rLF_12_82_12_29_1 : q_fok (q_cs 12) 82 12 29 1 := by
  intro c hc
  have hm := q_sub_c 12 [12] (by decide +kernel) hc
  rcases q_memb_or hm with rfl | hm
  · exact ⟨RX12, TX12, rfl, (by decide +kernel), ⟨"WhirlShaftsModel", (by decide +kernel), q_in 923 (by decide +kernel) (by decide +kernel)⟩, (by decide +kernel)⟩
  · cases hm
theorem rLF_12_85_12_30_1 : q_fok (q_cs 12) 85 12 30 1 := by
  intro c hc
  have hm := q_sub_c 12 [12] (by decide +kernel) hc
  rcases q_memb_or hm with rfl | hm
  · exact ⟨RX12, TX12, rfl, (by decide +kernel), ⟨"WhirlShaftsModel", (by decide +kernel), q_in 924 (by decide +kernel) (by decide +kernel)⟩, (by decide +kernel)⟩
  · cases hm
theorem rLF_12_88_12_31_1 : q_fok (q_cs 12) 88 12 31 1 := by
  intro c hc
  have hm := q_sub_c 12 [12] (by decide +kernel) hc
  rcases q_memb_or hm with rfl | hm
  · exact ⟨RX12, TX12, rfl, (by decide +kernel), ⟨"WhirlShaftsModel", (by decide +kernel), q_in 925 (by decide +kernel) (by decide +kernel)⟩, (by decide +kernel)⟩
  · cases hm
theorem rLF_12_91_12_32_1 : q_fok (q_cs 12) 91 12 32 1 := by
  intro c hc
  have hm := q_sub_c 12 [12] (by decide +kernel) hc
  rcases q_memb_or hm with rfl | hm
  · exact ⟨RX12, TX12, rfl, (by decide +kernel), ⟨"WhirlShaftsModel", (by decide +kernel), q_in 926 (by decide +kernel) (by decide +kernel)⟩, (by decide +kernel)⟩
  · cases hm
theorem rLF_12_94_12_33_1 : q_fok (q_cs 12) 94 12 33 1 := by
  intro c hc
  have hm := q_sub_c 12 [12] (by decide +kernel) hc
  rcases q_memb_or hm with rfl | hm
  · exact ⟨RX12, TX12, rfl, (by decide +kernel), ⟨"WhirlShaftsModel", (by decide +kernel), q_in 927 (by decide +kernel) (by decide +kernel)⟩, (by decide +kernel)⟩
  · cases hm
theorem rLF_12_97_12_34_1 : q_fok (q_cs 12) 97 12 34 1 := by
  intro c hc
  have hm := q_sub_c 12 [12] (by decide +kernel) hc
  rcases q_memb_or hm with rfl | hm
  · exact ⟨RX12, TX12, rfl, (by decide +kernel), ⟨"WhirlShaftsModel", (by decide +kernel), q_in 928 (by decide +kernel) (by decide +kernel)⟩, (by decide +kernel)⟩
  · cases hm
theorem rLF_12_100_12_38_1 : q_fok (q_cs 12) 100 12 38 1 := by
  intro c hc
  have hm := q_sub_c 12 [12] (by decide +kernel) hc
  rcases q_memb_or hm with rfl | hm
  · exact ⟨RX12, TX12, rfl, (by decide +kernel), ⟨"WhirlShaftsModel", (by decide +kernel), q_in 932 (by decide +kernel) (by decide +kernel)⟩, (by decide +kernel)⟩
  · cases hm
theorem rLF_12_103_12_40_1 : q_fok (q_cs 12) 103 12 40 1 := by
  intro c hc
  have hm := q_sub_c 12 [12] (by decide +kernel) hc
  rcases q_memb_or hm with rfl | hm
  · exact ⟨RX12, TX12, rfl, (by decide +kernel), ⟨"WhirlShaftsModel", (by decide +kernel), q_in 934 (by decide +kernel) (by decide +kernel)⟩, (by decide +kernel)⟩
  · cases hm
theorem rLF_12_106_12_41_1 : q_fok (q_cs 12) 106 12 41 1 := by
  intro c hc
  have hm := q_sub_c 12 [12] (by decide +kernel) hc
  rcases q_memb_or hm with rfl | hm
  · exact ⟨RX12, TX12, rfl, (by decide +kernel), ⟨"WhirlShaftsModel", (by decide +kernel), q_in 935 (by decide +kernel) (by decide +kernel)⟩, (by decide +kernel)⟩
  · cases hm
theorem rLF_12_109_12_42_1 : q_fok (q_cs 12) 109 12 42 1 := by
  intro c hc
  have hm := q_sub_c 12 [12] (by decide +kernel) hc
  rcases q_memb_or hm with rfl | hm
  · exact ⟨RX12, TX12, rfl, (by decide +kernel), ⟨"WhirlShaftsModel", (by decide +kernel), q_in 936 (by decide +kernel) (by decide +kernel)⟩, (by decide +kernel)⟩
  · cases hm
theorem rLF_12_112_12_43_1 : q_fok (q_cs 12) 112 12 43 1 := by
  intro c hc
  have hm := q_sub_c 12 [12] (by decide +kernel) hc
  rcases q_memb_or hm with rfl | hm
  · exact ⟨RX12, TX12, rfl, (by decide +kernel), ⟨"WhirlShaftsModel", (by decide +kernel), q_in 937 (by decide +kernel) (by decide +kernel)⟩, (by decide +kernel)⟩
  · cases hm
theorem rLF_12_115_12_45_0 : q_fok (q_cs 12) 115 12 45 0 := by
  intro c hc
  have hm := q_sub_c 12 [12] (by decide +kernel) hc
  rcases q_memb_or hm with rfl | hm
  · exact ⟨RX12, TX12, rfl, (by decide +kernel), ⟨"WhirlShaftsModel", (by decide +kernel), q_in 939 (by decide +kernel) (by decide +kernel)⟩, (by decide +kernel)⟩
  · cases hm
theorem rLF_12_119_12_0_0 : q_fok (q_cs 12) 119 12 0 0 := by
  intro c hc
  have hm := q_sub_c 12 [12] (by decide +kernel) hc
  rcases q_memb_or hm with rfl | hm
  · exact ⟨RX12, TX12, rfl, (by decide +kernel), ⟨"WhirlShaftsModel", (by decide +kernel), q_in 894 (by decide +kernel) (by decide +kernel)⟩, (by decide +kernel)⟩
  · cases hm
theorem rLF_12_130_12_1_0 : q_fok (q_cs 12) 130 12 1 0 := by
  intro c hc
  have hm := q_sub_c 12 [12] (by decide +kernel) hc
  rcases q_memb_or hm with rfl | hm
  · exact ⟨RX12, TX12, rfl, (by decide +kernel), ⟨"WhirlShaftsModel", (by decide +kernel), q_in 895 (by decide +kernel) (by decide +kernel)⟩, (by decide +kernel)⟩
  · cases hm
theorem rLF_12_137_12_2_0 : q_fok (q_cs 12) 137 12 2 0 := by
  intro c hc
  have hm := q_sub_c 12 [12] (by decide +kernel) hc
  rcases q_memb_or hm with rfl | hm
  · exact ⟨RX12, TX12, rfl, (by decide +kernel), ⟨"WhirlShaftsModel", (by decide +kernel), q_in 896 (by decide +kernel) (by decide +kernel)⟩, (by decide +kernel)⟩
  · cases hm
theorem rLF_12_166_12_20_0 : q_fok (q_cs 12) 166 12 20 0 := by
  intro c hc
  have hm := q_sub_c 12 [12] (by decide +kernel) hc
  rcases q_memb_or hm with rfl | hm
  · exact ⟨RX12, TX12, rfl, (by decide +kernel), ⟨"WhirlShaftsModel", (by decide +kernel), q_in 914 (by decide +kernel) (by decide +kernel)⟩, (by decide +kernel)⟩
  · cases hm
theorem rLF_12_169_12_21_0 : q_fok (q_cs 12) 169 12 21 0 := by
  intro c hc
  have hm := q_sub_c 12 [12] (by decide +kernel) hc
  rcases q_memb_or hm with rfl | hm
  · exact ⟨RX12, TX12, rfl, (by decide +kernel), ⟨"WhirlShaftsModel", (by decide +kernel), q_in 915 (by decide +kernel) (by decide +kernel)⟩, (by decide +kernel)⟩
  · cases hm
theorem rLF_12_247_12_26_0 : q_fok (q_cs 12) 247 12 26 0 := by
  intro c hc
  have hm := q_sub_c 12 [12] (by decide +kernel) hc
  rcases q_memb_or hm with rfl | hm
  · exact ⟨RX12, TX12, rfl, (by decide +kernel), ⟨"WhirlShaftsModel", (by decide +kernel), q_in 920 (by decide +kernel) (by decide +kernel)⟩, (by decide +kernel)⟩
  · cases hm
theorem rLF_12_257_12_35_0 : q_fok (q_cs 12) 257 12 35 0 := by
  intro c hc
  have hm := q_sub_c 12 [12] (by decide +kernel) hc
  rcases q_memb_or hm with rfl | hm
  · exact ⟨RX12, TX12, rfl, (by decide +kernel), ⟨"WhirlShaftsModel", (by decide +kernel), q_in 929 (by decide +kernel) (by decide +kernel)⟩, (by decide +kernel)⟩
  · cases hm
theorem rLF_12_260_12_36_0 : q_fok (q_cs 12) 260 12 36 0 := by
  intro c hc
  have hm := q_sub_c 12 [12] (by decide +kernel) hc
  rcases q_memb_or hm with rfl | hm
  · exact ⟨RX12, TX12, rfl, (by decide +kernel), ⟨"WhirlShaftsModel", (by decide +kernel), q_in 930 (by decide +kernel) (by decide +kernel)⟩, (by decide +kernel)⟩
  · cases hm
theorem rLF_12_269_12_37_0 : q_fok (q_cs 12) 269 12 37 0 := by
  intro c hc
  have hm := q_sub_c 12 [12] (by decide +kernel) hc
  rcases q_memb_or hm with rfl | hm
  · exact ⟨RX12, TX12, rfl, (by decide +kernel), ⟨"WhirlShaftsModel", (by decide +kernel), q_in 931 (by decide +kernel) (by decide +kernel)⟩, (by decide +kernel)⟩
  · cases hm
theorem rLF_12_291_12_39_0 : q_fok (q_cs 12) 291 12 39 0 := by
  intro c hc
  have hm := q_sub_c 12 [12] (by decide +kernel) hc
  rcases q_memb_or hm with rfl | hm
  · exact ⟨RX12, TX12, rfl, (by decide +kernel), ⟨"WhirlShaftsModel", (by decide +kernel), q_in 933 (by decide +kernel) (by decide +kernel)⟩, (by decide +kernel)⟩
  · cases hm
theorem rLF_12_306_12_46_0 : q_fok (q_cs 12) 306 12 46 0 := by
  intro c hc
  have hm := q_sub_c 12 [12] (by decide +kernel) hc
  rcases q_memb_or hm with rfl | hm
  · exact ⟨RX12, TX12, rfl, (by decide +kernel), ⟨"WhirlShaftsModel", (by decide +kernel), q_in 940 (by decide +kernel) (by decide +kernel)⟩, (by decide +kernel)⟩
  · cases hm
theorem rLF_12_310_12_44_0 : q_fok (q_cs 12) 310 12 44 0 := by
  intro c hc
  have hm := q_sub_c 12 [12] (by decide +kernel) hc
  rcases q_memb_or hm with rfl | hm
  · exact ⟨RX12, TX12, rfl, (by decide +kernel), ⟨"WhirlShaftsModel", (by decide +kernel), q_in 938 (by decide +kernel) (by decide +kernel)⟩, (by decide +kernel)⟩
  · cases hm
theorem rLP_0_24_0_4_0 : q_pok (q_cs 0) 24 0 4 .int := by
  intro c hc
  have hm := q_sub_c 0 [0] (by decide +kernel) hc
  rcases q_memb_or hm with rfl | hm
  · exact ⟨RX0, TX0, rfl, (by decide +kernel), ⟨"WhirlShafts$Changes", (by decide +kernel), q_in 211 (by decide +kernel) (by decide +kernel)⟩, (by decide +kernel), (by decide +kernel), (by decide +kernel)⟩
  · cases hm
theorem rLP_0_28_0_5_0 : q_pok (q_cs 0) 28 0 5 .int := by
  intro c hc
  have hm := q_sub_c 0 [0] (by decide +kernel) hc
  rcases q_memb_or hm with rfl | hm
  · exact ⟨RX0, TX0, rfl, (by decide +kernel), ⟨"WhirlShafts$Changes", (by decide +kernel), q_in 213 (by decide +kernel) (by decide +kernel)⟩, (by decide +kernel), (by decide +kernel), (by decide +kernel)⟩
  · cases hm
theorem rLP_2_15_2_1_0 : q_pok (q_cs 2) 15 2 1 .int := by
  intro c hc
  have hm := q_sub_c 2 [1, 2, 3, 7, 9] (by decide +kernel) hc
  rcases q_memb_or hm with rfl | hm
  · exact ⟨RX1, TX1, rfl, (by decide +kernel), ⟨"WhirlShafts$Disc", (by decide +kernel), q_in 79 (by decide +kernel) (by decide +kernel)⟩, (by decide +kernel), (by decide +kernel), (by decide +kernel)⟩
  rcases q_memb_or hm with rfl | hm
  · exact ⟨RX2, TX2, rfl, (by decide +kernel), ⟨"WhirlShafts$Disc", (by decide +kernel), q_in 79 (by decide +kernel) (by decide +kernel)⟩, (by decide +kernel), (by decide +kernel), (by decide +kernel)⟩
  rcases q_memb_or hm with rfl | hm
  · exact ⟨RX3, TX3, rfl, (by decide +kernel), ⟨"WhirlShafts$Disc", (by decide +kernel), q_in 79 (by decide +kernel) (by decide +kernel)⟩, (by decide +kernel), (by decide +kernel), (by decide +kernel)⟩
  rcases q_memb_or hm with rfl | hm
  · exact ⟨RX7, TX7, rfl, (by decide +kernel), ⟨"WhirlShafts$Disc", (by decide +kernel), q_in 79 (by decide +kernel) (by decide +kernel)⟩, (by decide +kernel), (by decide +kernel), (by decide +kernel)⟩
  rcases q_memb_or hm with rfl | hm
  · exact ⟨RX9, TX9, rfl, (by decide +kernel), ⟨"WhirlShafts$Disc", (by decide +kernel), q_in 79 (by decide +kernel) (by decide +kernel)⟩, (by decide +kernel), (by decide +kernel), (by decide +kernel)⟩
  · cases hm
theorem rLP_2_19_2_2_0 : q_pok (q_cs 2) 19 2 2 .int := by
  intro c hc
  have hm := q_sub_c 2 [1, 2, 3, 7, 9] (by decide +kernel) hc
  rcases q_memb_or hm with rfl | hm
  · exact ⟨RX1, TX1, rfl, (by decide +kernel), ⟨"WhirlShafts$Disc", (by decide +kernel), q_in 81 (by decide +kernel) (by decide +kernel)⟩, (by decide +kernel), (by decide +kernel), (by decide +kernel)⟩
  rcases q_memb_or hm with rfl | hm
  · exact ⟨RX2, TX2, rfl, (by decide +kernel), ⟨"WhirlShafts$Disc", (by decide +kernel), q_in 81 (by decide +kernel) (by decide +kernel)⟩, (by decide +kernel), (by decide +kernel), (by decide +kernel)⟩
  rcases q_memb_or hm with rfl | hm
  · exact ⟨RX3, TX3, rfl, (by decide +kernel), ⟨"WhirlShafts$Disc", (by decide +kernel), q_in 81 (by decide +kernel) (by decide +kernel)⟩, (by decide +kernel), (by decide +kernel), (by decide +kernel)⟩
  rcases q_memb_or hm with rfl | hm
  · exact ⟨RX7, TX7, rfl, (by decide +kernel), ⟨"WhirlShafts$Disc", (by decide +kernel), q_in 81 (by decide +kernel) (by decide +kernel)⟩, (by decide +kernel), (by decide +kernel), (by decide +kernel)⟩
  rcases q_memb_or hm with rfl | hm
  · exact ⟨RX9, TX9, rfl, (by decide +kernel), ⟨"WhirlShafts$Disc", (by decide +kernel), q_in 81 (by decide +kernel) (by decide +kernel)⟩, (by decide +kernel), (by decide +kernel), (by decide +kernel)⟩
  · cases hm
theorem rLP_2_22_2_3_0 : q_pok (q_cs 2) 22 2 3 .int := by
  intro c hc
  have hm := q_sub_c 2 [1, 2, 3, 7, 9] (by decide +kernel) hc
  rcases q_memb_or hm with rfl | hm
  · exact ⟨RX1, TX1, rfl, (by decide +kernel), ⟨"WhirlShafts$Disc", (by decide +kernel), q_in 82 (by decide +kernel) (by decide +kernel)⟩, (by decide +kernel), (by decide +kernel), (by decide +kernel)⟩
  rcases q_memb_or hm with rfl | hm
  · exact ⟨RX2, TX2, rfl, (by decide +kernel), ⟨"WhirlShafts$Disc", (by decide +kernel), q_in 82 (by decide +kernel) (by decide +kernel)⟩, (by decide +kernel), (by decide +kernel), (by decide +kernel)⟩
  rcases q_memb_or hm with rfl | hm
  · exact ⟨RX3, TX3, rfl, (by decide +kernel), ⟨"WhirlShafts$Disc", (by decide +kernel), q_in 82 (by decide +kernel) (by decide +kernel)⟩, (by decide +kernel), (by decide +kernel), (by decide +kernel)⟩
  rcases q_memb_or hm with rfl | hm
  · exact ⟨RX7, TX7, rfl, (by decide +kernel), ⟨"WhirlShafts$Disc", (by decide +kernel), q_in 82 (by decide +kernel) (by decide +kernel)⟩, (by decide +kernel), (by decide +kernel), (by decide +kernel)⟩
  rcases q_memb_or hm with rfl | hm
  · exact ⟨RX9, TX9, rfl, (by decide +kernel), ⟨"WhirlShafts$Disc", (by decide +kernel), q_in 82 (by decide +kernel) (by decide +kernel)⟩, (by decide +kernel), (by decide +kernel), (by decide +kernel)⟩
  · cases hm
theorem rLP_4_31_4_6_0 : q_pok (q_cs 4) 31 4 6 .int := by
  intro c hc
  have hm := q_sub_c 4 [4] (by decide +kernel) hc
  rcases q_memb_or hm with rfl | hm
  · exact ⟨RX4, TX4, rfl, (by decide +kernel), ⟨"WhirlShafts$Line", (by decide +kernel), q_in 153 (by decide +kernel) (by decide +kernel)⟩, (by decide +kernel), (by decide +kernel), (by decide +kernel)⟩
  · cases hm
theorem rLP_4_35_4_7_0 : q_pok (q_cs 4) 35 4 7 .int := by
  intro c hc
  have hm := q_sub_c 4 [4] (by decide +kernel) hc
  rcases q_memb_or hm with rfl | hm
  · exact ⟨RX4, TX4, rfl, (by decide +kernel), ⟨"WhirlShafts$Line", (by decide +kernel), q_in 155 (by decide +kernel) (by decide +kernel)⟩, (by decide +kernel), (by decide +kernel), (by decide +kernel)⟩
  · cases hm
theorem rLP_4_38_4_8_0 : q_pok (q_cs 4) 38 4 8 .int := by
  intro c hc
  have hm := q_sub_c 4 [4] (by decide +kernel) hc
  rcases q_memb_or hm with rfl | hm
  · exact ⟨RX4, TX4, rfl, (by decide +kernel), ⟨"WhirlShafts$Line", (by decide +kernel), q_in 157 (by decide +kernel) (by decide +kernel)⟩, (by decide +kernel), (by decide +kernel), (by decide +kernel)⟩
  · cases hm
theorem rLP_5_21_5_3_0 : q_pok (q_cs 5) 21 5 3 .int := by
  intro c hc
  have hm := q_sub_c 5 [5] (by decide +kernel) hc
  rcases q_memb_or hm with rfl | hm
  · exact ⟨RX5, TX5, rfl, (by decide +kernel), ⟨"WhirlShafts$Orders", (by decide +kernel), q_in 190 (by decide +kernel) (by decide +kernel)⟩, (by decide +kernel), (by decide +kernel), (by decide +kernel)⟩
  · cases hm
theorem rLP_6_32_6_0_0 : q_pok (q_cs 6) 32 6 0 .int := by
  intro c hc
  have hm := q_sub_c 6 [6] (by decide +kernel) hc
  rcases q_memb_or hm with rfl | hm
  · exact ⟨RX6, TX6, rfl, (by decide +kernel), ⟨"WhirlShafts$Rates", (by decide +kernel), q_in 236 (by decide +kernel) (by decide +kernel)⟩, (by decide +kernel), (by decide +kernel), (by decide +kernel)⟩
  · cases hm
theorem rLP_8_15_8_1_0 : q_pok (q_cs 8) 15 8 1 .int := by
  intro c hc
  have hm := q_sub_c 8 [8] (by decide +kernel) hc
  rcases q_memb_or hm with rfl | hm
  · exact ⟨RX8, TX8, rfl, (by decide +kernel), ⟨"WhirlShafts$Row", (by decide +kernel), q_in 284 (by decide +kernel) (by decide +kernel)⟩, (by decide +kernel), (by decide +kernel), (by decide +kernel)⟩
  · cases hm
theorem rLP_8_19_8_2_0 : q_pok (q_cs 8) 19 8 2 .int := by
  intro c hc
  have hm := q_sub_c 8 [8] (by decide +kernel) hc
  rcases q_memb_or hm with rfl | hm
  · exact ⟨RX8, TX8, rfl, (by decide +kernel), ⟨"WhirlShafts$Row", (by decide +kernel), q_in 286 (by decide +kernel) (by decide +kernel)⟩, (by decide +kernel), (by decide +kernel), (by decide +kernel)⟩
  · cases hm
theorem rLP_10_18_10_1_0 : q_pok (q_cs 10) 18 10 1 .int := by
  intro c hc
  have hm := q_sub_c 10 [10] (by decide +kernel) hc
  rcases q_memb_or hm with rfl | hm
  · exact ⟨RX10, TX10, rfl, (by decide +kernel), ⟨"WhirlShafts$Tape", (by decide +kernel), q_in 260 (by decide +kernel) (by decide +kernel)⟩, (by decide +kernel), (by decide +kernel), (by decide +kernel)⟩
  · cases hm
theorem rLP_10_30_10_2_0 : q_pok (q_cs 10) 30 10 2 .int := by
  intro c hc
  have hm := q_sub_c 10 [10] (by decide +kernel) hc
  rcases q_memb_or hm with rfl | hm
  · exact ⟨RX10, TX10, rfl, (by decide +kernel), ⟨"WhirlShafts$Tape", (by decide +kernel), q_in 262 (by decide +kernel) (by decide +kernel)⟩, (by decide +kernel), (by decide +kernel), (by decide +kernel)⟩
  · cases hm
theorem rLP_11_95_4_6_0 : q_pok (q_cs 11) 95 4 6 .int := by
  intro c hc
  have hm := q_sub_c 4 [4] (by decide +kernel) hc
  rcases q_memb_or hm with rfl | hm
  · exact ⟨RX4, TX4, rfl, (by decide +kernel), ⟨"WhirlShafts$Line", (by decide +kernel), q_in 154 (by decide +kernel) (by decide +kernel)⟩, (by decide +kernel), (by decide +kernel), (by decide +kernel)⟩
  · cases hm
theorem rLP_11_106_4_7_0 : q_pok (q_cs 11) 106 4 7 .int := by
  intro c hc
  have hm := q_sub_c 4 [4] (by decide +kernel) hc
  rcases q_memb_or hm with rfl | hm
  · exact ⟨RX4, TX4, rfl, (by decide +kernel), ⟨"WhirlShafts$Line", (by decide +kernel), q_in 156 (by decide +kernel) (by decide +kernel)⟩, (by decide +kernel), (by decide +kernel), (by decide +kernel)⟩
  · cases hm
theorem rLP_11_109_4_8_0 : q_pok (q_cs 11) 109 4 8 .int := by
  intro c hc
  have hm := q_sub_c 4 [4] (by decide +kernel) hc
  rcases q_memb_or hm with rfl | hm
  · exact ⟨RX4, TX4, rfl, (by decide +kernel), ⟨"WhirlShafts$Line", (by decide +kernel), q_in 158 (by decide +kernel) (by decide +kernel)⟩, (by decide +kernel), (by decide +kernel), (by decide +kernel)⟩
  · cases hm
theorem rLP_11_244_5_3_0 : q_pok (q_cs 11) 244 5 3 .int := by
  intro c hc
  have hm := q_sub_c 5 [5] (by decide +kernel) hc
  rcases q_memb_or hm with rfl | hm
  · exact ⟨RX5, TX5, rfl, (by decide +kernel), ⟨"WhirlShafts$Orders", (by decide +kernel), q_in 191 (by decide +kernel) (by decide +kernel)⟩, (by decide +kernel), (by decide +kernel), (by decide +kernel)⟩
  · cases hm
theorem rLP_11_274_10_1_0 : q_pok (q_cs 11) 274 10 1 .int := by
  intro c hc
  have hm := q_sub_c 10 [10] (by decide +kernel) hc
  rcases q_memb_or hm with rfl | hm
  · exact ⟨RX10, TX10, rfl, (by decide +kernel), ⟨"WhirlShafts$Tape", (by decide +kernel), q_in 261 (by decide +kernel) (by decide +kernel)⟩, (by decide +kernel), (by decide +kernel), (by decide +kernel)⟩
  · cases hm
theorem rLP_11_309_11_1_2 : q_pok (q_cs 11) 309 11 1 (.object "WhirlShafts$Disc") := by
  intro c hc
  have hm := q_sub_c 11 [11] (by decide +kernel) hc
  rcases q_memb_or hm with rfl | hm
  · exact ⟨RX11, TX11, rfl, (by decide +kernel), ⟨"WhirlShafts", (by decide +kernel), q_in 296 (by decide +kernel) (by decide +kernel)⟩, (by decide +kernel), (by decide +kernel), (by decide +kernel)⟩
  · cases hm
theorem rLP_11_337_11_5_4 : q_pok (q_cs 11) 337 11 5 .boolean := by
  intro c hc
  have hm := q_sub_c 11 [11] (by decide +kernel) hc
  rcases q_memb_or hm with rfl | hm
  · exact ⟨RX11, TX11, rfl, (by decide +kernel), ⟨"WhirlShafts", (by decide +kernel), q_in 300 (by decide +kernel) (by decide +kernel)⟩, (by decide +kernel), (by decide +kernel), (by decide +kernel)⟩
  · cases hm
theorem rLP_11_361_10_2_0 : q_pok (q_cs 11) 361 10 2 .int := by
  intro c hc
  have hm := q_sub_c 10 [10] (by decide +kernel) hc
  rcases q_memb_or hm with rfl | hm
  · exact ⟨RX10, TX10, rfl, (by decide +kernel), ⟨"WhirlShafts$Tape", (by decide +kernel), q_in 263 (by decide +kernel) (by decide +kernel)⟩, (by decide +kernel), (by decide +kernel), (by decide +kernel)⟩
  · cases hm
theorem rLP_12_115_12_45_0 : q_pok (q_cs 12) 115 12 45 .int := by
  intro c hc
  have hm := q_sub_c 12 [12] (by decide +kernel) hc
  rcases q_memb_or hm with rfl | hm
  · exact ⟨RX12, TX12, rfl, (by decide +kernel), ⟨"WhirlShaftsModel", (by decide +kernel), q_in 939 (by decide +kernel) (by decide +kernel)⟩, (by decide +kernel), (by decide +kernel), (by decide +kernel)⟩
  · cases hm
theorem rLP_12_119_12_0_0 : q_pok (q_cs 12) 119 12 0 .int := by
  intro c hc
  have hm := q_sub_c 12 [12] (by decide +kernel) hc
  rcases q_memb_or hm with rfl | hm
  · exact ⟨RX12, TX12, rfl, (by decide +kernel), ⟨"WhirlShaftsModel", (by decide +kernel), q_in 894 (by decide +kernel) (by decide +kernel)⟩, (by decide +kernel), (by decide +kernel), (by decide +kernel)⟩
  · cases hm
theorem rLP_12_130_12_1_0 : q_pok (q_cs 12) 130 12 1 .int := by
  intro c hc
  have hm := q_sub_c 12 [12] (by decide +kernel) hc
  rcases q_memb_or hm with rfl | hm
  · exact ⟨RX12, TX12, rfl, (by decide +kernel), ⟨"WhirlShaftsModel", (by decide +kernel), q_in 895 (by decide +kernel) (by decide +kernel)⟩, (by decide +kernel), (by decide +kernel), (by decide +kernel)⟩
  · cases hm
theorem rLP_12_137_12_2_0 : q_pok (q_cs 12) 137 12 2 .int := by
  intro c hc
  have hm := q_sub_c 12 [12] (by decide +kernel) hc
  rcases q_memb_or hm with rfl | hm
  · exact ⟨RX12, TX12, rfl, (by decide +kernel), ⟨"WhirlShaftsModel", (by decide +kernel), q_in 896 (by decide +kernel) (by decide +kernel)⟩, (by decide +kernel), (by decide +kernel), (by decide +kernel)⟩
  · cases hm
theorem rLP_12_166_12_20_0 : q_pok (q_cs 12) 166 12 20 .int := by
  intro c hc
  have hm := q_sub_c 12 [12] (by decide +kernel) hc
  rcases q_memb_or hm with rfl | hm
  · exact ⟨RX12, TX12, rfl, (by decide +kernel), ⟨"WhirlShaftsModel", (by decide +kernel), q_in 914 (by decide +kernel) (by decide +kernel)⟩, (by decide +kernel), (by decide +kernel), (by decide +kernel)⟩
  · cases hm
theorem rLP_12_169_12_21_0 : q_pok (q_cs 12) 169 12 21 .int := by
  intro c hc
  have hm := q_sub_c 12 [12] (by decide +kernel) hc
  rcases q_memb_or hm with rfl | hm
  · exact ⟨RX12, TX12, rfl, (by decide +kernel), ⟨"WhirlShaftsModel", (by decide +kernel), q_in 915 (by decide +kernel) (by decide +kernel)⟩, (by decide +kernel), (by decide +kernel), (by decide +kernel)⟩
  · cases hm
theorem rLP_12_247_12_26_0 : q_pok (q_cs 12) 247 12 26 .int := by
  intro c hc
  have hm := q_sub_c 12 [12] (by decide +kernel) hc
  rcases q_memb_or hm with rfl | hm
  · exact ⟨RX12, TX12, rfl, (by decide +kernel), ⟨"WhirlShaftsModel", (by decide +kernel), q_in 920 (by decide +kernel) (by decide +kernel)⟩, (by decide +kernel), (by decide +kernel), (by decide +kernel)⟩
  · cases hm
theorem rLP_12_257_12_35_0 : q_pok (q_cs 12) 257 12 35 .int := by
  intro c hc
  have hm := q_sub_c 12 [12] (by decide +kernel) hc
  rcases q_memb_or hm with rfl | hm
  · exact ⟨RX12, TX12, rfl, (by decide +kernel), ⟨"WhirlShaftsModel", (by decide +kernel), q_in 929 (by decide +kernel) (by decide +kernel)⟩, (by decide +kernel), (by decide +kernel), (by decide +kernel)⟩
  · cases hm
theorem rLP_12_260_12_36_0 : q_pok (q_cs 12) 260 12 36 .int := by
  intro c hc
  have hm := q_sub_c 12 [12] (by decide +kernel) hc
  rcases q_memb_or hm with rfl | hm
  · exact ⟨RX12, TX12, rfl, (by decide +kernel), ⟨"WhirlShaftsModel", (by decide +kernel), q_in 930 (by decide +kernel) (by decide +kernel)⟩, (by decide +kernel), (by decide +kernel), (by decide +kernel)⟩
  · cases hm
theorem rLP_12_269_12_37_0 : q_pok (q_cs 12) 269 12 37 .int := by
  intro c hc
  have hm := q_sub_c 12 [12] (by decide +kernel) hc
  rcases q_memb_or hm with rfl | hm
  · exact ⟨RX12, TX12, rfl, (by decide +kernel), ⟨"WhirlShaftsModel", (by decide +kernel), q_in 931 (by decide +kernel) (by decide +kernel)⟩, (by decide +kernel), (by decide +kernel), (by decide +kernel)⟩
  · cases hm
theorem rLP_12_291_12_39_0 : q_pok (q_cs 12) 291 12 39 .int := by
  intro c hc
  have hm := q_sub_c 12 [12] (by decide +kernel) hc
  rcases q_memb_or hm with rfl | hm
  · exact ⟨RX12, TX12, rfl, (by decide +kernel), ⟨"WhirlShaftsModel", (by decide +kernel), q_in 933 (by decide +kernel) (by decide +kernel)⟩, (by decide +kernel), (by decide +kernel), (by decide +kernel)⟩
  · cases hm
theorem rLP_12_306_12_46_4 : q_pok (q_cs 12) 306 12 46 .boolean := by
  intro c hc
  have hm := q_sub_c 12 [12] (by decide +kernel) hc
  rcases q_memb_or hm with rfl | hm
  · exact ⟨RX12, TX12, rfl, (by decide +kernel), ⟨"WhirlShaftsModel", (by decide +kernel), q_in 940 (by decide +kernel) (by decide +kernel)⟩, (by decide +kernel), (by decide +kernel), (by decide +kernel)⟩
  · cases hm
theorem rLP_12_310_12_44_0 : q_pok (q_cs 12) 310 12 44 .int := by
  intro c hc
  have hm := q_sub_c 12 [12] (by decide +kernel) hc
  rcases q_memb_or hm with rfl | hm
  · exact ⟨RX12, TX12, rfl, (by decide +kernel), ⟨"WhirlShaftsModel", (by decide +kernel), q_in 938 (by decide +kernel) (by decide +kernel)⟩, (by decide +kernel), (by decide +kernel), (by decide +kernel)⟩
  · cases hm
theorem rLV_0_31_0_2 : q_okV (q_cs 0) 31 (q_cs 0) 2 0 := Or.inl ⟨(by decide +kernel), q_in 399 (by decide +kernel) (by decide +kernel), q_in 400 (by decide +kernel) (by decide +kernel), q_in 401 (by decide +kernel) (by decide +kernel), (by decide +kernel)⟩
theorem rLV_0_40_4_24 : q_okV (q_cs 0) 40 (q_cs 4) 24 3 := Or.inl ⟨(by decide +kernel), q_in 670 (by decide +kernel) (by decide +kernel), q_in 392 (by decide +kernel) (by decide +kernel), q_in 393 (by decide +kernel) (by decide +kernel), (by decide +kernel)⟩
theorem rLV_1_11_1_9 : q_okV (q_cs 1) 11 (q_cs 1) 9 1 := Or.inr (Or.inl ⟨⟨"WhirlShafts$Crown", "note", "(I)V"⟩, q_in 781 (by decide +kernel) (by decide +kernel), q_in 782 (by decide +kernel) (by decide +kernel), q_in 784 (by decide +kernel) (by decide +kernel), q_in 785 (by decide +kernel) (by decide +kernel), (by decide +kernel), (by decide +kernel)⟩)
theorem rLV_2_25_1_9 : q_okV (q_cs 2) 25 (q_cs 1) 9 1 := Or.inr (Or.inl ⟨⟨"WhirlShafts$Disc", "note", "(I)V"⟩, q_in 801 (by decide +kernel) (by decide +kernel), q_in 1387 (by decide +kernel) (by decide +kernel), q_in 1388 (by decide +kernel) (by decide +kernel), q_in 785 (by decide +kernel) (by decide +kernel), (by decide +kernel), (by decide +kernel)⟩)
theorem rLV_2_25_2_9 : q_okV (q_cs 2) 25 (q_cs 2) 9 1 := Or.inl ⟨(by decide +kernel), q_in 801 (by decide +kernel) (by decide +kernel), q_in 785 (by decide +kernel) (by decide +kernel), q_in 1389 (by decide +kernel) (by decide +kernel), (by decide +kernel)⟩
theorem rLV_2_25_3_9 : q_okV (q_cs 2) 25 (q_cs 3) 9 1 := Or.inr (Or.inl ⟨⟨"WhirlShafts$Disc", "note", "(I)V"⟩, q_in 801 (by decide +kernel) (by decide +kernel), q_in 1387 (by decide +kernel) (by decide +kernel), q_in 1390 (by decide +kernel) (by decide +kernel), q_in 785 (by decide +kernel) (by decide +kernel), (by decide +kernel), (by decide +kernel)⟩)
theorem rLV_2_25_7_9 : q_okV (q_cs 2) 25 (q_cs 7) 9 1 := Or.inr (Or.inl ⟨⟨"WhirlShafts$Disc", "note", "(I)V"⟩, q_in 801 (by decide +kernel) (by decide +kernel), q_in 1387 (by decide +kernel) (by decide +kernel), q_in 1391 (by decide +kernel) (by decide +kernel), q_in 785 (by decide +kernel) (by decide +kernel), (by decide +kernel), (by decide +kernel)⟩)
theorem rLV_2_25_9_9 : q_okV (q_cs 2) 25 (q_cs 9) 9 1 := Or.inr (Or.inl ⟨⟨"WhirlShafts$Disc", "note", "(I)V"⟩, q_in 801 (by decide +kernel) (by decide +kernel), q_in 1387 (by decide +kernel) (by decide +kernel), q_in 1392 (by decide +kernel) (by decide +kernel), q_in 785 (by decide +kernel) (by decide +kernel), (by decide +kernel), (by decide +kernel)⟩)
theorem rLV_2_29_1_7 : q_okV (q_cs 2) 29 (q_cs 1) 7 1 := Or.inr (Or.inr ⟨⟨"WhirlShafts$Disc", "spins", "(I)I"⟩, "WhirlShafts$Disc", prog_4_method_5_code, 2, (some .int), q_in 830 (by decide +kernel) (by decide +kernel), q_in 777 (by decide +kernel) (by decide +kernel), q_in 775 (by decide +kernel) (by decide +kernel), q_in 778 (by decide +kernel) (by decide +kernel), q_in 779 (by decide +kernel) (by decide +kernel), q_in 800 (by decide +kernel) (by decide +kernel), (by decide +kernel), (by decide +kernel)⟩)
theorem rLV_2_29_2_11 : q_okV (q_cs 2) 29 (q_cs 2) 11 1 := Or.inl ⟨(by decide +kernel), q_in 830 (by decide +kernel) (by decide +kernel), q_in 775 (by decide +kernel) (by decide +kernel), q_in 776 (by decide +kernel) (by decide +kernel), (by decide +kernel)⟩
theorem rLV_2_29_3_15 : q_okV (q_cs 2) 29 (q_cs 3) 15 1 := Or.inr (Or.inr ⟨⟨"WhirlShafts$Disc", "spins", "(I)I"⟩, "WhirlShafts$Disc", prog_4_method_5_code, 2, (some .int), q_in 830 (by decide +kernel) (by decide +kernel), q_in 777 (by decide +kernel) (by decide +kernel), q_in 775 (by decide +kernel) (by decide +kernel), q_in 790 (by decide +kernel) (by decide +kernel), q_in 791 (by decide +kernel) (by decide +kernel), q_in 800 (by decide +kernel) (by decide +kernel), (by decide +kernel), (by decide +kernel)⟩)
theorem rLV_2_29_7_11 : q_okV (q_cs 2) 29 (q_cs 7) 11 1 := Or.inr (Or.inl ⟨⟨"WhirlShafts$Disc", "spins", "(I)I"⟩, q_in 830 (by decide +kernel) (by decide +kernel), q_in 777 (by decide +kernel) (by decide +kernel), q_in 798 (by decide +kernel) (by decide +kernel), q_in 775 (by decide +kernel) (by decide +kernel), (by decide +kernel), (by decide +kernel)⟩)
theorem rLV_2_29_9_15 : q_okV (q_cs 2) 29 (q_cs 9) 15 1 := Or.inr (Or.inr ⟨⟨"WhirlShafts$Disc", "spins", "(I)I"⟩, "WhirlShafts$Disc", prog_4_method_5_code, 2, (some .int), q_in 830 (by decide +kernel) (by decide +kernel), q_in 777 (by decide +kernel) (by decide +kernel), q_in 775 (by decide +kernel) (by decide +kernel), q_in 799 (by decide +kernel) (by decide +kernel), q_in 791 (by decide +kernel) (by decide +kernel), q_in 800 (by decide +kernel) (by decide +kernel), (by decide +kernel), (by decide +kernel)⟩)
theorem rLV_2_33_1_47 : q_okV (q_cs 2) 33 (q_cs 1) 47 1 := Or.inr (Or.inr ⟨⟨"WhirlShafts$Disc", "swings", "(I)I"⟩, "WhirlShafts$Disc", prog_4_method_6_code, 2, (some .int), q_in 845 (by decide +kernel) (by decide +kernel), q_in 805 (by decide +kernel) (by decide +kernel), q_in 803 (by decide +kernel) (by decide +kernel), q_in 806 (by decide +kernel) (by decide +kernel), q_in 807 (by decide +kernel) (by decide +kernel), q_in 829 (by decide +kernel) (by decide +kernel), (by decide +kernel), (by decide +kernel)⟩)
theorem rLV_2_33_2_12 : q_okV (q_cs 2) 33 (q_cs 2) 12 1 := Or.inl ⟨(by decide +kernel), q_in 845 (by decide +kernel) (by decide +kernel), q_in 803 (by decide +kernel) (by decide +kernel), q_in 804 (by decide +kernel) (by decide +kernel), (by decide +kernel)⟩
theorem rLV_2_33_3_12 : q_okV (q_cs 2) 33 (q_cs 3) 12 1 := Or.inr (Or.inl ⟨⟨"WhirlShafts$Disc", "swings", "(I)I"⟩, q_in 845 (by decide +kernel) (by decide +kernel), q_in 805 (by decide +kernel) (by decide +kernel), q_in 814 (by decide +kernel) (by decide +kernel), q_in 803 (by decide +kernel) (by decide +kernel), (by decide +kernel), (by decide +kernel)⟩)
theorem rLV_2_33_7_47 : q_okV (q_cs 2) 33 (q_cs 7) 47 1 := Or.inr (Or.inr ⟨⟨"WhirlShafts$Disc", "swings", "(I)I"⟩, "WhirlShafts$Disc", prog_4_method_6_code, 2, (some .int), q_in 845 (by decide +kernel) (by decide +kernel), q_in 805 (by decide +kernel) (by decide +kernel), q_in 803 (by decide +kernel) (by decide +kernel), q_in 815 (by decide +kernel) (by decide +kernel), q_in 807 (by decide +kernel) (by decide +kernel), q_in 829 (by decide +kernel) (by decide +kernel), (by decide +kernel), (by decide +kernel)⟩)
theorem rLV_2_33_9_54 : q_okV (q_cs 2) 33 (q_cs 9) 54 1 := Or.inr (Or.inr ⟨⟨"WhirlShafts$Disc", "swings", "(I)I"⟩, "WhirlShafts$Disc", prog_4_method_6_code, 2, (some .int), q_in 845 (by decide +kernel) (by decide +kernel), q_in 805 (by decide +kernel) (by decide +kernel), q_in 803 (by decide +kernel) (by decide +kernel), q_in 816 (by decide +kernel) (by decide +kernel), q_in 817 (by decide +kernel) (by decide +kernel), q_in 829 (by decide +kernel) (by decide +kernel), (by decide +kernel), (by decide +kernel)⟩)
theorem rLV_3_7_3_9 : q_okV (q_cs 3) 7 (q_cs 3) 9 1 := Or.inr (Or.inl ⟨⟨"WhirlShafts$Hub", "note", "(I)V"⟩, q_in 793 (by decide +kernel) (by decide +kernel), q_in 794 (by decide +kernel) (by decide +kernel), q_in 795 (by decide +kernel) (by decide +kernel), q_in 785 (by decide +kernel) (by decide +kernel), (by decide +kernel), (by decide +kernel)⟩)
theorem rLV_3_7_9_9 : q_okV (q_cs 3) 7 (q_cs 9) 9 1 := Or.inr (Or.inl ⟨⟨"WhirlShafts$Hub", "note", "(I)V"⟩, q_in 793 (by decide +kernel) (by decide +kernel), q_in 794 (by decide +kernel) (by decide +kernel), q_in 796 (by decide +kernel) (by decide +kernel), q_in 785 (by decide +kernel) (by decide +kernel), (by decide +kernel), (by decide +kernel)⟩)
theorem rLV_4_47_4_19 : q_okV (q_cs 4) 47 (q_cs 4) 19 1 := Or.inl ⟨(by decide +kernel), q_in 374 (by decide +kernel) (by decide +kernel), q_in 375 (by decide +kernel) (by decide +kernel), q_in 376 (by decide +kernel) (by decide +kernel), (by decide +kernel)⟩
theorem rLV_4_51_4_20 : q_okV (q_cs 4) 51 (q_cs 4) 20 1 := Or.inl ⟨(by decide +kernel), q_in 378 (by decide +kernel) (by decide +kernel), q_in 379 (by decide +kernel) (by decide +kernel), q_in 380 (by decide +kernel) (by decide +kernel), (by decide +kernel)⟩
theorem rLV_4_54_4_21 : q_okV (q_cs 4) 54 (q_cs 4) 21 2 := Or.inl ⟨(by decide +kernel), q_in 370 (by decide +kernel) (by decide +kernel), q_in 371 (by decide +kernel) (by decide +kernel), q_in 372 (by decide +kernel) (by decide +kernel), (by decide +kernel)⟩
theorem rLV_4_61_4_26 : q_okV (q_cs 4) 61 (q_cs 4) 26 1 := Or.inl ⟨(by decide +kernel), q_in 383 (by decide +kernel) (by decide +kernel), q_in 384 (by decide +kernel) (by decide +kernel), q_in 385 (by decide +kernel) (by decide +kernel), (by decide +kernel)⟩
theorem rLV_4_65_4_25 : q_okV (q_cs 4) 65 (q_cs 4) 25 1 := Or.inl ⟨(by decide +kernel), q_in 420 (by decide +kernel) (by decide +kernel), q_in 421 (by decide +kernel) (by decide +kernel), q_in 422 (by decide +kernel) (by decide +kernel), (by decide +kernel)⟩
theorem rLV_4_68_1_5 : q_okV (q_cs 4) 68 (q_cs 1) 5 2 := Or.inr (Or.inr ⟨⟨"WhirlShafts$Disc", "weighs", "(II)I"⟩, "WhirlShafts$Disc", prog_4_method_4_code, 3, (some .int), q_in 429 (by decide +kernel) (by decide +kernel), q_in 432 (by decide +kernel) (by decide +kernel), q_in 430 (by decide +kernel) (by decide +kernel), q_in 433 (by decide +kernel) (by decide +kernel), q_in 434 (by decide +kernel) (by decide +kernel), q_in 450 (by decide +kernel) (by decide +kernel), (by decide +kernel), (by decide +kernel)⟩)
theorem rLV_4_68_2_10 : q_okV (q_cs 4) 68 (q_cs 2) 10 2 := Or.inl ⟨(by decide +kernel), q_in 429 (by decide +kernel) (by decide +kernel), q_in 430 (by decide +kernel) (by decide +kernel), q_in 431 (by decide +kernel) (by decide +kernel), (by decide +kernel)⟩
theorem rLV_4_68_3_14 : q_okV (q_cs 4) 68 (q_cs 3) 14 2 := Or.inr (Or.inr ⟨⟨"WhirlShafts$Disc", "weighs", "(II)I"⟩, "WhirlShafts$Disc", prog_4_method_4_code, 3, (some .int), q_in 429 (by decide +kernel) (by decide +kernel), q_in 432 (by decide +kernel) (by decide +kernel), q_in 430 (by decide +kernel) (by decide +kernel), q_in 439 (by decide +kernel) (by decide +kernel), q_in 440 (by decide +kernel) (by decide +kernel), q_in 450 (by decide +kernel) (by decide +kernel), (by decide +kernel), (by decide +kernel)⟩)
theorem rLV_4_68_7_46 : q_okV (q_cs 4) 68 (q_cs 7) 46 2 := Or.inr (Or.inr ⟨⟨"WhirlShafts$Disc", "weighs", "(II)I"⟩, "WhirlShafts$Disc", prog_4_method_4_code, 3, (some .int), q_in 429 (by decide +kernel) (by decide +kernel), q_in 432 (by decide +kernel) (by decide +kernel), q_in 430 (by decide +kernel) (by decide +kernel), q_in 442 (by decide +kernel) (by decide +kernel), q_in 437 (by decide +kernel) (by decide +kernel), q_in 450 (by decide +kernel) (by decide +kernel), (by decide +kernel), (by decide +kernel)⟩)
theorem rLV_4_68_9_53 : q_okV (q_cs 4) 68 (q_cs 9) 53 2 := Or.inr (Or.inr ⟨⟨"WhirlShafts$Disc", "weighs", "(II)I"⟩, "WhirlShafts$Disc", prog_4_method_4_code, 3, (some .int), q_in 429 (by decide +kernel) (by decide +kernel), q_in 432 (by decide +kernel) (by decide +kernel), q_in 430 (by decide +kernel) (by decide +kernel), q_in 443 (by decide +kernel) (by decide +kernel), q_in 444 (by decide +kernel) (by decide +kernel), q_in 450 (by decide +kernel) (by decide +kernel), (by decide +kernel), (by decide +kernel)⟩)
theorem rLV_4_74_4_28 : q_okV (q_cs 4) 74 (q_cs 4) 28 1 := Or.inl ⟨(by decide +kernel), q_in 455 (by decide +kernel) (by decide +kernel), q_in 426 (by decide +kernel) (by decide +kernel), q_in 427 (by decide +kernel) (by decide +kernel), (by decide +kernel)⟩
theorem rLV_4_77_4_27 : q_okV (q_cs 4) 77 (q_cs 4) 27 1 := Or.inl ⟨(by decide +kernel), q_in 416 (by decide +kernel) (by decide +kernel), q_in 417 (by decide +kernel) (by decide +kernel), q_in 418 (by decide +kernel) (by decide +kernel), (by decide +kernel)⟩
theorem rLV_4_80_4_30 : q_okV (q_cs 4) 80 (q_cs 4) 30 1 := Or.inl ⟨(by decide +kernel), q_in 465 (by decide +kernel) (by decide +kernel), q_in 457 (by decide +kernel) (by decide +kernel), q_in 458 (by decide +kernel) (by decide +kernel), (by decide +kernel)⟩
theorem rLV_4_83_4_31 : q_okV (q_cs 4) 83 (q_cs 4) 31 1 := Or.inl ⟨(by decide +kernel), q_in 466 (by decide +kernel) (by decide +kernel), q_in 413 (by decide +kernel) (by decide +kernel), q_in 414 (by decide +kernel) (by decide +kernel), (by decide +kernel)⟩
theorem rLV_4_86_4_29 : q_okV (q_cs 4) 86 (q_cs 4) 29 1 := Or.inl ⟨(by decide +kernel), q_in 874 (by decide +kernel) (by decide +kernel), q_in 452 (by decide +kernel) (by decide +kernel), q_in 453 (by decide +kernel) (by decide +kernel), (by decide +kernel)⟩
theorem rLV_6_33_4_29 : q_okV (q_cs 6) 33 (q_cs 4) 29 1 := Or.inl ⟨(by decide +kernel), q_in 481 (by decide +kernel) (by decide +kernel), q_in 452 (by decide +kernel) (by decide +kernel), q_in 453 (by decide +kernel) (by decide +kernel), (by decide +kernel)⟩
theorem rLV_6_37_4_32 : q_okV (q_cs 6) 37 (q_cs 4) 32 1 := Or.inl ⟨(by decide +kernel), q_in 482 (by decide +kernel) (by decide +kernel), q_in 462 (by decide +kernel) (by decide +kernel), q_in 463 (by decide +kernel) (by decide +kernel), (by decide +kernel)⟩
theorem rLV_6_39_4_31 : q_okV (q_cs 6) 39 (q_cs 4) 31 1 := Or.inl ⟨(by decide +kernel), q_in 483 (by decide +kernel) (by decide +kernel), q_in 413 (by decide +kernel) (by decide +kernel), q_in 414 (by decide +kernel) (by decide +kernel), (by decide +kernel)⟩
theorem rLV_6_42_6_38 : q_okV (q_cs 6) 42 (q_cs 6) 38 4 := Or.inl ⟨(by decide +kernel), q_in 488 (by decide +kernel) (by decide +kernel), q_in 489 (by decide +kernel) (by decide +kernel), q_in 490 (by decide +kernel) (by decide +kernel), (by decide +kernel)⟩
theorem rLV_6_46_6_39 : q_okV (q_cs 6) 46 (q_cs 6) 39 3 := Or.inl ⟨(by decide +kernel), q_in 492 (by decide +kernel) (by decide +kernel), q_in 493 (by decide +kernel) (by decide +kernel), q_in 494 (by decide +kernel) (by decide +kernel), (by decide +kernel)⟩
theorem rLV_6_50_6_40 : q_okV (q_cs 6) 50 (q_cs 6) 40 1 := Or.inl ⟨(by decide +kernel), q_in 497 (by decide +kernel) (by decide +kernel), q_in 498 (by decide +kernel) (by decide +kernel), q_in 499 (by decide +kernel) (by decide +kernel), (by decide +kernel)⟩
theorem rLV_6_68_6_42 : q_okV (q_cs 6) 68 (q_cs 6) 42 0 := Or.inl ⟨(by decide +kernel), q_in 551 (by decide +kernel) (by decide +kernel), q_in 532 (by decide +kernel) (by decide +kernel), q_in 533 (by decide +kernel) (by decide +kernel), (by decide +kernel)⟩
theorem rLV_6_72_6_37 : q_okV (q_cs 6) 72 (q_cs 6) 37 2 := Or.inl ⟨(by decide +kernel), q_in 552 (by decide +kernel) (by decide +kernel), q_in 485 (by decide +kernel) (by decide +kernel), q_in 486 (by decide +kernel) (by decide +kernel), (by decide +kernel)⟩
theorem rLV_7_7_1_9 : q_okV (q_cs 7) 7 (q_cs 1) 9 1 := Or.inr (Or.inl ⟨⟨"WhirlShafts$Rim", "note", "(I)V"⟩, q_in 809 (by decide +kernel) (by decide +kernel), q_in 810 (by decide +kernel) (by decide +kernel), q_in 811 (by decide +kernel) (by decide +kernel), q_in 785 (by decide +kernel) (by decide +kernel), (by decide +kernel), (by decide +kernel)⟩)
theorem rLV_7_7_7_9 : q_okV (q_cs 7) 7 (q_cs 7) 9 1 := Or.inr (Or.inl ⟨⟨"WhirlShafts$Rim", "note", "(I)V"⟩, q_in 809 (by decide +kernel) (by decide +kernel), q_in 810 (by decide +kernel) (by decide +kernel), q_in 812 (by decide +kernel) (by decide +kernel), q_in 785 (by decide +kernel) (by decide +kernel), (by decide +kernel), (by decide +kernel)⟩)
theorem rLV_9_16_9_9 : q_okV (q_cs 9) 16 (q_cs 9) 9 1 := Or.inr (Or.inl ⟨⟨"WhirlShafts$Shell", "note", "(I)V"⟩, q_in 819 (by decide +kernel) (by decide +kernel), q_in 820 (by decide +kernel) (by decide +kernel), q_in 821 (by decide +kernel) (by decide +kernel), q_in 785 (by decide +kernel) (by decide +kernel), (by decide +kernel), (by decide +kernel)⟩)
theorem rLV_9_26_9_15 : q_okV (q_cs 9) 26 (q_cs 9) 15 1 := Or.inr (Or.inl ⟨⟨"WhirlShafts$Shell", "spins", "(I)I"⟩, q_in 825 (by decide +kernel) (by decide +kernel), q_in 826 (by decide +kernel) (by decide +kernel), q_in 828 (by decide +kernel) (by decide +kernel), q_in 791 (by decide +kernel) (by decide +kernel), (by decide +kernel), (by decide +kernel)⟩)
theorem rLV_10_33_10_60 : q_okV (q_cs 10) 33 (q_cs 10) 60 0 := Or.inl ⟨(by decide +kernel), q_in 713 (by decide +kernel) (by decide +kernel), q_in 714 (by decide +kernel) (by decide +kernel), q_in 715 (by decide +kernel) (by decide +kernel), (by decide +kernel)⟩
theorem rLV_11_99_0_0 : q_okV (q_cs 11) 99 (q_cs 0) 0 0 := Or.inl ⟨(by decide +kernel), q_in 346 (by decide +kernel) (by decide +kernel), q_in 347 (by decide +kernel) (by decide +kernel), q_in 348 (by decide +kernel) (by decide +kernel), (by decide +kernel)⟩
theorem rLV_11_102_4_17 : q_okV (q_cs 11) 102 (q_cs 4) 17 3 := Or.inl ⟨(by decide +kernel), q_in 350 (by decide +kernel) (by decide +kernel), q_in 351 (by decide +kernel) (by decide +kernel), q_in 352 (by decide +kernel) (by decide +kernel), (by decide +kernel)⟩
theorem rLV_11_112_4_22 : q_okV (q_cs 11) 112 (q_cs 4) 22 3 := Or.inl ⟨(by decide +kernel), q_in 366 (by decide +kernel) (by decide +kernel), q_in 367 (by decide +kernel) (by decide +kernel), q_in 368 (by decide +kernel) (by decide +kernel), (by decide +kernel)⟩
theorem rLV_11_115_4_23 : q_okV (q_cs 11) 115 (q_cs 4) 23 2 := Or.inl ⟨(by decide +kernel), q_in 387 (by decide +kernel) (by decide +kernel), q_in 388 (by decide +kernel) (by decide +kernel), q_in 389 (by decide +kernel) (by decide +kernel), (by decide +kernel)⟩
theorem rLV_11_119_4_24 : q_okV (q_cs 11) 119 (q_cs 4) 24 3 := Or.inl ⟨(by decide +kernel), q_in 391 (by decide +kernel) (by decide +kernel), q_in 392 (by decide +kernel) (by decide +kernel), q_in 393 (by decide +kernel) (by decide +kernel), (by decide +kernel)⟩
theorem rLV_11_123_0_1 : q_okV (q_cs 11) 123 (q_cs 0) 1 4 := Or.inl ⟨(by decide +kernel), q_in 395 (by decide +kernel) (by decide +kernel), q_in 396 (by decide +kernel) (by decide +kernel), q_in 397 (by decide +kernel) (by decide +kernel), (by decide +kernel)⟩
theorem rLV_11_127_4_21 : q_okV (q_cs 11) 127 (q_cs 4) 21 2 := Or.inl ⟨(by decide +kernel), q_in 410 (by decide +kernel) (by decide +kernel), q_in 371 (by decide +kernel) (by decide +kernel), q_in 372 (by decide +kernel) (by decide +kernel), (by decide +kernel)⟩
theorem rLV_11_130_4_20 : q_okV (q_cs 11) 130 (q_cs 4) 20 1 := Or.inl ⟨(by decide +kernel), q_in 411 (by decide +kernel) (by decide +kernel), q_in 379 (by decide +kernel) (by decide +kernel), q_in 380 (by decide +kernel) (by decide +kernel), (by decide +kernel)⟩
theorem rLV_11_133_4_31 : q_okV (q_cs 11) 133 (q_cs 4) 31 1 := Or.inl ⟨(by decide +kernel), q_in 412 (by decide +kernel) (by decide +kernel), q_in 413 (by decide +kernel) (by decide +kernel), q_in 414 (by decide +kernel) (by decide +kernel), (by decide +kernel)⟩
theorem rLV_11_137_4_19 : q_okV (q_cs 11) 137 (q_cs 4) 19 1 := Or.inl ⟨(by decide +kernel), q_in 424 (by decide +kernel) (by decide +kernel), q_in 375 (by decide +kernel) (by decide +kernel), q_in 376 (by decide +kernel) (by decide +kernel), (by decide +kernel)⟩
theorem rLV_11_143_4_28 : q_okV (q_cs 11) 143 (q_cs 4) 28 1 := Or.inl ⟨(by decide +kernel), q_in 425 (by decide +kernel) (by decide +kernel), q_in 426 (by decide +kernel) (by decide +kernel), q_in 427 (by decide +kernel) (by decide +kernel), (by decide +kernel)⟩
theorem rLV_11_146_4_29 : q_okV (q_cs 11) 146 (q_cs 4) 29 1 := Or.inl ⟨(by decide +kernel), q_in 451 (by decide +kernel) (by decide +kernel), q_in 452 (by decide +kernel) (by decide +kernel), q_in 453 (by decide +kernel) (by decide +kernel), (by decide +kernel)⟩
theorem rLV_11_149_4_30 : q_okV (q_cs 11) 149 (q_cs 4) 30 1 := Or.inl ⟨(by decide +kernel), q_in 456 (by decide +kernel) (by decide +kernel), q_in 457 (by decide +kernel) (by decide +kernel), q_in 458 (by decide +kernel) (by decide +kernel), (by decide +kernel)⟩
theorem rLV_11_152_4_27 : q_okV (q_cs 11) 152 (q_cs 4) 27 1 := Or.inl ⟨(by decide +kernel), q_in 460 (by decide +kernel) (by decide +kernel), q_in 417 (by decide +kernel) (by decide +kernel), q_in 418 (by decide +kernel) (by decide +kernel), (by decide +kernel)⟩
theorem rLV_11_155_4_32 : q_okV (q_cs 11) 155 (q_cs 4) 32 1 := Or.inl ⟨(by decide +kernel), q_in 461 (by decide +kernel) (by decide +kernel), q_in 462 (by decide +kernel) (by decide +kernel), q_in 463 (by decide +kernel) (by decide +kernel), (by decide +kernel)⟩
theorem rLV_11_161_6_36 : q_okV (q_cs 11) 161 (q_cs 6) 36 1 := Or.inl ⟨(by decide +kernel), q_in 477 (by decide +kernel) (by decide +kernel), q_in 478 (by decide +kernel) (by decide +kernel), q_in 479 (by decide +kernel) (by decide +kernel), (by decide +kernel)⟩
theorem rLV_11_165_6_37 : q_okV (q_cs 11) 165 (q_cs 6) 37 2 := Or.inl ⟨(by decide +kernel), q_in 484 (by decide +kernel) (by decide +kernel), q_in 485 (by decide +kernel) (by decide +kernel), q_in 486 (by decide +kernel) (by decide +kernel), (by decide +kernel)⟩
theorem rLV_11_168_6_40 : q_okV (q_cs 11) 168 (q_cs 6) 40 1 := Or.inl ⟨(by decide +kernel), q_in 505 (by decide +kernel) (by decide +kernel), q_in 498 (by decide +kernel) (by decide +kernel), q_in 499 (by decide +kernel) (by decide +kernel), (by decide +kernel)⟩
theorem rLV_11_171_6_38 : q_okV (q_cs 11) 171 (q_cs 6) 38 4 := Or.inl ⟨(by decide +kernel), q_in 510 (by decide +kernel) (by decide +kernel), q_in 489 (by decide +kernel) (by decide +kernel), q_in 490 (by decide +kernel) (by decide +kernel), (by decide +kernel)⟩
theorem rLV_11_175_6_41 : q_okV (q_cs 11) 175 (q_cs 6) 41 1 := Or.inl ⟨(by decide +kernel), q_in 519 (by decide +kernel) (by decide +kernel), q_in 520 (by decide +kernel) (by decide +kernel), q_in 521 (by decide +kernel) (by decide +kernel), (by decide +kernel)⟩
theorem rLV_11_178_6_42 : q_okV (q_cs 11) 178 (q_cs 6) 42 0 := Or.inl ⟨(by decide +kernel), q_in 531 (by decide +kernel) (by decide +kernel), q_in 532 (by decide +kernel) (by decide +kernel), q_in 533 (by decide +kernel) (by decide +kernel), (by decide +kernel)⟩
theorem rLV_11_185_11_112 : q_okV (q_cs 11) 185 (q_cs 11) 112 3 := Or.inl ⟨(by decide +kernel), q_in 543 (by decide +kernel) (by decide +kernel), q_in 545 (by decide +kernel) (by decide +kernel), q_in 0 (by decide +kernel) (by decide +kernel), (by decide +kernel)⟩
theorem rLV_11_193_6_45 : q_okV (q_cs 11) 193 (q_cs 6) 45 3 := Or.inl ⟨(by decide +kernel), q_in 564 (by decide +kernel) (by decide +kernel), q_in 565 (by decide +kernel) (by decide +kernel), q_in 566 (by decide +kernel) (by decide +kernel), (by decide +kernel)⟩
theorem rLV_11_196_6_43 : q_okV (q_cs 11) 196 (q_cs 6) 43 2 := Or.inl ⟨(by decide +kernel), q_in 547 (by decide +kernel) (by decide +kernel), q_in 548 (by decide +kernel) (by decide +kernel), q_in 549 (by decide +kernel) (by decide +kernel), (by decide +kernel)⟩
theorem rLV_11_199_4_16 : q_okV (q_cs 11) 199 (q_cs 4) 16 1 := Or.inl ⟨(by decide +kernel), q_in 576 (by decide +kernel) (by decide +kernel), q_in 577 (by decide +kernel) (by decide +kernel), q_in 578 (by decide +kernel) (by decide +kernel), (by decide +kernel)⟩
theorem rLV_11_202_11_114 : q_okV (q_cs 11) 202 (q_cs 11) 114 4 := Or.inl ⟨(by decide +kernel), q_in 581 (by decide +kernel) (by decide +kernel), q_in 583 (by decide +kernel) (by decide +kernel), q_in 1 (by decide +kernel) (by decide +kernel), (by decide +kernel)⟩
theorem rLV_11_205_11_113 : q_okV (q_cs 11) 205 (q_cs 11) 113 4 := Or.inl ⟨(by decide +kernel), q_in 585 (by decide +kernel) (by decide +kernel), q_in 587 (by decide +kernel) (by decide +kernel), q_in 2 (by decide +kernel) (by decide +kernel), (by decide +kernel)⟩
theorem rLV_11_214_4_18 : q_okV (q_cs 11) 214 (q_cs 4) 18 1 := Or.inl ⟨(by decide +kernel), q_in 601 (by decide +kernel) (by decide +kernel), q_in 602 (by decide +kernel) (by decide +kernel), q_in 603 (by decide +kernel) (by decide +kernel), (by decide +kernel)⟩
theorem rLV_11_221_8_48 : q_okV (q_cs 11) 221 (q_cs 8) 48 0 := Or.inl ⟨(by decide +kernel), q_in 616 (by decide +kernel) (by decide +kernel), q_in 617 (by decide +kernel) (by decide +kernel), q_in 618 (by decide +kernel) (by decide +kernel), (by decide +kernel)⟩
theorem rLV_11_228_11_117 : q_okV (q_cs 11) 228 (q_cs 11) 117 4 := Or.inl ⟨(by decide +kernel), q_in 620 (by decide +kernel) (by decide +kernel), q_in 622 (by decide +kernel) (by decide +kernel), q_in 3 (by decide +kernel) (by decide +kernel), (by decide +kernel)⟩
theorem rLV_11_232_11_116 : q_okV (q_cs 11) 232 (q_cs 11) 116 5 := Or.inl ⟨(by decide +kernel), q_in 633 (by decide +kernel) (by decide +kernel), q_in 635 (by decide +kernel) (by decide +kernel), q_in 5 (by decide +kernel) (by decide +kernel), (by decide +kernel)⟩
theorem rLV_11_240_6_44 : q_okV (q_cs 11) 240 (q_cs 6) 44 3 := Or.inl ⟨(by decide +kernel), q_in 628 (by decide +kernel) (by decide +kernel), q_in 629 (by decide +kernel) (by decide +kernel), q_in 630 (by decide +kernel) (by decide +kernel), (by decide +kernel)⟩
theorem rLV_11_247_5_34 : q_okV (q_cs 11) 247 (q_cs 5) 34 3 := Or.inl ⟨(by decide +kernel), q_in 645 (by decide +kernel) (by decide +kernel), q_in 646 (by decide +kernel) (by decide +kernel), q_in 647 (by decide +kernel) (by decide +kernel), (by decide +kernel)⟩
theorem rLV_11_258_11_64 : q_okV (q_cs 11) 258 (q_cs 11) 64 3 := Or.inl ⟨(by decide +kernel), q_in 657 (by decide +kernel) (by decide +kernel), q_in 363 (by decide +kernel) (by decide +kernel), q_in 364 (by decide +kernel) (by decide +kernel), (by decide +kernel)⟩
theorem rLV_11_264_0_3 : q_okV (q_cs 11) 264 (q_cs 0) 3 1 := Or.inl ⟨(by decide +kernel), q_in 666 (by decide +kernel) (by decide +kernel), q_in 667 (by decide +kernel) (by decide +kernel), q_in 668 (by decide +kernel) (by decide +kernel), (by decide +kernel)⟩
theorem rLV_11_271_0_4 : q_okV (q_cs 11) 271 (q_cs 0) 4 1 := Or.inl ⟨(by decide +kernel), q_in 675 (by decide +kernel) (by decide +kernel), q_in 676 (by decide +kernel) (by decide +kernel), q_in 677 (by decide +kernel) (by decide +kernel), (by decide +kernel)⟩
theorem rLV_11_277_10_55 : q_okV (q_cs 11) 277 (q_cs 10) 55 1 := Or.inl ⟨(by decide +kernel), q_in 683 (by decide +kernel) (by decide +kernel), q_in 684 (by decide +kernel) (by decide +kernel), q_in 685 (by decide +kernel) (by decide +kernel), (by decide +kernel)⟩
theorem rLV_11_279_10_58 : q_okV (q_cs 11) 279 (q_cs 10) 58 0 := Or.inl ⟨(by decide +kernel), q_in 695 (by decide +kernel) (by decide +kernel), q_in 696 (by decide +kernel) (by decide +kernel), q_in 697 (by decide +kernel) (by decide +kernel), (by decide +kernel)⟩
theorem rLV_11_282_11_118 : q_okV (q_cs 11) 282 (q_cs 11) 118 0 := Or.inl ⟨(by decide +kernel), q_in 705 (by decide +kernel) (by decide +kernel), q_in 707 (by decide +kernel) (by decide +kernel), q_in 6 (by decide +kernel) (by decide +kernel), (by decide +kernel)⟩
theorem rLV_11_285_8_49 : q_okV (q_cs 11) 285 (q_cs 8) 49 2 := Or.inl ⟨(by decide +kernel), q_in 727 (by decide +kernel) (by decide +kernel), q_in 728 (by decide +kernel) (by decide +kernel), q_in 729 (by decide +kernel) (by decide +kernel), (by decide +kernel)⟩
theorem rLV_11_289_8_50 : q_okV (q_cs 11) 289 (q_cs 8) 50 1 := Or.inl ⟨(by decide +kernel), q_in 735 (by decide +kernel) (by decide +kernel), q_in 736 (by decide +kernel) (by decide +kernel), q_in 737 (by decide +kernel) (by decide +kernel), (by decide +kernel)⟩
theorem rLV_11_291_8_52 : q_okV (q_cs 11) 291 (q_cs 8) 52 2 := Or.inl ⟨(by decide +kernel), q_in 739 (by decide +kernel) (by decide +kernel), q_in 740 (by decide +kernel) (by decide +kernel), q_in 741 (by decide +kernel) (by decide +kernel), (by decide +kernel)⟩
theorem rLV_11_300_8_51 : q_okV (q_cs 11) 300 (q_cs 8) 51 2 := Or.inl ⟨(by decide +kernel), q_in 756 (by decide +kernel) (by decide +kernel), q_in 757 (by decide +kernel) (by decide +kernel), q_in 758 (by decide +kernel) (by decide +kernel), (by decide +kernel)⟩
theorem rLV_11_313_1_8 : q_okV (q_cs 11) 313 (q_cs 1) 8 2 := Or.inr (Or.inl ⟨⟨"WhirlShafts$Disc", "begin", "(II)V"⟩, q_in 765 (by decide +kernel) (by decide +kernel), q_in 768 (by decide +kernel) (by decide +kernel), q_in 769 (by decide +kernel) (by decide +kernel), q_in 766 (by decide +kernel) (by decide +kernel), (by decide +kernel), (by decide +kernel)⟩)
theorem rLV_11_313_2_8 : q_okV (q_cs 11) 313 (q_cs 2) 8 2 := Or.inl ⟨(by decide +kernel), q_in 765 (by decide +kernel) (by decide +kernel), q_in 766 (by decide +kernel) (by decide +kernel), q_in 767 (by decide +kernel) (by decide +kernel), (by decide +kernel)⟩
theorem rLV_11_313_3_8 : q_okV (q_cs 11) 313 (q_cs 3) 8 2 := Or.inr (Or.inl ⟨⟨"WhirlShafts$Disc", "begin", "(II)V"⟩, q_in 765 (by decide +kernel) (by decide +kernel), q_in 768 (by decide +kernel) (by decide +kernel), q_in 770 (by decide +kernel) (by decide +kernel), q_in 766 (by decide +kernel) (by decide +kernel), (by decide +kernel), (by decide +kernel)⟩)
theorem rLV_11_313_7_8 : q_okV (q_cs 11) 313 (q_cs 7) 8 2 := Or.inr (Or.inl ⟨⟨"WhirlShafts$Disc", "begin", "(II)V"⟩, q_in 765 (by decide +kernel) (by decide +kernel), q_in 768 (by decide +kernel) (by decide +kernel), q_in 771 (by decide +kernel) (by decide +kernel), q_in 766 (by decide +kernel) (by decide +kernel), (by decide +kernel), (by decide +kernel)⟩)
theorem rLV_11_313_9_8 : q_okV (q_cs 11) 313 (q_cs 9) 8 2 := Or.inr (Or.inl ⟨⟨"WhirlShafts$Disc", "begin", "(II)V"⟩, q_in 765 (by decide +kernel) (by decide +kernel), q_in 768 (by decide +kernel) (by decide +kernel), q_in 772 (by decide +kernel) (by decide +kernel), q_in 766 (by decide +kernel) (by decide +kernel), (by decide +kernel), (by decide +kernel)⟩)
theorem rLV_11_316_1_7 : q_okV (q_cs 11) 316 (q_cs 1) 7 1 := Or.inr (Or.inr ⟨⟨"WhirlShafts$Disc", "spins", "(I)I"⟩, "WhirlShafts$Disc", prog_4_method_5_code, 2, (some .int), q_in 774 (by decide +kernel) (by decide +kernel), q_in 777 (by decide +kernel) (by decide +kernel), q_in 775 (by decide +kernel) (by decide +kernel), q_in 778 (by decide +kernel) (by decide +kernel), q_in 779 (by decide +kernel) (by decide +kernel), q_in 800 (by decide +kernel) (by decide +kernel), (by decide +kernel), (by decide +kernel)⟩)
theorem rLV_11_316_2_11 : q_okV (q_cs 11) 316 (q_cs 2) 11 1 := Or.inl ⟨(by decide +kernel), q_in 774 (by decide +kernel) (by decide +kernel), q_in 775 (by decide +kernel) (by decide +kernel), q_in 776 (by decide +kernel) (by decide +kernel), (by decide +kernel)⟩
theorem rLV_11_316_3_15 : q_okV (q_cs 11) 316 (q_cs 3) 15 1 := Or.inr (Or.inr ⟨⟨"WhirlShafts$Disc", "spins", "(I)I"⟩, "WhirlShafts$Disc", prog_4_method_5_code, 2, (some .int), q_in 774 (by decide +kernel) (by decide +kernel), q_in 777 (by decide +kernel) (by decide +kernel), q_in 775 (by decide +kernel) (by decide +kernel), q_in 790 (by decide +kernel) (by decide +kernel), q_in 791 (by decide +kernel) (by decide +kernel), q_in 800 (by decide +kernel) (by decide +kernel), (by decide +kernel), (by decide +kernel)⟩)
theorem rLV_11_316_7_11 : q_okV (q_cs 11) 316 (q_cs 7) 11 1 := Or.inr (Or.inl ⟨⟨"WhirlShafts$Disc", "spins", "(I)I"⟩, q_in 774 (by decide +kernel) (by decide +kernel), q_in 777 (by decide +kernel) (by decide +kernel), q_in 798 (by decide +kernel) (by decide +kernel), q_in 775 (by decide +kernel) (by decide +kernel), (by decide +kernel), (by decide +kernel)⟩)
theorem rLV_11_316_9_15 : q_okV (q_cs 11) 316 (q_cs 9) 15 1 := Or.inr (Or.inr ⟨⟨"WhirlShafts$Disc", "spins", "(I)I"⟩, "WhirlShafts$Disc", prog_4_method_5_code, 2, (some .int), q_in 774 (by decide +kernel) (by decide +kernel), q_in 777 (by decide +kernel) (by decide +kernel), q_in 775 (by decide +kernel) (by decide +kernel), q_in 799 (by decide +kernel) (by decide +kernel), q_in 791 (by decide +kernel) (by decide +kernel), q_in 800 (by decide +kernel) (by decide +kernel), (by decide +kernel), (by decide +kernel)⟩)
theorem rLV_11_319_1_47 : q_okV (q_cs 11) 319 (q_cs 1) 47 1 := Or.inr (Or.inr ⟨⟨"WhirlShafts$Disc", "swings", "(I)I"⟩, "WhirlShafts$Disc", prog_4_method_6_code, 2, (some .int), q_in 802 (by decide +kernel) (by decide +kernel), q_in 805 (by decide +kernel) (by decide +kernel), q_in 803 (by decide +kernel) (by decide +kernel), q_in 806 (by decide +kernel) (by decide +kernel), q_in 807 (by decide +kernel) (by decide +kernel), q_in 829 (by decide +kernel) (by decide +kernel), (by decide +kernel), (by decide +kernel)⟩)
theorem rLV_11_319_2_12 : q_okV (q_cs 11) 319 (q_cs 2) 12 1 := Or.inl ⟨(by decide +kernel), q_in 802 (by decide +kernel) (by decide +kernel), q_in 803 (by decide +kernel) (by decide +kernel), q_in 804 (by decide +kernel) (by decide +kernel), (by decide +kernel)⟩
theorem rLV_11_319_3_12 : q_okV (q_cs 11) 319 (q_cs 3) 12 1 := Or.inr (Or.inl ⟨⟨"WhirlShafts$Disc", "swings", "(I)I"⟩, q_in 802 (by decide +kernel) (by decide +kernel), q_in 805 (by decide +kernel) (by decide +kernel), q_in 814 (by decide +kernel) (by decide +kernel), q_in 803 (by decide +kernel) (by decide +kernel), (by decide +kernel), (by decide +kernel)⟩)
theorem rLV_11_319_7_47 : q_okV (q_cs 11) 319 (q_cs 7) 47 1 := Or.inr (Or.inr ⟨⟨"WhirlShafts$Disc", "swings", "(I)I"⟩, "WhirlShafts$Disc", prog_4_method_6_code, 2, (some .int), q_in 802 (by decide +kernel) (by decide +kernel), q_in 805 (by decide +kernel) (by decide +kernel), q_in 803 (by decide +kernel) (by decide +kernel), q_in 815 (by decide +kernel) (by decide +kernel), q_in 807 (by decide +kernel) (by decide +kernel), q_in 829 (by decide +kernel) (by decide +kernel), (by decide +kernel), (by decide +kernel)⟩)
theorem rLV_11_319_9_54 : q_okV (q_cs 11) 319 (q_cs 9) 54 1 := Or.inr (Or.inr ⟨⟨"WhirlShafts$Disc", "swings", "(I)I"⟩, "WhirlShafts$Disc", prog_4_method_6_code, 2, (some .int), q_in 802 (by decide +kernel) (by decide +kernel), q_in 805 (by decide +kernel) (by decide +kernel), q_in 803 (by decide +kernel) (by decide +kernel), q_in 816 (by decide +kernel) (by decide +kernel), q_in 817 (by decide +kernel) (by decide +kernel), q_in 829 (by decide +kernel) (by decide +kernel), (by decide +kernel), (by decide +kernel)⟩)
theorem rLV_11_322_1_6 : q_okV (q_cs 11) 322 (q_cs 1) 6 1 := Or.inr (Or.inr ⟨⟨"WhirlShafts$Disc", "tells", "(I)I"⟩, "WhirlShafts$Disc", prog_4_method_7_code, 2, (some .int), q_in 831 (by decide +kernel) (by decide +kernel), q_in 834 (by decide +kernel) (by decide +kernel), q_in 832 (by decide +kernel) (by decide +kernel), q_in 835 (by decide +kernel) (by decide +kernel), q_in 836 (by decide +kernel) (by decide +kernel), q_in 844 (by decide +kernel) (by decide +kernel), (by decide +kernel), (by decide +kernel)⟩)
theorem rLV_11_322_2_13 : q_okV (q_cs 11) 322 (q_cs 2) 13 1 := Or.inl ⟨(by decide +kernel), q_in 831 (by decide +kernel) (by decide +kernel), q_in 832 (by decide +kernel) (by decide +kernel), q_in 833 (by decide +kernel) (by decide +kernel), (by decide +kernel)⟩
theorem rLV_11_322_3_13 : q_okV (q_cs 11) 322 (q_cs 3) 13 1 := Or.inr (Or.inl ⟨⟨"WhirlShafts$Disc", "tells", "(I)I"⟩, q_in 831 (by decide +kernel) (by decide +kernel), q_in 834 (by decide +kernel) (by decide +kernel), q_in 841 (by decide +kernel) (by decide +kernel), q_in 832 (by decide +kernel) (by decide +kernel), (by decide +kernel), (by decide +kernel)⟩)
theorem rLV_11_322_7_13 : q_okV (q_cs 11) 322 (q_cs 7) 13 1 := Or.inr (Or.inl ⟨⟨"WhirlShafts$Disc", "tells", "(I)I"⟩, q_in 831 (by decide +kernel) (by decide +kernel), q_in 834 (by decide +kernel) (by decide +kernel), q_in 842 (by decide +kernel) (by decide +kernel), q_in 832 (by decide +kernel) (by decide +kernel), (by decide +kernel), (by decide +kernel)⟩)
theorem rLV_11_322_9_13 : q_okV (q_cs 11) 322 (q_cs 9) 13 1 := Or.inr (Or.inl ⟨⟨"WhirlShafts$Disc", "tells", "(I)I"⟩, q_in 831 (by decide +kernel) (by decide +kernel), q_in 834 (by decide +kernel) (by decide +kernel), q_in 843 (by decide +kernel) (by decide +kernel), q_in 832 (by decide +kernel) (by decide +kernel), (by decide +kernel), (by decide +kernel)⟩)
theorem rLV_11_334_5_35 : q_okV (q_cs 11) 334 (q_cs 5) 35 1 := Or.inl ⟨(by decide +kernel), q_in 861 (by decide +kernel) (by decide +kernel), q_in 862 (by decide +kernel) (by decide +kernel), q_in 863 (by decide +kernel) (by decide +kernel), (by decide +kernel)⟩
theorem rLV_11_341_4_33 : q_okV (q_cs 11) 341 (q_cs 4) 33 1 := Or.inl ⟨(by decide +kernel), q_in 870 (by decide +kernel) (by decide +kernel), q_in 871 (by decide +kernel) (by decide +kernel), q_in 872 (by decide +kernel) (by decide +kernel), (by decide +kernel)⟩
theorem rLV_11_345_4_25 : q_okV (q_cs 11) 345 (q_cs 4) 25 1 := Or.inl ⟨(by decide +kernel), q_in 883 (by decide +kernel) (by decide +kernel), q_in 421 (by decide +kernel) (by decide +kernel), q_in 422 (by decide +kernel) (by decide +kernel), (by decide +kernel)⟩
theorem rLV_11_348_11_111 : q_okV (q_cs 11) 348 (q_cs 11) 111 0 := Or.inl ⟨(by decide +kernel), q_in 884 (by decide +kernel) (by decide +kernel), q_in 886 (by decide +kernel) (by decide +kernel), q_in 8 (by decide +kernel) (by decide +kernel), (by decide +kernel)⟩
theorem rLV_11_357_11_115 : q_okV (q_cs 11) 357 (q_cs 11) 115 3 := Or.inl ⟨(by decide +kernel), q_in 624 (by decide +kernel) (by decide +kernel), q_in 626 (by decide +kernel) (by decide +kernel), q_in 4 (by decide +kernel) (by decide +kernel), (by decide +kernel)⟩
theorem rLV_11_364_10_59 : q_okV (q_cs 11) 364 (q_cs 10) 59 0 := Or.inl ⟨(by decide +kernel), q_in 709 (by decide +kernel) (by decide +kernel), q_in 710 (by decide +kernel) (by decide +kernel), q_in 711 (by decide +kernel) (by decide +kernel), (by decide +kernel)⟩
theorem rLV_11_367_11_119 : q_okV (q_cs 11) 367 (q_cs 11) 119 1 := Or.inl ⟨(by decide +kernel), q_in 717 (by decide +kernel) (by decide +kernel), q_in 719 (by decide +kernel) (by decide +kernel), q_in 7 (by decide +kernel) (by decide +kernel), (by decide +kernel)⟩
theorem rLV_11_373_11_61 : q_okV (q_cs 11) 373 (q_cs 11) 61 3 := Or.inl ⟨(by decide +kernel), q_in 721 (by decide +kernel) (by decide +kernel), q_in 333 (by decide +kernel) (by decide +kernel), q_in 334 (by decide +kernel) (by decide +kernel), (by decide +kernel)⟩
theorem rLV_11_376_11_62 : q_okV (q_cs 11) 376 (q_cs 11) 62 0 := Or.inl ⟨(by decide +kernel), q_in 722 (by decide +kernel) (by decide +kernel), q_in 355 (by decide +kernel) (by decide +kernel), q_in 356 (by decide +kernel) (by decide +kernel), (by decide +kernel)⟩
theorem rLV_12_133_12_125 : q_okV (q_cs 12) 133 (q_cs 12) 125 1 := Or.inl ⟨(by decide +kernel), q_in 1113 (by decide +kernel) (by decide +kernel), q_in 1115 (by decide +kernel) (by decide +kernel), q_in 19 (by decide +kernel) (by decide +kernel), (by decide +kernel)⟩
theorem rLV_12_144_12_128 : q_okV (q_cs 12) 144 (q_cs 12) 128 1 := Or.inl ⟨(by decide +kernel), q_in 1136 (by decide +kernel) (by decide +kernel), q_in 1138 (by decide +kernel) (by decide +kernel), q_in 22 (by decide +kernel) (by decide +kernel), (by decide +kernel)⟩
theorem rLV_12_151_12_130 : q_okV (q_cs 12) 151 (q_cs 12) 130 4 := Or.inl ⟨(by decide +kernel), q_in 1131 (by decide +kernel) (by decide +kernel), q_in 1133 (by decide +kernel) (by decide +kernel), q_in 21 (by decide +kernel) (by decide +kernel), (by decide +kernel)⟩
theorem rLV_12_155_12_126 : q_okV (q_cs 12) 155 (q_cs 12) 126 0 := Or.inl ⟨(by decide +kernel), q_in 1109 (by decide +kernel) (by decide +kernel), q_in 1111 (by decide +kernel) (by decide +kernel), q_in 18 (by decide +kernel) (by decide +kernel), (by decide +kernel)⟩
theorem rLV_12_158_12_132 : q_okV (q_cs 12) 158 (q_cs 12) 132 0 := Or.inl ⟨(by decide +kernel), q_in 1164 (by decide +kernel) (by decide +kernel), q_in 1166 (by decide +kernel) (by decide +kernel), q_in 23 (by decide +kernel) (by decide +kernel), (by decide +kernel)⟩
theorem rLV_12_162_12_131 : q_okV (q_cs 12) 162 (q_cs 12) 131 2 := Or.inl ⟨(by decide +kernel), q_in 1127 (by decide +kernel) (by decide +kernel), q_in 1129 (by decide +kernel) (by decide +kernel), q_in 20 (by decide +kernel) (by decide +kernel), (by decide +kernel)⟩
theorem rLV_12_172_12_134 : q_okV (q_cs 12) 172 (q_cs 12) 134 0 := Or.inl ⟨(by decide +kernel), q_in 1043 (by decide +kernel) (by decide +kernel), q_in 1045 (by decide +kernel) (by decide +kernel), q_in 9 (by decide +kernel) (by decide +kernel), (by decide +kernel)⟩
theorem rLV_12_175_12_121 : q_okV (q_cs 12) 175 (q_cs 12) 121 1 := Or.inl ⟨(by decide +kernel), q_in 1067 (by decide +kernel) (by decide +kernel), q_in 1069 (by decide +kernel) (by decide +kernel), q_in 12 (by decide +kernel) (by decide +kernel), (by decide +kernel)⟩
theorem rLV_12_178_12_122 : q_okV (q_cs 12) 178 (q_cs 12) 122 1 := Or.inl ⟨(by decide +kernel), q_in 1071 (by decide +kernel) (by decide +kernel), q_in 1073 (by decide +kernel) (by decide +kernel), q_in 13 (by decide +kernel) (by decide +kernel), (by decide +kernel)⟩
theorem rLV_12_181_12_140 : q_okV (q_cs 12) 181 (q_cs 12) 140 2 := Or.inl ⟨(by decide +kernel), q_in 1063 (by decide +kernel) (by decide +kernel), q_in 1065 (by decide +kernel) (by decide +kernel), q_in 11 (by decide +kernel) (by decide +kernel), (by decide +kernel)⟩
theorem rLV_12_191_12_127 : q_okV (q_cs 12) 191 (q_cs 12) 127 0 := Or.inl ⟨(by decide +kernel), q_in 1081 (by decide +kernel) (by decide +kernel), q_in 1083 (by decide +kernel) (by decide +kernel), q_in 14 (by decide +kernel) (by decide +kernel), (by decide +kernel)⟩
theorem rLV_12_194_12_143 : q_okV (q_cs 12) 194 (q_cs 12) 143 3 := Or.inl ⟨(by decide +kernel), q_in 1059 (by decide +kernel) (by decide +kernel), q_in 1061 (by decide +kernel) (by decide +kernel), q_in 10 (by decide +kernel) (by decide +kernel), (by decide +kernel)⟩
theorem rLV_12_198_12_138 : q_okV (q_cs 12) 198 (q_cs 12) 138 2 := Or.inl ⟨(by decide +kernel), q_in 1085 (by decide +kernel) (by decide +kernel), q_in 1087 (by decide +kernel) (by decide +kernel), q_in 15 (by decide +kernel) (by decide +kernel), (by decide +kernel)⟩
theorem rLV_12_201_12_144 : q_okV (q_cs 12) 201 (q_cs 12) 144 4 := Or.inl ⟨(by decide +kernel), q_in 1089 (by decide +kernel) (by decide +kernel), q_in 1091 (by decide +kernel) (by decide +kernel), q_in 16 (by decide +kernel) (by decide +kernel), (by decide +kernel)⟩
theorem rLV_12_205_12_139 : q_okV (q_cs 12) 205 (q_cs 12) 139 3 := Or.inl ⟨(by decide +kernel), q_in 1093 (by decide +kernel) (by decide +kernel), q_in 1095 (by decide +kernel) (by decide +kernel), q_in 17 (by decide +kernel) (by decide +kernel), (by decide +kernel)⟩
theorem rLV_12_212_12_155 : q_okV (q_cs 12) 212 (q_cs 12) 155 2 := Or.inl ⟨(by decide +kernel), q_in 1172 (by decide +kernel) (by decide +kernel), q_in 1174 (by decide +kernel) (by decide +kernel), q_in 24 (by decide +kernel) (by decide +kernel), (by decide +kernel)⟩
theorem rLV_12_215_12_133 : q_okV (q_cs 12) 215 (q_cs 12) 133 2 := Or.inl ⟨(by decide +kernel), q_in 1176 (by decide +kernel) (by decide +kernel), q_in 1178 (by decide +kernel) (by decide +kernel), q_in 25 (by decide +kernel) (by decide +kernel), (by decide +kernel)⟩
theorem rLV_12_221_12_159 : q_okV (q_cs 12) 221 (q_cs 12) 159 3 := Or.inl ⟨(by decide +kernel), q_in 1191 (by decide +kernel) (by decide +kernel), q_in 1193 (by decide +kernel) (by decide +kernel), q_in 26 (by decide +kernel) (by decide +kernel), (by decide +kernel)⟩
theorem rLV_12_224_12_165 : q_okV (q_cs 12) 224 (q_cs 12) 165 1 := Or.inl ⟨(by decide +kernel), q_in 1215 (by decide +kernel) (by decide +kernel), q_in 1217 (by decide +kernel) (by decide +kernel), q_in 27 (by decide +kernel) (by decide +kernel), (by decide +kernel)⟩
theorem rLV_12_237_12_177 : q_okV (q_cs 12) 237 (q_cs 12) 177 4 := Or.inl ⟨(by decide +kernel), q_in 1254 (by decide +kernel) (by decide +kernel), q_in 1256 (by decide +kernel) (by decide +kernel), q_in 28 (by decide +kernel) (by decide +kernel), (by decide +kernel)⟩
theorem rLV_12_240_12_178 : q_okV (q_cs 12) 240 (q_cs 12) 178 5 := Or.inl ⟨(by decide +kernel), q_in 1262 (by decide +kernel) (by decide +kernel), q_in 1264 (by decide +kernel) (by decide +kernel), q_in 30 (by decide +kernel) (by decide +kernel), (by decide +kernel)⟩
theorem rLV_12_244_12_175 : q_okV (q_cs 12) 244 (q_cs 12) 175 3 := Or.inl ⟨(by decide +kernel), q_in 1258 (by decide +kernel) (by decide +kernel), q_in 1260 (by decide +kernel) (by decide +kernel), q_in 29 (by decide +kernel) (by decide +kernel), (by decide +kernel)⟩
theorem rLV_12_250_12_202 : q_okV (q_cs 12) 250 (q_cs 12) 202 2 := Or.inl ⟨(by decide +kernel), q_in 1278 (by decide +kernel) (by decide +kernel), q_in 1280 (by decide +kernel) (by decide +kernel), q_in 31 (by decide +kernel) (by decide +kernel), (by decide +kernel)⟩
theorem rLV_12_254_12_145 : q_okV (q_cs 12) 254 (q_cs 12) 145 3 := Or.inl ⟨(by decide +kernel), q_in 1294 (by decide +kernel) (by decide +kernel), q_in 1056 (by decide +kernel) (by decide +kernel), q_in 1057 (by decide +kernel) (by decide +kernel), (by decide +kernel)⟩
theorem rLV_12_263_12_186 : q_okV (q_cs 12) 263 (q_cs 12) 186 0 := Or.inl ⟨(by decide +kernel), q_in 1319 (by decide +kernel) (by decide +kernel), q_in 1321 (by decide +kernel) (by decide +kernel), q_in 36 (by decide +kernel) (by decide +kernel), (by decide +kernel)⟩
theorem rLV_12_272_12_188 : q_okV (q_cs 12) 272 (q_cs 12) 188 0 := Or.inl ⟨(by decide +kernel), q_in 1326 (by decide +kernel) (by decide +kernel), q_in 1328 (by decide +kernel) (by decide +kernel), q_in 37 (by decide +kernel) (by decide +kernel), (by decide +kernel)⟩
theorem rLV_12_275_12_189 : q_okV (q_cs 12) 275 (q_cs 12) 189 0 := Or.inl ⟨(by decide +kernel), q_in 1315 (by decide +kernel) (by decide +kernel), q_in 1317 (by decide +kernel) (by decide +kernel), q_in 35 (by decide +kernel) (by decide +kernel), (by decide +kernel)⟩
theorem rLV_12_279_12_135 : q_okV (q_cs 12) 279 (q_cs 12) 135 3 := Or.inl ⟨(by decide +kernel), q_in 1334 (by decide +kernel) (by decide +kernel), q_in 1037 (by decide +kernel) (by decide +kernel), q_in 1038 (by decide +kernel) (by decide +kernel), (by decide +kernel)⟩
theorem rLV_12_282_12_136 : q_okV (q_cs 12) 282 (q_cs 12) 136 0 := Or.inl ⟨(by decide +kernel), q_in 1335 (by decide +kernel) (by decide +kernel), q_in 1048 (by decide +kernel) (by decide +kernel), q_in 1049 (by decide +kernel) (by decide +kernel), (by decide +kernel)⟩
theorem rLV_12_285_12_190 : q_okV (q_cs 12) 285 (q_cs 12) 190 0 := Or.inl ⟨(by decide +kernel), q_in 1311 (by decide +kernel) (by decide +kernel), q_in 1313 (by decide +kernel) (by decide +kernel), q_in 34 (by decide +kernel) (by decide +kernel), (by decide +kernel)⟩
theorem rLV_12_288_12_191 : q_okV (q_cs 12) 288 (q_cs 12) 191 1 := Or.inl ⟨(by decide +kernel), q_in 1330 (by decide +kernel) (by decide +kernel), q_in 1332 (by decide +kernel) (by decide +kernel), q_in 38 (by decide +kernel) (by decide +kernel), (by decide +kernel)⟩
theorem rLV_12_294_12_193 : q_okV (q_cs 12) 294 (q_cs 12) 193 1 := Or.inl ⟨(by decide +kernel), q_in 1344 (by decide +kernel) (by decide +kernel), q_in 1346 (by decide +kernel) (by decide +kernel), q_in 40 (by decide +kernel) (by decide +kernel), (by decide +kernel)⟩
theorem rLV_12_297_12_194 : q_okV (q_cs 12) 297 (q_cs 12) 194 2 := Or.inl ⟨(by decide +kernel), q_in 1340 (by decide +kernel) (by decide +kernel), q_in 1342 (by decide +kernel) (by decide +kernel), q_in 39 (by decide +kernel) (by decide +kernel), (by decide +kernel)⟩
theorem rLV_12_300_12_195 : q_okV (q_cs 12) 300 (q_cs 12) 195 2 := Or.inl ⟨(by decide +kernel), q_in 1348 (by decide +kernel) (by decide +kernel), q_in 1350 (by decide +kernel) (by decide +kernel), q_in 41 (by decide +kernel) (by decide +kernel), (by decide +kernel)⟩
theorem rLV_12_303_12_196 : q_okV (q_cs 12) 303 (q_cs 12) 196 2 := Or.inl ⟨(by decide +kernel), q_in 1352 (by decide +kernel) (by decide +kernel), q_in 1354 (by decide +kernel) (by decide +kernel), q_in 42 (by decide +kernel) (by decide +kernel), (by decide +kernel)⟩
theorem rLV_12_313_12_200 : q_okV (q_cs 12) 313 (q_cs 12) 200 1 := Or.inl ⟨(by decide +kernel), q_in 1282 (by decide +kernel) (by decide +kernel), q_in 1284 (by decide +kernel) (by decide +kernel), q_in 32 (by decide +kernel) (by decide +kernel), (by decide +kernel)⟩
theorem rLV_12_316_12_201 : q_okV (q_cs 12) 316 (q_cs 12) 201 1 := Or.inl ⟨(by decide +kernel), q_in 1286 (by decide +kernel) (by decide +kernel), q_in 1288 (by decide +kernel) (by decide +kernel), q_in 33 (by decide +kernel) (by decide +kernel), (by decide +kernel)⟩
theorem rLV_12_320_12_206 : q_okV (q_cs 12) 320 (q_cs 12) 206 0 := Or.inl ⟨(by decide +kernel), q_in 1380 (by decide +kernel) (by decide +kernel), q_in 1382 (by decide +kernel) (by decide +kernel), q_in 43 (by decide +kernel) (by decide +kernel), (by decide +kernel)⟩
theorem rLV_14_13_11_61 : q_okV (q_cs 14) 13 (q_cs 11) 61 3 := Or.inl ⟨(by decide +kernel), q_in 332 (by decide +kernel) (by decide +kernel), q_in 333 (by decide +kernel) (by decide +kernel), q_in 334 (by decide +kernel) (by decide +kernel), (by decide +kernel)⟩
theorem rLV_14_17_12_135 : q_okV (q_cs 14) 17 (q_cs 12) 135 3 := Or.inl ⟨(by decide +kernel), q_in 1036 (by decide +kernel) (by decide +kernel), q_in 1037 (by decide +kernel) (by decide +kernel), q_in 1038 (by decide +kernel) (by decide +kernel), (by decide +kernel)⟩
theorem rLV_14_18_11_62 : q_okV (q_cs 14) 18 (q_cs 11) 62 0 := Or.inl ⟨(by decide +kernel), q_in 354 (by decide +kernel) (by decide +kernel), q_in 355 (by decide +kernel) (by decide +kernel), q_in 356 (by decide +kernel) (by decide +kernel), (by decide +kernel)⟩
theorem rLV_14_22_12_136 : q_okV (q_cs 14) 22 (q_cs 12) 136 0 := Or.inl ⟨(by decide +kernel), q_in 1047 (by decide +kernel) (by decide +kernel), q_in 1048 (by decide +kernel) (by decide +kernel), q_in 1049 (by decide +kernel) (by decide +kernel), (by decide +kernel)⟩
theorem rLV_14_23_11_63 : q_okV (q_cs 14) 23 (q_cs 11) 63 0 := Or.inl ⟨(by decide +kernel), q_in 358 (by decide +kernel) (by decide +kernel), q_in 359 (by decide +kernel) (by decide +kernel), q_in 360 (by decide +kernel) (by decide +kernel), (by decide +kernel)⟩
theorem rLV_14_26_12_137 : q_okV (q_cs 14) 26 (q_cs 12) 137 0 := Or.inl ⟨(by decide +kernel), q_in 1051 (by decide +kernel) (by decide +kernel), q_in 1052 (by decide +kernel) (by decide +kernel), q_in 1053 (by decide +kernel) (by decide +kernel), (by decide +kernel)⟩
theorem rLV_14_27_11_64 : q_okV (q_cs 14) 27 (q_cs 11) 64 3 := Or.inl ⟨(by decide +kernel), q_in 362 (by decide +kernel) (by decide +kernel), q_in 363 (by decide +kernel) (by decide +kernel), q_in 364 (by decide +kernel) (by decide +kernel), (by decide +kernel)⟩
theorem rLV_14_30_12_145 : q_okV (q_cs 14) 30 (q_cs 12) 145 3 := Or.inl ⟨(by decide +kernel), q_in 1055 (by decide +kernel) (by decide +kernel), q_in 1056 (by decide +kernel) (by decide +kernel), q_in 1057 (by decide +kernel) (by decide +kernel), (by decide +kernel)⟩
theorem rLV_14_31_11_65 : q_okV (q_cs 14) 31 (q_cs 11) 65 2 := Or.inl ⟨(by decide +kernel), q_in 406 (by decide +kernel) (by decide +kernel), q_in 407 (by decide +kernel) (by decide +kernel), q_in 408 (by decide +kernel) (by decide +kernel), (by decide +kernel)⟩
theorem rLV_14_35_12_148 : q_okV (q_cs 14) 35 (q_cs 12) 148 2 := Or.inl ⟨(by decide +kernel), q_in 1105 (by decide +kernel) (by decide +kernel), q_in 1106 (by decide +kernel) (by decide +kernel), q_in 1107 (by decide +kernel) (by decide +kernel), (by decide +kernel)⟩
theorem rLV_14_36_11_66 : q_okV (q_cs 14) 36 (q_cs 11) 66 2 := Or.inl ⟨(by decide +kernel), q_in 467 (by decide +kernel) (by decide +kernel), q_in 468 (by decide +kernel) (by decide +kernel), q_in 469 (by decide +kernel) (by decide +kernel), (by decide +kernel)⟩
theorem rLV_14_39_12_149 : q_okV (q_cs 14) 39 (q_cs 12) 149 2 := Or.inl ⟨(by decide +kernel), q_in 1117 (by decide +kernel) (by decide +kernel), q_in 1118 (by decide +kernel) (by decide +kernel), q_in 1119 (by decide +kernel) (by decide +kernel), (by decide +kernel)⟩
theorem rLV_14_40_11_67 : q_okV (q_cs 14) 40 (q_cs 11) 67 2 := Or.inl ⟨(by decide +kernel), q_in 501 (by decide +kernel) (by decide +kernel), q_in 502 (by decide +kernel) (by decide +kernel), q_in 503 (by decide +kernel) (by decide +kernel), (by decide +kernel)⟩
theorem rLV_14_43_12_150 : q_okV (q_cs 14) 43 (q_cs 12) 150 2 := Or.inl ⟨(by decide +kernel), q_in 1144 (by decide +kernel) (by decide +kernel), q_in 1145 (by decide +kernel) (by decide +kernel), q_in 1146 (by decide +kernel) (by decide +kernel), (by decide +kernel)⟩
theorem rLV_14_44_11_68 : q_okV (q_cs 14) 44 (q_cs 11) 68 3 := Or.inl ⟨(by decide +kernel), q_in 506 (by decide +kernel) (by decide +kernel), q_in 507 (by decide +kernel) (by decide +kernel), q_in 508 (by decide +kernel) (by decide +kernel), (by decide +kernel)⟩
theorem rLV_14_47_12_151 : q_okV (q_cs 14) 47 (q_cs 12) 151 3 := Or.inl ⟨(by decide +kernel), q_in 1148 (by decide +kernel) (by decide +kernel), q_in 1149 (by decide +kernel) (by decide +kernel), q_in 1150 (by decide +kernel) (by decide +kernel), (by decide +kernel)⟩
theorem rLV_14_48_11_69 : q_okV (q_cs 14) 48 (q_cs 11) 69 2 := Or.inl ⟨(by decide +kernel), q_in 511 (by decide +kernel) (by decide +kernel), q_in 512 (by decide +kernel) (by decide +kernel), q_in 513 (by decide +kernel) (by decide +kernel), (by decide +kernel)⟩
theorem rLV_14_51_12_152 : q_okV (q_cs 14) 51 (q_cs 12) 152 2 := Or.inl ⟨(by decide +kernel), q_in 1152 (by decide +kernel) (by decide +kernel), q_in 1153 (by decide +kernel) (by decide +kernel), q_in 1154 (by decide +kernel) (by decide +kernel), (by decide +kernel)⟩
theorem rLV_14_52_11_70 : q_okV (q_cs 14) 52 (q_cs 11) 70 3 := Or.inl ⟨(by decide +kernel), q_in 515 (by decide +kernel) (by decide +kernel), q_in 516 (by decide +kernel) (by decide +kernel), q_in 517 (by decide +kernel) (by decide +kernel), (by decide +kernel)⟩
theorem rLV_14_55_12_153 : q_okV (q_cs 14) 55 (q_cs 12) 153 3 := Or.inl ⟨(by decide +kernel), q_in 1156 (by decide +kernel) (by decide +kernel), q_in 1157 (by decide +kernel) (by decide +kernel), q_in 1158 (by decide +kernel) (by decide +kernel), (by decide +kernel)⟩
theorem rLV_14_56_11_71 : q_okV (q_cs 14) 56 (q_cs 11) 71 0 := Or.inl ⟨(by decide +kernel), q_in 527 (by decide +kernel) (by decide +kernel), q_in 528 (by decide +kernel) (by decide +kernel), q_in 529 (by decide +kernel) (by decide +kernel), (by decide +kernel)⟩
theorem rLV_14_59_12_154 : q_okV (q_cs 14) 59 (q_cs 12) 154 0 := Or.inl ⟨(by decide +kernel), q_in 1160 (by decide +kernel) (by decide +kernel), q_in 1161 (by decide +kernel) (by decide +kernel), q_in 1162 (by decide +kernel) (by decide +kernel), (by decide +kernel)⟩
theorem rLV_14_60_11_72 : q_okV (q_cs 14) 60 (q_cs 11) 72 2 := Or.inl ⟨(by decide +kernel), q_in 539 (by decide +kernel) (by decide +kernel), q_in 540 (by decide +kernel) (by decide +kernel), q_in 541 (by decide +kernel) (by decide +kernel), (by decide +kernel)⟩
theorem rLV_14_63_12_156 : q_okV (q_cs 14) 63 (q_cs 12) 156 2 := Or.inl ⟨(by decide +kernel), q_in 1168 (by decide +kernel) (by decide +kernel), q_in 1169 (by decide +kernel) (by decide +kernel), q_in 1170 (by decide +kernel) (by decide +kernel), (by decide +kernel)⟩
theorem rLV_14_64_11_73 : q_okV (q_cs 14) 64 (q_cs 11) 73 3 := Or.inl ⟨(by decide +kernel), q_in 553 (by decide +kernel) (by decide +kernel), q_in 554 (by decide +kernel) (by decide +kernel), q_in 555 (by decide +kernel) (by decide +kernel), (by decide +kernel)⟩
theorem rLV_14_67_12_157 : q_okV (q_cs 14) 67 (q_cs 12) 157 3 := Or.inl ⟨(by decide +kernel), q_in 1180 (by decide +kernel) (by decide +kernel), q_in 1181 (by decide +kernel) (by decide +kernel), q_in 1182 (by decide +kernel) (by decide +kernel), (by decide +kernel)⟩
theorem rLV_14_68_11_74 : q_okV (q_cs 14) 68 (q_cs 11) 74 3 := Or.inl ⟨(by decide +kernel), q_in 557 (by decide +kernel) (by decide +kernel), q_in 558 (by decide +kernel) (by decide +kernel), q_in 559 (by decide +kernel) (by decide +kernel), (by decide +kernel)⟩
theorem rLV_14_71_12_160 : q_okV (q_cs 14) 71 (q_cs 12) 160 3 := Or.inl ⟨(by decide +kernel), q_in 1184 (by decide +kernel) (by decide +kernel), q_in 1185 (by decide +kernel) (by decide +kernel), q_in 1186 (by decide +kernel) (by decide +kernel), (by decide +kernel)⟩
theorem rLV_14_72_11_75 : q_okV (q_cs 14) 72 (q_cs 11) 75 2 := Or.inl ⟨(by decide +kernel), q_in 568 (by decide +kernel) (by decide +kernel), q_in 569 (by decide +kernel) (by decide +kernel), q_in 570 (by decide +kernel) (by decide +kernel), (by decide +kernel)⟩
theorem rLV_14_75_12_161 : q_okV (q_cs 14) 75 (q_cs 12) 161 2 := Or.inl ⟨(by decide +kernel), q_in 1195 (by decide +kernel) (by decide +kernel), q_in 1196 (by decide +kernel) (by decide +kernel), q_in 1197 (by decide +kernel) (by decide +kernel), (by decide +kernel)⟩
theorem rLV_14_76_11_76 : q_okV (q_cs 14) 76 (q_cs 11) 76 5 := Or.inl ⟨(by decide +kernel), q_in 572 (by decide +kernel) (by decide +kernel), q_in 573 (by decide +kernel) (by decide +kernel), q_in 574 (by decide +kernel) (by decide +kernel), (by decide +kernel)⟩
theorem rLV_14_80_12_162 : q_okV (q_cs 14) 80 (q_cs 12) 162 5 := Or.inl ⟨(by decide +kernel), q_in 1199 (by decide +kernel) (by decide +kernel), q_in 1200 (by decide +kernel) (by decide +kernel), q_in 1201 (by decide +kernel) (by decide +kernel), (by decide +kernel)⟩
theorem rLV_14_81_11_77 : q_okV (q_cs 14) 81 (q_cs 11) 77 4 := Or.inl ⟨(by decide +kernel), q_in 589 (by decide +kernel) (by decide +kernel), q_in 590 (by decide +kernel) (by decide +kernel), q_in 591 (by decide +kernel) (by decide +kernel), (by decide +kernel)⟩
theorem rLV_14_85_12_163 : q_okV (q_cs 14) 85 (q_cs 12) 163 4 := Or.inl ⟨(by decide +kernel), q_in 1203 (by decide +kernel) (by decide +kernel), q_in 1204 (by decide +kernel) (by decide +kernel), q_in 1205 (by decide +kernel) (by decide +kernel), (by decide +kernel)⟩
theorem rLV_14_86_11_78 : q_okV (q_cs 14) 86 (q_cs 11) 78 3 := Or.inl ⟨(by decide +kernel), q_in 593 (by decide +kernel) (by decide +kernel), q_in 594 (by decide +kernel) (by decide +kernel), q_in 595 (by decide +kernel) (by decide +kernel), (by decide +kernel)⟩
theorem rLV_14_89_12_164 : q_okV (q_cs 14) 89 (q_cs 12) 164 3 := Or.inl ⟨(by decide +kernel), q_in 1207 (by decide +kernel) (by decide +kernel), q_in 1208 (by decide +kernel) (by decide +kernel), q_in 1209 (by decide +kernel) (by decide +kernel), (by decide +kernel)⟩
theorem rLV_14_90_11_79 : q_okV (q_cs 14) 90 (q_cs 11) 79 2 := Or.inl ⟨(by decide +kernel), q_in 597 (by decide +kernel) (by decide +kernel), q_in 598 (by decide +kernel) (by decide +kernel), q_in 599 (by decide +kernel) (by decide +kernel), (by decide +kernel)⟩
theorem rLV_14_93_12_166 : q_okV (q_cs 14) 93 (q_cs 12) 166 2 := Or.inl ⟨(by decide +kernel), q_in 1211 (by decide +kernel) (by decide +kernel), q_in 1212 (by decide +kernel) (by decide +kernel), q_in 1213 (by decide +kernel) (by decide +kernel), (by decide +kernel)⟩
theorem rLV_14_94_11_80 : q_okV (q_cs 14) 94 (q_cs 11) 80 1 := Or.inl ⟨(by decide +kernel), q_in 605 (by decide +kernel) (by decide +kernel), q_in 606 (by decide +kernel) (by decide +kernel), q_in 607 (by decide +kernel) (by decide +kernel), (by decide +kernel)⟩
theorem rLV_14_98_12_167 : q_okV (q_cs 14) 98 (q_cs 12) 167 1 := Or.inl ⟨(by decide +kernel), q_in 1219 (by decide +kernel) (by decide +kernel), q_in 1220 (by decide +kernel) (by decide +kernel), q_in 1221 (by decide +kernel) (by decide +kernel), (by decide +kernel)⟩
theorem rLV_14_99_11_81 : q_okV (q_cs 14) 99 (q_cs 11) 81 5 := Or.inl ⟨(by decide +kernel), q_in 609 (by decide +kernel) (by decide +kernel), q_in 610 (by decide +kernel) (by decide +kernel), q_in 611 (by decide +kernel) (by decide +kernel), (by decide +kernel)⟩
theorem rLV_14_102_12_176 : q_okV (q_cs 14) 102 (q_cs 12) 176 5 := Or.inl ⟨(by decide +kernel), q_in 1250 (by decide +kernel) (by decide +kernel), q_in 1251 (by decide +kernel) (by decide +kernel), q_in 1252 (by decide +kernel) (by decide +kernel), (by decide +kernel)⟩
theorem rLV_14_103_11_82 : q_okV (q_cs 14) 103 (q_cs 11) 82 2 := Or.inl ⟨(by decide +kernel), q_in 637 (by decide +kernel) (by decide +kernel), q_in 638 (by decide +kernel) (by decide +kernel), q_in 639 (by decide +kernel) (by decide +kernel), (by decide +kernel)⟩
theorem rLV_14_106_12_179 : q_okV (q_cs 14) 106 (q_cs 12) 179 2 := Or.inl ⟨(by decide +kernel), q_in 1266 (by decide +kernel) (by decide +kernel), q_in 1267 (by decide +kernel) (by decide +kernel), q_in 1268 (by decide +kernel) (by decide +kernel), (by decide +kernel)⟩
theorem rLV_14_107_11_83 : q_okV (q_cs 14) 107 (q_cs 11) 83 3 := Or.inl ⟨(by decide +kernel), q_in 641 (by decide +kernel) (by decide +kernel), q_in 642 (by decide +kernel) (by decide +kernel), q_in 643 (by decide +kernel) (by decide +kernel), (by decide +kernel)⟩
theorem rLV_14_110_12_180 : q_okV (q_cs 14) 110 (q_cs 12) 180 3 := Or.inl ⟨(by decide +kernel), q_in 1270 (by decide +kernel) (by decide +kernel), q_in 1271 (by decide +kernel) (by decide +kernel), q_in 1272 (by decide +kernel) (by decide +kernel), (by decide +kernel)⟩
theorem rLV_14_111_11_84 : q_okV (q_cs 14) 111 (q_cs 11) 84 2 := Or.inl ⟨(by decide +kernel), q_in 649 (by decide +kernel) (by decide +kernel), q_in 650 (by decide +kernel) (by decide +kernel), q_in 651 (by decide +kernel) (by decide +kernel), (by decide +kernel)⟩
theorem rLV_14_114_12_181 : q_okV (q_cs 14) 114 (q_cs 12) 181 2 := Or.inl ⟨(by decide +kernel), q_in 1274 (by decide +kernel) (by decide +kernel), q_in 1275 (by decide +kernel) (by decide +kernel), q_in 1276 (by decide +kernel) (by decide +kernel), (by decide +kernel)⟩
theorem rLV_14_115_11_85 : q_okV (q_cs 14) 115 (q_cs 11) 85 0 := Or.inl ⟨(by decide +kernel), q_in 653 (by decide +kernel) (by decide +kernel), q_in 654 (by decide +kernel) (by decide +kernel), q_in 655 (by decide +kernel) (by decide +kernel), (by decide +kernel)⟩
theorem rLV_14_118_12_182 : q_okV (q_cs 14) 118 (q_cs 12) 182 0 := Or.inl ⟨(by decide +kernel), q_in 1290 (by decide +kernel) (by decide +kernel), q_in 1291 (by decide +kernel) (by decide +kernel), q_in 1292 (by decide +kernel) (by decide +kernel), (by decide +kernel)⟩
theorem rLV_14_119_11_86 : q_okV (q_cs 14) 119 (q_cs 11) 86 0 := Or.inl ⟨(by decide +kernel), q_in 658 (by decide +kernel) (by decide +kernel), q_in 659 (by decide +kernel) (by decide +kernel), q_in 660 (by decide +kernel) (by decide +kernel), (by decide +kernel)⟩
theorem rLV_14_122_12_183 : q_okV (q_cs 14) 122 (q_cs 12) 183 0 := Or.inl ⟨(by decide +kernel), q_in 1295 (by decide +kernel) (by decide +kernel), q_in 1296 (by decide +kernel) (by decide +kernel), q_in 1297 (by decide +kernel) (by decide +kernel), (by decide +kernel)⟩
theorem rLV_14_123_11_87 : q_okV (q_cs 14) 123 (q_cs 11) 87 0 := Or.inl ⟨(by decide +kernel), q_in 662 (by decide +kernel) (by decide +kernel), q_in 663 (by decide +kernel) (by decide +kernel), q_in 664 (by decide +kernel) (by decide +kernel), (by decide +kernel)⟩
theorem rLV_14_126_12_146 : q_okV (q_cs 14) 126 (q_cs 12) 146 0 := Or.inl ⟨(by decide +kernel), q_in 1097 (by decide +kernel) (by decide +kernel), q_in 1098 (by decide +kernel) (by decide +kernel), q_in 1099 (by decide +kernel) (by decide +kernel), (by decide +kernel)⟩
theorem rLV_14_127_11_88 : q_okV (q_cs 14) 127 (q_cs 11) 88 0 := Or.inl ⟨(by decide +kernel), q_in 671 (by decide +kernel) (by decide +kernel), q_in 672 (by decide +kernel) (by decide +kernel), q_in 673 (by decide +kernel) (by decide +kernel), (by decide +kernel)⟩
theorem rLV_14_130_12_147 : q_okV (q_cs 14) 130 (q_cs 12) 147 0 := Or.inl ⟨(by decide +kernel), q_in 1101 (by decide +kernel) (by decide +kernel), q_in 1102 (by decide +kernel) (by decide +kernel), q_in 1103 (by decide +kernel) (by decide +kernel), (by decide +kernel)⟩
theorem rLV_14_131_11_89 : q_okV (q_cs 14) 131 (q_cs 11) 89 1 := Or.inl ⟨(by decide +kernel), q_in 679 (by decide +kernel) (by decide +kernel), q_in 680 (by decide +kernel) (by decide +kernel), q_in 681 (by decide +kernel) (by decide +kernel), (by decide +kernel)⟩
theorem rLV_14_134_12_184 : q_okV (q_cs 14) 134 (q_cs 12) 184 1 := Or.inl ⟨(by decide +kernel), q_in 1299 (by decide +kernel) (by decide +kernel), q_in 1300 (by decide +kernel) (by decide +kernel), q_in 1301 (by decide +kernel) (by decide +kernel), (by decide +kernel)⟩
theorem rLV_14_135_11_90 : q_okV (q_cs 14) 135 (q_cs 11) 90 0 := Or.inl ⟨(by decide +kernel), q_in 687 (by decide +kernel) (by decide +kernel), q_in 688 (by decide +kernel) (by decide +kernel), q_in 689 (by decide +kernel) (by decide +kernel), (by decide +kernel)⟩
theorem rLV_14_138_12_185 : q_okV (q_cs 14) 138 (q_cs 12) 185 0 := Or.inl ⟨(by decide +kernel), q_in 1303 (by decide +kernel) (by decide +kernel), q_in 1304 (by decide +kernel) (by decide +kernel), q_in 1305 (by decide +kernel) (by decide +kernel), (by decide +kernel)⟩
theorem rLV_14_139_11_91 : q_okV (q_cs 14) 139 (q_cs 11) 91 0 := Or.inl ⟨(by decide +kernel), q_in 691 (by decide +kernel) (by decide +kernel), q_in 692 (by decide +kernel) (by decide +kernel), q_in 693 (by decide +kernel) (by decide +kernel), (by decide +kernel)⟩
theorem rLV_14_142_12_192 : q_okV (q_cs 14) 142 (q_cs 12) 192 0 := Or.inl ⟨(by decide +kernel), q_in 1307 (by decide +kernel) (by decide +kernel), q_in 1308 (by decide +kernel) (by decide +kernel), q_in 1309 (by decide +kernel) (by decide +kernel), (by decide +kernel)⟩
theorem rLV_14_143_11_92 : q_okV (q_cs 14) 143 (q_cs 11) 92 3 := Or.inl ⟨(by decide +kernel), q_in 723 (by decide +kernel) (by decide +kernel), q_in 724 (by decide +kernel) (by decide +kernel), q_in 725 (by decide +kernel) (by decide +kernel), (by decide +kernel)⟩
theorem rLV_14_146_12_170 : q_okV (q_cs 14) 146 (q_cs 12) 170 3 := Or.inl ⟨(by decide +kernel), q_in 1223 (by decide +kernel) (by decide +kernel), q_in 1224 (by decide +kernel) (by decide +kernel), q_in 1225 (by decide +kernel) (by decide +kernel), (by decide +kernel)⟩
theorem rLV_14_149_11_93 : q_okV (q_cs 14) 149 (q_cs 11) 93 3 := Or.inl ⟨(by decide +kernel), q_in 731 (by decide +kernel) (by decide +kernel), q_in 732 (by decide +kernel) (by decide +kernel), q_in 733 (by decide +kernel) (by decide +kernel), (by decide +kernel)⟩
theorem rLV_14_153_12_171 : q_okV (q_cs 14) 153 (q_cs 12) 171 3 := Or.inl ⟨(by decide +kernel), q_in 1230 (by decide +kernel) (by decide +kernel), q_in 1231 (by decide +kernel) (by decide +kernel), q_in 1232 (by decide +kernel) (by decide +kernel), (by decide +kernel)⟩
theorem rLV_14_154_11_94 : q_okV (q_cs 14) 154 (q_cs 11) 94 2 := Or.inl ⟨(by decide +kernel), q_in 743 (by decide +kernel) (by decide +kernel), q_in 744 (by decide +kernel) (by decide +kernel), q_in 745 (by decide +kernel) (by decide +kernel), (by decide +kernel)⟩
theorem rLV_14_158_12_172 : q_okV (q_cs 14) 158 (q_cs 12) 172 2 := Or.inl ⟨(by decide +kernel), q_in 1237 (by decide +kernel) (by decide +kernel), q_in 1238 (by decide +kernel) (by decide +kernel), q_in 1239 (by decide +kernel) (by decide +kernel), (by decide +kernel)⟩
theorem rLV_14_159_11_95 : q_okV (q_cs 14) 159 (q_cs 11) 95 3 := Or.inl ⟨(by decide +kernel), q_in 748 (by decide +kernel) (by decide +kernel), q_in 749 (by decide +kernel) (by decide +kernel), q_in 750 (by decide +kernel) (by decide +kernel), (by decide +kernel)⟩
theorem rLV_14_162_12_173 : q_okV (q_cs 14) 162 (q_cs 12) 173 3 := Or.inl ⟨(by decide +kernel), q_in 1242 (by decide +kernel) (by decide +kernel), q_in 1243 (by decide +kernel) (by decide +kernel), q_in 1244 (by decide +kernel) (by decide +kernel), (by decide +kernel)⟩
theorem rLV_14_163_11_96 : q_okV (q_cs 14) 163 (q_cs 11) 96 5 := Or.inl ⟨(by decide +kernel), q_in 752 (by decide +kernel) (by decide +kernel), q_in 753 (by decide +kernel) (by decide +kernel), q_in 754 (by decide +kernel) (by decide +kernel), (by decide +kernel)⟩
theorem rLV_14_166_12_174 : q_okV (q_cs 14) 166 (q_cs 12) 174 5 := Or.inl ⟨(by decide +kernel), q_in 1246 (by decide +kernel) (by decide +kernel), q_in 1247 (by decide +kernel) (by decide +kernel), q_in 1248 (by decide +kernel) (by decide +kernel), (by decide +kernel)⟩
theorem rLV_14_167_11_97 : q_okV (q_cs 14) 167 (q_cs 11) 97 3 := Or.inl ⟨(by decide +kernel), q_in 761 (by decide +kernel) (by decide +kernel), q_in 762 (by decide +kernel) (by decide +kernel), q_in 763 (by decide +kernel) (by decide +kernel), (by decide +kernel)⟩
theorem rLV_14_170_12_197 : q_okV (q_cs 14) 170 (q_cs 12) 197 3 := Or.inl ⟨(by decide +kernel), q_in 1336 (by decide +kernel) (by decide +kernel), q_in 1337 (by decide +kernel) (by decide +kernel), q_in 1338 (by decide +kernel) (by decide +kernel), (by decide +kernel)⟩
theorem rLV_14_171_11_98 : q_okV (q_cs 14) 171 (q_cs 11) 98 1 := Or.inl ⟨(by decide +kernel), q_in 846 (by decide +kernel) (by decide +kernel), q_in 847 (by decide +kernel) (by decide +kernel), q_in 848 (by decide +kernel) (by decide +kernel), (by decide +kernel)⟩
theorem rLV_14_174_12_198 : q_okV (q_cs 14) 174 (q_cs 12) 198 1 := Or.inl ⟨(by decide +kernel), q_in 1356 (by decide +kernel) (by decide +kernel), q_in 1357 (by decide +kernel) (by decide +kernel), q_in 1358 (by decide +kernel) (by decide +kernel), (by decide +kernel)⟩
theorem rLV_14_175_11_99 : q_okV (q_cs 14) 175 (q_cs 11) 99 2 := Or.inl ⟨(by decide +kernel), q_in 850 (by decide +kernel) (by decide +kernel), q_in 851 (by decide +kernel) (by decide +kernel), q_in 852 (by decide +kernel) (by decide +kernel), (by decide +kernel)⟩
theorem rLV_14_178_12_199 : q_okV (q_cs 14) 178 (q_cs 12) 199 2 := Or.inl ⟨(by decide +kernel), q_in 1360 (by decide +kernel) (by decide +kernel), q_in 1361 (by decide +kernel) (by decide +kernel), q_in 1362 (by decide +kernel) (by decide +kernel), (by decide +kernel)⟩
theorem rLV_14_179_11_100 : q_okV (q_cs 14) 179 (q_cs 11) 100 0 := Or.inl ⟨(by decide +kernel), q_in 857 (by decide +kernel) (by decide +kernel), q_in 858 (by decide +kernel) (by decide +kernel), q_in 859 (by decide +kernel) (by decide +kernel), (by decide +kernel)⟩
theorem rLV_14_182_12_203 : q_okV (q_cs 14) 182 (q_cs 12) 203 0 := Or.inl ⟨(by decide +kernel), q_in 1364 (by decide +kernel) (by decide +kernel), q_in 1365 (by decide +kernel) (by decide +kernel), q_in 1366 (by decide +kernel) (by decide +kernel), (by decide +kernel)⟩
theorem rLV_14_183_11_101 : q_okV (q_cs 14) 183 (q_cs 11) 101 0 := Or.inl ⟨(by decide +kernel), q_in 866 (by decide +kernel) (by decide +kernel), q_in 867 (by decide +kernel) (by decide +kernel), q_in 868 (by decide +kernel) (by decide +kernel), (by decide +kernel)⟩
theorem rLV_14_186_12_204 : q_okV (q_cs 14) 186 (q_cs 12) 204 0 := Or.inl ⟨(by decide +kernel), q_in 1368 (by decide +kernel) (by decide +kernel), q_in 1369 (by decide +kernel) (by decide +kernel), q_in 1370 (by decide +kernel) (by decide +kernel), (by decide +kernel)⟩
theorem rLV_14_187_11_102 : q_okV (q_cs 14) 187 (q_cs 11) 102 0 := Or.inl ⟨(by decide +kernel), q_in 875 (by decide +kernel) (by decide +kernel), q_in 876 (by decide +kernel) (by decide +kernel), q_in 877 (by decide +kernel) (by decide +kernel), (by decide +kernel)⟩
theorem rLV_14_190_12_205 : q_okV (q_cs 14) 190 (q_cs 12) 205 0 := Or.inl ⟨(by decide +kernel), q_in 1372 (by decide +kernel) (by decide +kernel), q_in 1373 (by decide +kernel) (by decide +kernel), q_in 1374 (by decide +kernel) (by decide +kernel), (by decide +kernel)⟩
theorem rLV_14_191_11_103 : q_okV (q_cs 14) 191 (q_cs 11) 103 1 := Or.inl ⟨(by decide +kernel), q_in 879 (by decide +kernel) (by decide +kernel), q_in 880 (by decide +kernel) (by decide +kernel), q_in 881 (by decide +kernel) (by decide +kernel), (by decide +kernel)⟩
theorem rLV_14_194_12_207 : q_okV (q_cs 14) 194 (q_cs 12) 207 1 := Or.inl ⟨(by decide +kernel), q_in 1376 (by decide +kernel) (by decide +kernel), q_in 1377 (by decide +kernel) (by decide +kernel), q_in 1378 (by decide +kernel) (by decide +kernel), (by decide +kernel)⟩
theorem rLS_4_58_105 : q_okS (q_cs 4) 58 105 2 := ⟨Or.inr ⟨(by decide +kernel), rfl, (by decide +kernel)⟩, q_in 340 (by decide +kernel) (by decide +kernel), (by decide +kernel)⟩
theorem rLS_6_57_209 : q_okS (q_cs 6) 57 209 2 := ⟨Or.inl (q_in 524 (by decide +kernel) (by decide +kernel)), q_in 525 (by decide +kernel) (by decide +kernel), (by decide +kernel)⟩
theorem rLS_6_65_210 : q_okS (q_cs 6) 65 210 2 := ⟨Or.inl (q_in 536 (by decide +kernel) (by decide +kernel)), q_in 537 (by decide +kernel) (by decide +kernel), (by decide +kernel)⟩
theorem rLS_9_11_208 : q_okS (q_cs 9) 11 208 2 := ⟨Or.inl (q_in 447 (by decide +kernel) (by decide +kernel)), q_in 448 (by decide +kernel) (by decide +kernel), (by decide +kernel)⟩
theorem rLS_10_22_56 : q_okS (q_cs 10) 22 56 1 := ⟨Or.inl (q_in 699 (by decide +kernel) (by decide +kernel)), q_in 700 (by decide +kernel) (by decide +kernel), (by decide +kernel)⟩
theorem rLS_10_26_57 : q_okS (q_cs 10) 26 57 1 := ⟨Or.inl (q_in 702 (by decide +kernel) (by decide +kernel)), q_in 703 (by decide +kernel) (by decide +kernel), (by decide +kernel)⟩
theorem rLS_11_87_104 : q_okS (q_cs 11) 87 104 1 := ⟨Or.inl (q_in 336 (by decide +kernel) (by decide +kernel)), q_in 337 (by decide +kernel) (by decide +kernel), (by decide +kernel)⟩
theorem rLS_11_91_105 : q_okS (q_cs 11) 91 105 2 := ⟨Or.inl (q_in 339 (by decide +kernel) (by decide +kernel)), q_in 340 (by decide +kernel) (by decide +kernel), (by decide +kernel)⟩
theorem rLS_11_158_107 : q_okS (q_cs 11) 158 107 2 := ⟨Or.inl (q_in 471 (by decide +kernel) (by decide +kernel)), q_in 472 (by decide +kernel) (by decide +kernel), (by decide +kernel)⟩
theorem rLS_11_182_106 : q_okS (q_cs 11) 182 106 1 := ⟨Or.inl (q_in 474 (by decide +kernel) (by decide +kernel)), q_in 475 (by decide +kernel) (by decide +kernel), (by decide +kernel)⟩
theorem rLS_11_189_108 : q_okS (q_cs 11) 189 108 3 := ⟨Or.inl (q_in 561 (by decide +kernel) (by decide +kernel)), q_in 562 (by decide +kernel) (by decide +kernel), (by decide +kernel)⟩
theorem rLS_11_218_109 : q_okS (q_cs 11) 218 109 1 := ⟨Or.inl (q_in 613 (by decide +kernel) (by decide +kernel)), q_in 614 (by decide +kernel) (by decide +kernel), (by decide +kernel)⟩
theorem rLS_11_331_110 : q_okS (q_cs 11) 331 110 2 := ⟨Or.inl (q_in 854 (by decide +kernel) (by decide +kernel)), q_in 855 (by decide +kernel) (by decide +kernel), (by decide +kernel)⟩
theorem rLS_12_122_120 : q_okS (q_cs 12) 122 120 3 := ⟨Or.inl (q_in 1040 (by decide +kernel) (by decide +kernel)), q_in 1041 (by decide +kernel) (by decide +kernel), (by decide +kernel)⟩
theorem rLS_12_126_123 : q_okS (q_cs 12) 126 123 1 := ⟨Or.inl (q_in 1124 (by decide +kernel) (by decide +kernel)), q_in 1125 (by decide +kernel) (by decide +kernel), (by decide +kernel)⟩
theorem rLS_12_147_129 : q_okS (q_cs 12) 147 129 1 := ⟨Or.inl (q_in 1140 (by decide +kernel) (by decide +kernel)), q_in 1141 (by decide +kernel) (by decide +kernel), (by decide +kernel)⟩
theorem rLS_12_185_141 : q_okS (q_cs 12) 185 141 1 := ⟨Or.inl (q_in 1075 (by decide +kernel) (by decide +kernel)), q_in 1076 (by decide +kernel) (by decide +kernel), (by decide +kernel)⟩
theorem rLS_12_188_142 : q_okS (q_cs 12) 188 142 1 := ⟨Or.inl (q_in 1078 (by decide +kernel) (by decide +kernel)), q_in 1079 (by decide +kernel) (by decide +kernel), (by decide +kernel)⟩
theorem rLS_12_209_124 : q_okS (q_cs 12) 209 124 2 := ⟨Or.inl (q_in 1121 (by decide +kernel) (by decide +kernel)), q_in 1122 (by decide +kernel) (by decide +kernel), (by decide +kernel)⟩
theorem rLS_12_218_158 : q_okS (q_cs 12) 218 158 3 := ⟨Or.inl (q_in 1188 (by decide +kernel) (by decide +kernel)), q_in 1189 (by decide +kernel) (by decide +kernel), (by decide +kernel)⟩
theorem rLS_12_228_168 : q_okS (q_cs 12) 228 168 1 := ⟨Or.inl (q_in 1227 (by decide +kernel) (by decide +kernel)), q_in 1228 (by decide +kernel) (by decide +kernel), (by decide +kernel)⟩
theorem rLS_12_231_169 : q_okS (q_cs 12) 231 169 2 := ⟨Or.inl (q_in 1234 (by decide +kernel) (by decide +kernel)), q_in 1235 (by decide +kernel) (by decide +kernel), (by decide +kernel)⟩
theorem rLS_12_266_187 : q_okS (q_cs 12) 266 187 1 := ⟨Or.inl (q_in 1323 (by decide +kernel) (by decide +kernel)), q_in 1324 (by decide +kernel) (by decide +kernel), (by decide +kernel)⟩
theorem rLI_1_7_46 : q_okP (q_cs 1) 7 46 2 := ⟨⟨"WhirlShafts$Rim", "weighs", "(II)I"⟩, q_in 436 (by decide +kernel) (by decide +kernel), q_in 1385 (by decide +kernel) (by decide +kernel), q_in 125 (by decide +kernel) (by decide +kernel), Or.inl (by decide +kernel), q_in 437 (by decide +kernel) (by decide +kernel), (by decide +kernel), (by decide +kernel), (by decide +kernel)⟩
theorem rLI_1_17_13 : q_okP (q_cs 1) 17 13 1 := ⟨⟨"WhirlShafts$Rim", "tells", "(I)I"⟩, q_in 838 (by decide +kernel) (by decide +kernel), q_in 839 (by decide +kernel) (by decide +kernel), q_in 125 (by decide +kernel) (by decide +kernel), Or.inr (q_in 103 (by decide +kernel) (by decide +kernel)), q_in 832 (by decide +kernel) (by decide +kernel), (by decide +kernel), (by decide +kernel), (by decide +kernel)⟩
theorem rLI_1_21_11 : q_okP (q_cs 1) 21 11 1 := ⟨⟨"WhirlShafts$Rim", "spins", "(I)I"⟩, q_in 787 (by decide +kernel) (by decide +kernel), q_in 788 (by decide +kernel) (by decide +kernel), q_in 125 (by decide +kernel) (by decide +kernel), Or.inr (q_in 103 (by decide +kernel) (by decide +kernel)), q_in 775 (by decide +kernel) (by decide +kernel), (by decide +kernel), (by decide +kernel), (by decide +kernel)⟩
theorem rLI_3_13_11 : q_okP (q_cs 3) 13 11 1 := ⟨⟨"WhirlShafts$Disc", "spins", "(I)I"⟩, q_in 797 (by decide +kernel) (by decide +kernel), q_in 777 (by decide +kernel) (by decide +kernel), q_in 114 (by decide +kernel) (by decide +kernel), Or.inl (by decide +kernel), q_in 775 (by decide +kernel) (by decide +kernel), (by decide +kernel), (by decide +kernel), (by decide +kernel)⟩
theorem rLI_7_13_12 : q_okP (q_cs 7) 13 12 1 := ⟨⟨"WhirlShafts$Disc", "swings", "(I)I"⟩, q_in 813 (by decide +kernel) (by decide +kernel), q_in 805 (by decide +kernel) (by decide +kernel), q_in 103 (by decide +kernel) (by decide +kernel), Or.inl (by decide +kernel), q_in 803 (by decide +kernel) (by decide +kernel), (by decide +kernel), (by decide +kernel), (by decide +kernel)⟩
theorem rLI_9_7_14 : q_okP (q_cs 9) 7 14 2 := ⟨⟨"WhirlShafts$Hub", "weighs", "(II)I"⟩, q_in 446 (by decide +kernel) (by decide +kernel), q_in 1386 (by decide +kernel) (by decide +kernel), q_in 136 (by decide +kernel) (by decide +kernel), Or.inl (by decide +kernel), q_in 440 (by decide +kernel) (by decide +kernel), (by decide +kernel), (by decide +kernel), (by decide +kernel)⟩
theorem rLI_9_22_12 : q_okP (q_cs 9) 22 12 1 := ⟨⟨"WhirlShafts$Hub", "swings", "(I)I"⟩, q_in 822 (by decide +kernel) (by decide +kernel), q_in 823 (by decide +kernel) (by decide +kernel), q_in 136 (by decide +kernel) (by decide +kernel), Or.inr (q_in 114 (by decide +kernel) (by decide +kernel)), q_in 803 (by decide +kernel) (by decide +kernel), (by decide +kernel), (by decide +kernel), (by decide +kernel)⟩
theorem rLC_6_53 : Cond.constantLong (q_cs 6) 53 (Int64.ofNat 1073741823) ∈ q_TW := q_in 496 (by decide +kernel) (by decide +kernel)
theorem rLC_6_55 : Cond.constantLong (q_cs 6) 55 (Int64.ofNat 10007) ∈ q_TW := q_in 523 (by decide +kernel) (by decide +kernel)
theorem rLC_6_63 : Cond.constantLong (q_cs 6) 63 (Int64.ofNat 2) ∈ q_TW := q_in 535 (by decide +kernel) (by decide +kernel)
theorem rLC_6_76 : Cond.constantLong (q_cs 6) 76 (Int64.ofNat 9999) ∈ q_TW := q_in 632 (by decide +kernel) (by decide +kernel)
theorem rLC_11_295 : Cond.constantLong (q_cs 11) 295 (Int64.ofNat 9223372036854775808) ∈ q_TW := q_in 747 (by decide +kernel) (by decide +kernel)
theorem rLC_12_140 : Cond.constantLong (q_cs 12) 140 (Int64.ofNat 10007) ∈ q_TW := q_in 1143 (by decide +kernel) (by decide +kernel)
theorem rLC_12_142 : Cond.constantLong (q_cs 12) 142 (Int64.ofNat 268435455) ∈ q_TW := q_in 1135 (by decide +kernel) (by decide +kernel)
theorem rLC_12_235 : Cond.constantLong (q_cs 12) 235 (Int64.ofNat 9223372036854775808) ∈ q_TW := q_in 1241 (by decide +kernel) (by decide +kernel)
theorem rLC_14_147 : Cond.constantLong (q_cs 14) 147 (Int64.ofNat 4294967295) ∈ q_TW := q_in 1384 (by decide +kernel) (by decide +kernel)
theorem rLG_11_9 : Cond.fieldLink (q_cs 11) 9 "WhirlShafts" "ABOVE" "[I" ∈ q_TW := q_in 68 (by decide +kernel) (by decide +kernel)
theorem rLG_11_351 : Cond.fieldLink (q_cs 11) 351 "WhirlShafts" "LEAST" "[I" ∈ q_TW := q_in 342 (by decide +kernel) (by decide +kernel)
theorem rLG_11_354 : Cond.fieldLink (q_cs 11) 354 "WhirlShafts" "MOST" "[I" ∈ q_TW := q_in 344 (by decide +kernel) (by decide +kernel)
theorem rLA_0_34 : Cond.methodLink (q_cs 0) 34 arraycopyName ∈ q_TW := q_in 403 (by decide +kernel) (by decide +kernel)
theorem rLA_4_41 : Cond.methodLink (q_cs 4) 41 arraycopyName ∈ q_TW := q_in 580 (by decide +kernel) (by decide +kernel)
theorem rLA_5_25 : Cond.methodLink (q_cs 5) 25 arraycopyName ∈ q_TW := q_in 865 (by decide +kernel) (by decide +kernel)
theorem rLA_11_303 : Cond.methodLink (q_cs 11) 303 arraycopyName ∈ q_TW := q_in 760 (by decide +kernel) (by decide +kernel)
theorem rCI_0 : Cond.initialized (q_cs 0) ∈ q_TW := q_in 53 (by decide +kernel) (by decide +kernel)
theorem rCI_1 : Cond.initialized (q_cs 1) ∈ q_TW := q_in 49 (by decide +kernel) (by decide +kernel)
theorem rCI_2 : Cond.initialized (q_cs 2) ∈ q_TW := q_in 46 (by decide +kernel) (by decide +kernel)
theorem rCI_3 : Cond.initialized (q_cs 3) ∈ q_TW := q_in 48 (by decide +kernel) (by decide +kernel)
theorem rCI_4 : Cond.initialized (q_cs 4) ∈ q_TW := q_in 51 (by decide +kernel) (by decide +kernel)
theorem rCI_5 : Cond.initialized (q_cs 5) ∈ q_TW := q_in 52 (by decide +kernel) (by decide +kernel)
theorem rCI_6 : Cond.initialized (q_cs 6) ∈ q_TW := q_in 54 (by decide +kernel) (by decide +kernel)
theorem rCI_7 : Cond.initialized (q_cs 7) ∈ q_TW := q_in 47 (by decide +kernel) (by decide +kernel)
theorem rCI_8 : Cond.initialized (q_cs 8) ∈ q_TW := q_in 56 (by decide +kernel) (by decide +kernel)
theorem rCI_9 : Cond.initialized (q_cs 9) ∈ q_TW := q_in 50 (by decide +kernel) (by decide +kernel)
theorem rCI_10 : Cond.initialized (q_cs 10) ∈ q_TW := q_in 55 (by decide +kernel) (by decide +kernel)
theorem rCI_11 : Cond.initialized (q_cs 11) ∈ q_TW := q_in 45 (by decide +kernel) (by decide +kernel)
theorem rCI_12 : Cond.initialized (q_cs 12) ∈ q_TW := q_in 57 (by decide +kernel) (by decide +kernel)
theorem q_ci_all (c : Nat) (hc : c < 13) : Cond.initialized (q_cs c) ∈ q_TW := by
  rcases (show c = 0 ∨ c = 1 ∨ c = 2 ∨ c = 3 ∨ c = 4 ∨ c = 5 ∨ c = 6 ∨ c = 7 ∨ c = 8 ∨ c = 9 ∨ c = 10 ∨ c = 11 ∨ c = 12 by omega) with rfl | rfl | rfl | rfl | rfl | rfl | rfl | rfl | rfl | rfl | rfl | rfl | rfl
  · exact rCI_0
  · exact rCI_1
  · exact rCI_2
  · exact rCI_3
  · exact rCI_4
  · exact rCI_5
  · exact rCI_6
  · exact rCI_7
  · exact rCI_8
  · exact rCI_9
  · exact rCI_10
  · exact rCI_11
  · exact rCI_12
