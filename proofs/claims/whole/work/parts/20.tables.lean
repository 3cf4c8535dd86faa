/-! THE PROGRAM AS TABLES: by program out of the printed names (wip/tools/tables.py) -/
def P_RJ13 : mPool := ([], [], [], [], [], [(314, 6148914691236517205), (316, 3689348814741910323), (318, 1085102592571150095)])
def TH_RJ13 : mThr := []
def P_RX0 : mPool := ([(9, 4, 0), (15, 4, 1), (19, 4, 2), (22, 4, 3), (25, 4, 4), (28, 4, 5), (31, 8, 0), (37, 9, 1)], [(40, 75), (44, 88), (48, 89)], [], [], [], [])
def TH_RX0 : mThr := []
def P_RX1 : mPool := ([(9, 5, 0)], [(15, 401), (21, 180), (27, 69)], [], [], [], [])
def TH_RX1 : mThr := []
def P_RX2 : mPool := ([(12, 6, 0), (18, 6, 1), (22, 6, 2), (25, 6, 3), (29, 6, 4), (47, 8, 1)], [(32, 506), (37, 501), (41, 502), (50, 504), (54, 505), (57, 77)], [(45, 8)], [], [], [])
def TH_RX2 : mThr := []
def P_RX3 : mPool := ([(18, 7, 2), (21, 7, 3), (25, 7, 4), (28, 7, 5), (32, 7, 6), (35, 7, 7), (38, 7, 8)], [(44, 97), (48, 66), (52, 67), (56, 102), (60, 98), (64, 100), (67, 99), (71, 401), (77, 108)], [], [], [], [])
def TH_RX3 : mThr := []
def P_RX4 : mPool := ([(9, 8, 3), (15, 8, 4), (19, 8, 5), (26, 8, 1), (30, 8, 2)], [(33, 402), (39, 401), (42, 79)], [], [], [], [])
def TH_RX4 : mThr := []
def P_RX5 : mPool := ([(9, 9, 0), (15, 9, 1)], [], [], [], [], [])
def TH_RX5 : mThr := []
def P_RX6 : mPool := ([(10, 10, 0), (16, 10, 1), (19, 10, 2), (25, 10, 3), (32, 10, 4), (36, 10, 5), (40, 10, 6), (43, 10, 7), (88, 8, 1), (95, 8, 3), (148, 7, 1), (190, 7, 2), (225, 9, 1), (228, 9, 2), (321, 8, 0), (338, 8, 2), (361, 7, 0), (387, 4, 5), (393, 6, 0)], [(58, 118), (66, 117), (69, 119), (73, 501), (78, 502), (84, 71), (91, 160), (99, 158), (105, 105), (110, 601), (112, 503), (116, 130), (120, 131), (123, 132), (126, 98), (132, 99), (136, 133), (142, 100), (152, 66), (156, 79), (160, 72), (163, 73), (166, 68), (171, 67), (180, 102), (185, 103), (193, 104), (198, 69), (199, 129), (220, 602), (221, 149), (234, 82), (239, 153), (244, 154), (250, 603), (253, 150), (257, 151), (261, 152), (266, 161), (275, 75), (278, 156), (281, 155), (287, 80), (290, 163), (296, 90), (299, 159), (302, 91), (305, 92), (308, 164), (312, 166), (331, 74), (335, 76), (341, 106), (344, 107), (347, 157), (350, 83), (353, 101), (357, 70), (364, 162), (368, 110), (371, 111), (375, 84), (378, 85), (381, 86), (384, 87), (390, 95), (396, 96), (399, 93), (402, 165), (405, 78), (408, 94), (413, 109), (416, 178), (419, 112), (431, 176), (435, 177), (438, 81), (441, 179), (445, 401)], [(82, 8), (103, 7), (218, 9)], [(46, 1), (53, 2), (202, 3), (211, 4), (270, 5), (424, 6)], [], [])
def TH_RX6 : mThr := [(46, 50, 1), (53, 57, 2), (202, 206, 3), (211, 215, 4), (270, 274, 5), (424, 428, 6)]
def P_RX7 : mPool := ([(7, 11, 5), (13, 11, 6), (16, 11, 8), (20, 11, 9), (23, 11, 10), (26, 11, 11), (29, 11, 12), (33, 11, 13), (36, 11, 14), (39, 11, 15), (42, 11, 16), (45, 11, 17), (48, 11, 18), (51, 11, 19), (54, 11, 20), (57, 11, 21), (60, 11, 22), (63, 11, 23), (66, 11, 24), (69, 11, 25), (72, 11, 26), (75, 11, 27), (78, 11, 28), (81, 11, 29), (84, 11, 30), (87, 11, 31), (90, 11, 32), (93, 11, 0), (96, 11, 1), (103, 11, 3), (106, 11, 4), (141, 11, 2), (179, 11, 7)], [(99, 3), (109, 2), (113, 6), (117, 7), (121, 34), (125, 35), (128, 4), (131, 16), (135, 17), (138, 18), (144, 25), (147, 29), (151, 30), (155, 31), (159, 28), (163, 32), (166, 33), (170, 5), (173, 36), (176, 39), (182, 41), (186, 42), (189, 47), (192, 45), (195, 44), (202, 46), (205, 57)], [], [], [(201, 2147483647)], [])
def TH_RX7 : mThr := []
def mS_ : mStr := [(RX6, 48, "the number of hours is 1 to 48"), (RX6, 55, "the present hour is at most 999"), (RX6, 62, "the day rule is 1 to 24"), (RX6, 64, "the week rule is 1 to 168"), (RX6, 108, "there are 8 people"), (RX6, 130, "the person has a certificate that has not ended"), (RX6, 140, "the certificate cannot be renewed on this day"), (RX6, 146, "the number of days is 1 to 20"), (RX6, 169, "the person is not sick"), (RX6, 174, "the first day is later than the present day, and at most 41"), (RX6, 176, "the number of days is 1 to 10"), (RX6, 178, "the last day is at most 41"), (RX6, 183, "the person has a course that is not over"), (RX6, 188, "the person has no course that is not over"), (RX6, 196, "the day is 0 to 41"), (RX6, 204, "there is no such person"), (RX6, 207, "the kind is 0 to 3"), (RX6, 209, "the number of days is 1 to 60"), (RX6, 213, "the person has no certificate of this kind"), (RX6, 216, "there are 4 ships"), (RX6, 232, "the ship has 3 posts or has sailings"), (RX6, 237, "the start is later than the present hour, and at most 999"), (RX6, 242, "the start plus the length is at most 999"), (RX6, 248, "the ship has a sailing in these hours, or there are 24 sailings"), (RX6, 264, "the person has a post of this sailing"), (RX6, 272, "the person does not fit the post"), (RX6, 285, "the post is open"), (RX6, 294, "there is no way to put people on all posts"), (RX6, 315, "there is no such state"), (RX6, 317, "there is no such ship"), (RX6, 319, "there is no such sailing"), (RX6, 325, "there is no such post"), (RX6, 327, "the sailing is not planned"), (RX6, 329, "the length is 1 to 12"), (RX6, 411, "the hours are 0 to 999, the first one less than the other one"), (RX6, 422, "there is no such hour"), (RX6, 426, "the present hour is 0"), (RX6, 429, "there are no people")]
def Pl_ (own : String) : mPool := if own = RJ13 then P_RJ13 else if own = RX0 then P_RX0 else if own = RX1 then P_RX1 else if own = RX2 then P_RX2 else if own = RX3 then P_RX3 else if own = RX4 then P_RX4 else if own = RX5 then P_RX5 else if own = RX6 then P_RX6 else if own = RX7 then P_RX7 else ([], [], [], [], [], [])
def TH_ (own : String) : mThr := if own = RJ13 then TH_RJ13 else if own = RX0 then TH_RX0 else if own = RX1 then TH_RX1 else if own = RX2 then TH_RX2 else if own = RX3 then TH_RX3 else if own = RX4 then TH_RX4 else if own = RX5 then TH_RX5 else if own = RX6 then TH_RX6 else if own = RX7 then TH_RX7 else []
def k_1 : mCode := [(0, [0], [.inl (.aload_n 0, 1), .inl (.getfield 93, 3), .inl (.ireturn, 1)])]
def k_2 : mCode := [(0, [0, 1], [.inl (.aload_n 0, 1), .inl (.iload_n 1, 1), .inl (.putfield 93, 3), .inl (.iconst 0, 1), .inl (.ireturn, 1)])]
def k_3 : mCode := [(0, [0, 1, 2], [.inl (.iload_n 0, 1), .inl (.iload_n 1, 1), .inl (.if_icmp .lt 12, 3), .inl (.iload_n 0, 1), .inl (.iload_n 2, 1), .inl (.if_icmp .gt 7, 3), .inl (.iconst 1, 1), .inl (.goto 4, 3)]),
  (14, [], [.inl (.iconst 0, 1)]),
  (15, [], [.inl (.ireturn, 1)])]
def k_4 : mCode := [(0, [0, 1], [.inl (.iload_n 1, 1), .inl (.iconst 0, 1), .inl (.aload_n 0, 1), .inl (.getfield 96, 3), .inl (.iconst 1, 1), .inl (.isub, 1), .inl (.invokestatic 99, 3), .inl (.ireturn, 1)])]
def k_5 : mCode := [(0, [0, 1], [.inl (.iload_n 1, 1), .inl (.iconst 0, 1), .inl (.aload_n 0, 1), .inl (.getfield 103, 3), .inl (.iconst 1, 1), .inl (.isub, 1), .inl (.invokestatic 99, 3), .inl (.ireturn, 1)])]
def k_6 : mCode := [(0, [0], [.inl (.aload_n 0, 1), .inl (.getfield 106, 3), .inl (.bipush 24, 2), .inl (.idiv, 1), .inl (.ireturn, 1)])]
def k_7 : mCode := [(0, [0, 1], [.inl (.iconst 0, 1), .inl (.istore_n 2, 1)]),
  (2, [0, 1, 2], [.inl (.iload_n 2, 1), .inl (.aload_n 0, 1), .inl (.getfield 96, 3), .inl (.if_icmp .ge 108, 3), .inl (.aload_n 0, 1), .inl (.getfield 26, 3), .inl (.iload_n 2, 1), .inl (.baload, 1), .inl (.ifCond .eq 93, 3), .inl (.aload_n 0, 1), .inl (.getfield 39, 3), .inl (.iload_n 2, 1), .inl (.iaload, 1), .inl (.iload_n 1, 1), .inl (.if_icmp .eq 6, 3), .inl (.goto 80, 3)]),
  (32, [0, 1, 2], [.inl (.iconst 4, 1), .inl (.iload_n 2, 1), .inl (.imul, 1), .inl (.aload_n 0, 1), .inl (.getfield 36, 3), .inl (.iload_n 2, 1), .inl (.iaload, 1), .inl (.iadd, 1), .inl (.istore_n 3, 1), .inl (.aload_n 0, 1), .inl (.getfield 26, 3), .inl (.iload_n 2, 1), .inl (.iconst 0, 1), .inl (.bastore, 1), .inl (.aload_n 0, 1), .inl (.getfield 16, 3), .inl (.iload_n 3, 1), .inl (.baload, 1), .inl (.ifCond .eq 27, 3), .inl (.aload_n 0, 1), .inl (.getfield 33, 3), .inl (.iload_n 3, 1), .inl (.iaload, 1), .inl (.iload_n 1, 1), .inl (.if_icmp .lt 17, 3), .inl (.aload_n 0, 1), .inl (.getfield 33, 3), .inl (.iload_n 3, 1), .inl (.dup2, 1), .inl (.iaload, 1), .inl (.bipush 30, 2), .inl (.iadd, 1), .inl (.iastore, 1), .inl (.goto 29, 3)]),
  (83, [0, 1, 2, 3], [.inl (.aload_n 0, 1), .inl (.getfield 16, 3), .inl (.iload_n 3, 1), .inl (.iconst 1, 1), .inl (.bastore, 1), .inl (.aload_n 0, 1), .inl (.getfield 29, 3), .inl (.iload_n 3, 1), .inl (.iload_n 1, 1), .inl (.iconst 1, 1), .inl (.iadd, 1), .inl (.iastore, 1), .inl (.aload_n 0, 1), .inl (.getfield 33, 3), .inl (.iload_n 3, 1), .inl (.iload_n 1, 1), .inl (.bipush 30, 2), .inl (.iadd, 1), .inl (.iastore, 1)]),
  (109, [0, 1, 2], [.inl (.iinc 2 1, 3), .inl (.goto (-110), 3)]),
  (115, [], [.inl (.return_, 1)])]
def k_8 : mCode := [(0, [0, 1], [.inl (.iload_n 1, 1), .inl (.iconst 1, 1), .inl (.bipush 48, 2), .inl (.invokestatic 99, 3), .inl (.ifCond .ne 9, 3), .inl (.aload_n 0, 1), .inl (.iconst 1, 1), .inl (.invokevirtual 109, 3), .inl (.ireturn, 1)]),
  (16, [0, 1], [.inl (.aload_n 0, 1), .inl (.getfield 106, 3), .inl (.iload_n 1, 1), .inl (.iadd, 1), .inl (.sipush 999, 3), .inl (.if_icmp .le 9, 3), .inl (.aload_n 0, 1), .inl (.iconst 2, 1), .inl (.invokevirtual 109, 3), .inl (.ireturn, 1)]),
  (34, [0, 1], [.inl (.aload_n 0, 1), .inl (.iconst 0, 1), .inl (.putfield 93, 3), .inl (.iconst 0, 1), .inl (.istore_n 2, 1), .inl (.iconst 0, 1), .inl (.istore_n 3, 1)]),
  (43, [0, 1, 2, 3], [.inl (.iload_n 3, 1), .inl (.iload_n 1, 1), .inl (.if_icmp .ge 117, 3), .inl (.aload_n 0, 1), .inl (.dup, 1), .inl (.getfield 106, 3), .inl (.iconst 1, 1), .inl (.iadd, 1), .inl (.putfield 106, 3), .inl (.aload_n 0, 1), .inl (.getfield 106, 3), .inl (.bipush 24, 2), .inl (.irem, 1), .inl (.ifCond .ne 13, 3), .inl (.aload_n 0, 1), .inl (.aload_n 0, 1), .inl (.invokevirtual 113, 3), .inl (.iconst 1, 1), .inl (.isub, 1), .inl (.invokevirtual 117, 3)]),
  (78, [0, 1, 2, 3], [.inl (.iconst 0, 1), .inl (.istore 4, 2)]),
  (81, [0, 1, 2, 3, 4], [.inl (.iload 4, 2), .inl (.aload_n 0, 1), .inl (.getfield 103, 3), .inl (.if_icmp .ge 69, 3), .inl (.aload_n 0, 1), .inl (.getfield 57, 3), .inl (.iload 4, 2), .inl (.iaload, 1), .inl (.bipush 112, 2), .inl (.if_icmp .ne 51, 3), .inl (.aload_n 0, 1), .inl (.getfield 51, 3), .inl (.iload 4, 2), .inl (.iaload, 1), .inl (.aload_n 0, 1), .inl (.getfield 106, 3), .inl (.if_icmp .eq 6, 3), .inl (.goto 34, 3)]),
  (119, [0, 1, 2, 3, 4], [.inl (.aload_n 0, 1), .inl (.iload 4, 2), .inl (.invokevirtual 121, 3), .inl (.ifCond .eq 15, 3), .inl (.aload_n 0, 1), .inl (.getfield 57, 3), .inl (.iload 4, 2), .inl (.bipush 115, 2), .inl (.iastore, 1), .inl (.goto 13, 3)]),
  (140, [0, 1, 2, 3, 4], [.inl (.aload_n 0, 1), .inl (.iload 4, 2), .inl (.invokevirtual 125, 3), .inl (.pop, 1), .inl (.iinc 2 1, 3)]),
  (150, [0, 1, 2, 3, 4], [.inl (.iinc 4 1, 3), .inl (.goto (-72), 3)]),
  (156, [0, 1, 2, 3], [.inl (.iinc 3 1, 3), .inl (.goto (-116), 3)]),
  (162, [2], [.inl (.iload_n 2, 1), .inl (.ireturn, 1)])]
def k_9 : mCode := [(0, [0], [.inl (.aload_n 0, 1), .inl (.iconst 0, 1), .inl (.putfield 93, 3), .inl (.aload_n 0, 1), .inl (.getfield 106, 3), .inl (.ireturn, 1)])]
def k_10 : mCode := [(0, [0, 1], [.inl (.iload_n 1, 1), .inl (.iconst 1, 1), .inl (.bipush 24, 2), .inl (.invokestatic 99, 3), .inl (.ifCond .ne 9, 3), .inl (.aload_n 0, 1), .inl (.iconst 1, 1), .inl (.invokevirtual 109, 3), .inl (.ireturn, 1)]),
  (16, [0, 1], [.inl (.aload_n 0, 1), .inl (.iconst 0, 1), .inl (.putfield 93, 3), .inl (.aload_n 0, 1), .inl (.getfield 7, 3), .inl (.istore_n 2, 1), .inl (.aload_n 0, 1), .inl (.iload_n 1, 1), .inl (.putfield 7, 3), .inl (.iload_n 2, 1), .inl (.ireturn, 1)])]
def k_11 : mCode := [(0, [0, 1], [.inl (.iload_n 1, 1), .inl (.iconst 1, 1), .inl (.sipush 168, 3), .inl (.invokestatic 99, 3), .inl (.ifCond .ne 9, 3), .inl (.aload_n 0, 1), .inl (.iconst 1, 1), .inl (.invokevirtual 109, 3), .inl (.ireturn, 1)]),
  (17, [0, 1], [.inl (.aload_n 0, 1), .inl (.iconst 0, 1), .inl (.putfield 93, 3), .inl (.aload_n 0, 1), .inl (.getfield 13, 3), .inl (.istore_n 2, 1), .inl (.aload_n 0, 1), .inl (.iload_n 1, 1), .inl (.putfield 13, 3), .inl (.iload_n 2, 1), .inl (.ireturn, 1)])]
def k_12 : mCode := [(0, [0], [.inl (.aload_n 0, 1), .inl (.getfield 96, 3), .inl (.bipush 8, 2), .inl (.if_icmp .ne 9, 3), .inl (.aload_n 0, 1), .inl (.iconst 1, 1), .inl (.invokevirtual 109, 3), .inl (.ireturn, 1)]),
  (15, [0], [.inl (.aload_n 0, 1), .inl (.iconst 0, 1), .inl (.putfield 93, 3), .inl (.aload_n 0, 1), .inl (.dup, 1), .inl (.getfield 96, 3), .inl (.iconst 1, 1), .inl (.iadd, 1), .inl (.putfield 96, 3), .inl (.aload_n 0, 1), .inl (.getfield 96, 3), .inl (.iconst 1, 1), .inl (.isub, 1), .inl (.ireturn, 1)])]
def k_13 : mCode := [(0, [0, 1, 2, 3], [.inl (.aload_n 0, 1), .inl (.iload_n 1, 1), .inl (.invokevirtual 128, 3), .inl (.ifCond .ne 9, 3), .inl (.aload_n 0, 1), .inl (.iconst 1, 1), .inl (.invokevirtual 109, 3), .inl (.ireturn, 1)]),
  (14, [0, 1, 2, 3], [.inl (.iload_n 2, 1), .inl (.iconst 0, 1), .inl (.iconst 3, 1), .inl (.invokestatic 99, 3), .inl (.ifCond .eq 13, 3), .inl (.iload_n 3, 1), .inl (.iconst 1, 1), .inl (.bipush 60, 2), .inl (.invokestatic 99, 3), .inl (.ifCond .ne 9, 3)]),
  (33, [0], [.inl (.aload_n 0, 1), .inl (.iconst 2, 1), .inl (.invokevirtual 109, 3), .inl (.ireturn, 1)]),
  (39, [0, 1, 2, 3], [.inl (.iconst 4, 1), .inl (.iload_n 1, 1), .inl (.imul, 1), .inl (.iload_n 2, 1), .inl (.iadd, 1), .inl (.istore 4, 2), .inl (.aload_n 0, 1), .inl (.getfield 16, 3), .inl (.iload 4, 2), .inl (.baload, 1), .inl (.ifCond .eq 23, 3), .inl (.aload_n 0, 1), .inl (.getfield 33, 3), .inl (.iload 4, 2), .inl (.iaload, 1), .inl (.aload_n 0, 1), .inl (.invokevirtual 113, 3), .inl (.if_icmp .lt 9, 3), .inl (.aload_n 0, 1), .inl (.iconst 3, 1), .inl (.invokevirtual 109, 3), .inl (.ireturn, 1)]),
  (76, [0, 3, 4], [.inl (.aload_n 0, 1), .inl (.iconst 0, 1), .inl (.putfield 93, 3), .inl (.aload_n 0, 1), .inl (.getfield 16, 3), .inl (.iload 4, 2), .inl (.iconst 1, 1), .inl (.bastore, 1), .inl (.aload_n 0, 1), .inl (.getfield 29, 3), .inl (.iload 4, 2), .inl (.aload_n 0, 1), .inl (.invokevirtual 113, 3), .inl (.iastore, 1), .inl (.aload_n 0, 1), .inl (.getfield 33, 3), .inl (.iload 4, 2), .inl (.aload_n 0, 1), .inl (.invokevirtual 113, 3), .inl (.iload_n 3, 1), .inl (.iadd, 1), .inl (.iconst 1, 1), .inl (.isub, 1), .inl (.iastore, 1), .inl (.aload_n 0, 1), .inl (.getfield 33, 3), .inl (.iload 4, 2), .inl (.iaload, 1), .inl (.ireturn, 1)])]
def k_14 : mCode := [(0, [0, 1, 2, 3], [.inl (.aload_n 0, 1), .inl (.iload_n 1, 1), .inl (.invokevirtual 128, 3), .inl (.ifCond .ne 9, 3), .inl (.aload_n 0, 1), .inl (.iconst 1, 1), .inl (.invokevirtual 109, 3), .inl (.ireturn, 1)]),
  (14, [0, 1, 2, 3], [.inl (.iload_n 2, 1), .inl (.iconst 0, 1), .inl (.iconst 3, 1), .inl (.invokestatic 99, 3), .inl (.ifCond .eq 13, 3), .inl (.iload_n 3, 1), .inl (.iconst 1, 1), .inl (.bipush 60, 2), .inl (.invokestatic 99, 3), .inl (.ifCond .ne 9, 3)]),
  (33, [0], [.inl (.aload_n 0, 1), .inl (.iconst 2, 1), .inl (.invokevirtual 109, 3), .inl (.ireturn, 1)]),
  (39, [0, 1, 2, 3], [.inl (.iconst 4, 1), .inl (.iload_n 1, 1), .inl (.imul, 1), .inl (.iload_n 2, 1), .inl (.iadd, 1), .inl (.istore 4, 2), .inl (.aload_n 0, 1), .inl (.getfield 16, 3), .inl (.iload 4, 2), .inl (.baload, 1), .inl (.ifCond .ne 9, 3), .inl (.aload_n 0, 1), .inl (.iconst 3, 1), .inl (.invokevirtual 109, 3), .inl (.ireturn, 1)]),
  (62, [0, 3, 4], [.inl (.aload_n 0, 1), .inl (.invokevirtual 113, 3), .inl (.aload_n 0, 1), .inl (.getfield 33, 3), .inl (.iload 4, 2), .inl (.iaload, 1), .inl (.if_icmp .gt 20, 3), .inl (.aload_n 0, 1), .inl (.invokevirtual 113, 3), .inl (.aload_n 0, 1), .inl (.getfield 33, 3), .inl (.iload 4, 2), .inl (.iaload, 1), .inl (.bipush 9, 2), .inl (.isub, 1), .inl (.if_icmp .ge 9, 3)]),
  (93, [0], [.inl (.aload_n 0, 1), .inl (.iconst 4, 1), .inl (.invokevirtual 109, 3), .inl (.ireturn, 1)]),
  (99, [0, 3, 4], [.inl (.aload_n 0, 1), .inl (.iconst 0, 1), .inl (.putfield 93, 3), .inl (.aload_n 0, 1), .inl (.getfield 33, 3), .inl (.iload 4, 2), .inl (.dup2, 1), .inl (.iaload, 1), .inl (.iload_n 3, 1), .inl (.iadd, 1), .inl (.iastore, 1), .inl (.aload_n 0, 1), .inl (.getfield 33, 3), .inl (.iload 4, 2), .inl (.iaload, 1), .inl (.ireturn, 1)])]
def k_15 : mCode := [(0, [0, 1, 2], [.inl (.aload_n 0, 1), .inl (.iload_n 1, 1), .inl (.invokevirtual 128, 3), .inl (.ifCond .ne 9, 3), .inl (.aload_n 0, 1), .inl (.iconst 1, 1), .inl (.invokevirtual 109, 3), .inl (.ireturn, 1)]),
  (14, [0, 1, 2], [.inl (.iload_n 2, 1), .inl (.iconst 0, 1), .inl (.iconst 3, 1), .inl (.invokestatic 99, 3), .inl (.ifCond .ne 9, 3), .inl (.aload_n 0, 1), .inl (.iconst 2, 1), .inl (.invokevirtual 109, 3), .inl (.ireturn, 1)]),
  (29, [0, 1, 2], [.inl (.aload_n 0, 1), .inl (.getfield 16, 3), .inl (.iconst 4, 1), .inl (.iload_n 1, 1), .inl (.imul, 1), .inl (.iload_n 2, 1), .inl (.iadd, 1), .inl (.baload, 1), .inl (.ifCond .ne 9, 3), .inl (.aload_n 0, 1), .inl (.iconst 3, 1), .inl (.invokevirtual 109, 3), .inl (.ireturn, 1)]),
  (48, [0, 1, 2], [.inl (.aload_n 0, 1), .inl (.iconst 0, 1), .inl (.putfield 93, 3), .inl (.aload_n 0, 1), .inl (.getfield 33, 3), .inl (.iconst 4, 1), .inl (.iload_n 1, 1), .inl (.imul, 1), .inl (.iload_n 2, 1), .inl (.iadd, 1), .inl (.iaload, 1), .inl (.ireturn, 1)])]
def k_16 : mCode := [(0, [0, 1, 2], [.inl (.iconst 0, 1), .inl (.istore_n 3, 1)]),
  (2, [0, 1, 2, 3], [.inl (.iload_n 3, 1), .inl (.aload_n 0, 1), .inl (.getfield 42, 3), .inl (.aload_n 0, 1), .inl (.getfield 48, 3), .inl (.iload_n 1, 1), .inl (.iaload, 1), .inl (.iaload, 1), .inl (.if_icmp .ge 25, 3), .inl (.aload_n 0, 1), .inl (.getfield 60, 3), .inl (.iconst 3, 1), .inl (.iload_n 1, 1), .inl (.imul, 1), .inl (.iload_n 3, 1), .inl (.iadd, 1), .inl (.iaload, 1), .inl (.iload_n 2, 1), .inl (.if_icmp .ne 5, 3), .inl (.iconst 1, 1), .inl (.ireturn, 1)]),
  (33, [0, 1, 2, 3], [.inl (.iinc 3 1, 3), .inl (.goto (-34), 3)]),
  (39, [], [.inl (.iconst 0, 1), .inl (.ireturn, 1)])]
def k_17 : mCode := [(0, [0, 1], [.inl (.aload_n 0, 1), .inl (.getfield 51, 3), .inl (.iload_n 1, 1), .inl (.iaload, 1), .inl (.bipush 24, 2), .inl (.idiv, 1), .inl (.ireturn, 1)])]
def k_18 : mCode := [(0, [0, 1], [.inl (.aload_n 0, 1), .inl (.getfield 51, 3), .inl (.iload_n 1, 1), .inl (.iaload, 1), .inl (.aload_n 0, 1), .inl (.getfield 54, 3), .inl (.iload_n 1, 1), .inl (.iaload, 1), .inl (.iadd, 1), .inl (.iconst 1, 1), .inl (.isub, 1), .inl (.bipush 24, 2), .inl (.idiv, 1), .inl (.ireturn, 1)])]
def k_19 : mCode := [(0, [0, 1, 2], [.inl (.aload_n 0, 1), .inl (.iload_n 1, 1), .inl (.invokevirtual 128, 3), .inl (.ifCond .ne 9, 3), .inl (.aload_n 0, 1), .inl (.iconst 1, 1), .inl (.invokevirtual 109, 3), .inl (.ireturn, 1)]),
  (14, [0, 1, 2], [.inl (.iload_n 2, 1), .inl (.iconst 1, 1), .inl (.bipush 20, 2), .inl (.invokestatic 99, 3), .inl (.ifCond .ne 9, 3), .inl (.aload_n 0, 1), .inl (.iconst 2, 1), .inl (.invokevirtual 109, 3), .inl (.ireturn, 1)]),
  (30, [0, 1, 2], [.inl (.aload_n 0, 1), .inl (.iconst 0, 1), .inl (.putfield 93, 3), .inl (.aload_n 0, 1), .inl (.invokevirtual 113, 3), .inl (.iload_n 2, 1), .inl (.iadd, 1), .inl (.iconst 1, 1), .inl (.isub, 1), .inl (.istore_n 3, 1), .inl (.aload_n 0, 1), .inl (.invokevirtual 113, 3), .inl (.istore 4, 2)]),
  (50, [0, 1, 3, 4], [.inl (.iload 4, 2), .inl (.iload_n 3, 1), .inl (.if_icmp .gt 29, 3), .inl (.iload 4, 2), .inl (.bipush 42, 2), .inl (.if_icmp .ge 22, 3), .inl (.aload_n 0, 1), .inl (.getfield 20, 3), .inl (.bipush 42, 2), .inl (.iload_n 1, 1), .inl (.imul, 1), .inl (.iload 4, 2), .inl (.iadd, 1), .inl (.iconst 1, 1), .inl (.bastore, 1), .inl (.iinc 4 1, 3), .inl (.goto (-29), 3)]),
  (82, [0, 1, 3], [.inl (.iconst 0, 1), .inl (.istore 4, 2), .inl (.iconst 0, 1), .inl (.istore 5, 2)]),
  (88, [0, 1, 3, 4, 5], [.inl (.iload 5, 2), .inl (.aload_n 0, 1), .inl (.getfield 103, 3), .inl (.if_icmp .ge 64, 3), .inl (.iload 4, 2), .inl (.aload_n 0, 1), .inl (.getfield 57, 3), .inl (.iload 5, 2), .inl (.iaload, 1), .inl (.bipush 112, 2), .inl (.if_icmp .ne 40, 3), .inl (.aload_n 0, 1), .inl (.iload 5, 2), .inl (.iload_n 1, 1), .inl (.invokevirtual 131, 3), .inl (.ifCond .eq 30, 3), .inl (.aload_n 0, 1), .inl (.iload 5, 2), .inl (.invokevirtual 135, 3), .inl (.iload_n 3, 1), .inl (.if_icmp .gt 20, 3), .inl (.aload_n 0, 1), .inl (.iload 5, 2), .inl (.invokevirtual 138, 3), .inl (.aload_n 0, 1), .inl (.invokevirtual 113, 3), .inl (.if_icmp .lt 7, 3), .inl (.iconst 1, 1), .inl (.goto 4, 3)]),
  (148, [0, 1, 3, 5], [.inl (.iconst 0, 1)]),
  (149, [0, 1, 3, 5], [.inl (.iadd, 1), .inl (.istore 4, 2), .inl (.iinc 5 1, 3), .inl (.goto (-67), 3)]),
  (158, [4], [.inl (.iload 4, 2), .inl (.ireturn, 1)])]
def k_20 : mCode := [(0, [0, 1], [.inl (.aload_n 0, 1), .inl (.iload_n 1, 1), .inl (.invokevirtual 128, 3), .inl (.ifCond .ne 9, 3), .inl (.aload_n 0, 1), .inl (.iconst 1, 1), .inl (.invokevirtual 109, 3), .inl (.ireturn, 1)]),
  (14, [0, 1], [.inl (.iconst 0, 1), .inl (.istore_n 2, 1), .inl (.aload_n 0, 1), .inl (.invokevirtual 113, 3), .inl (.istore_n 3, 1)]),
  (21, [0, 1, 2, 3], [.inl (.iload_n 3, 1), .inl (.bipush 42, 2), .inl (.if_icmp .ge 31, 3), .inl (.iload_n 2, 1), .inl (.aload_n 0, 1), .inl (.getfield 20, 3), .inl (.bipush 42, 2), .inl (.iload_n 1, 1), .inl (.imul, 1), .inl (.iload_n 3, 1), .inl (.iadd, 1), .inl (.baload, 1), .inl (.ifCond .eq 7, 3), .inl (.iconst 1, 1), .inl (.goto 4, 3)]),
  (46, [0, 1, 3], [.inl (.iconst 0, 1)]),
  (47, [0, 1, 3], [.inl (.iadd, 1), .inl (.istore_n 2, 1), .inl (.iinc 3 1, 3), .inl (.goto (-31), 3)]),
  (55, [0, 1, 2], [.inl (.iload_n 2, 1), .inl (.ifCond .ne 9, 3), .inl (.aload_n 0, 1), .inl (.iconst 2, 1), .inl (.invokevirtual 109, 3), .inl (.ireturn, 1)]),
  (65, [0, 1, 2], [.inl (.aload_n 0, 1), .inl (.iconst 0, 1), .inl (.putfield 93, 3), .inl (.aload_n 0, 1), .inl (.invokevirtual 113, 3), .inl (.istore_n 3, 1)]),
  (75, [0, 1, 2, 3], [.inl (.iload_n 3, 1), .inl (.bipush 42, 2), .inl (.if_icmp .ge 21, 3), .inl (.aload_n 0, 1), .inl (.getfield 20, 3), .inl (.bipush 42, 2), .inl (.iload_n 1, 1), .inl (.imul, 1), .inl (.iload_n 3, 1), .inl (.iadd, 1), .inl (.iconst 0, 1), .inl (.bastore, 1), .inl (.iinc 3 1, 3), .inl (.goto (-21), 3)]),
  (99, [2], [.inl (.iload_n 2, 1), .inl (.ireturn, 1)])]
def k_21 : mCode := [(0, [0, 1, 2, 3, 4], [.inl (.aload_n 0, 1), .inl (.iload_n 1, 1), .inl (.invokevirtual 128, 3), .inl (.ifCond .ne 9, 3), .inl (.aload_n 0, 1), .inl (.iconst 1, 1), .inl (.invokevirtual 109, 3), .inl (.ireturn, 1)]),
  (14, [0, 1, 2, 3, 4], [.inl (.iload_n 2, 1), .inl (.iconst 0, 1), .inl (.iconst 3, 1), .inl (.invokestatic 99, 3), .inl (.ifCond .eq 39, 3), .inl (.iload_n 3, 1), .inl (.aload_n 0, 1), .inl (.invokevirtual 113, 3), .inl (.if_icmp .le 31, 3), .inl (.iload_n 3, 1), .inl (.bipush 41, 2), .inl (.if_icmp .gt 25, 3), .inl (.iload 4, 2), .inl (.iconst 1, 1), .inl (.bipush 10, 2), .inl (.invokestatic 99, 3), .inl (.ifCond .eq 14, 3), .inl (.iload_n 3, 1), .inl (.iload 4, 2), .inl (.iadd, 1), .inl (.iconst 1, 1), .inl (.isub, 1), .inl (.bipush 41, 2), .inl (.if_icmp .le 9, 3)]),
  (59, [0], [.inl (.aload_n 0, 1), .inl (.iconst 2, 1), .inl (.invokevirtual 109, 3), .inl (.ireturn, 1)]),
  (65, [0, 1, 2, 3, 4], [.inl (.aload_n 0, 1), .inl (.getfield 26, 3), .inl (.iload_n 1, 1), .inl (.baload, 1), .inl (.ifCond .eq 9, 3), .inl (.aload_n 0, 1), .inl (.iconst 3, 1), .inl (.invokevirtual 109, 3), .inl (.ireturn, 1)]),
  (80, [0, 1, 2, 3, 4], [.inl (.aload_n 0, 1), .inl (.iconst 0, 1), .inl (.putfield 93, 3), .inl (.aload_n 0, 1), .inl (.getfield 26, 3), .inl (.iload_n 1, 1), .inl (.iconst 1, 1), .inl (.bastore, 1), .inl (.aload_n 0, 1), .inl (.getfield 36, 3), .inl (.iload_n 1, 1), .inl (.iload_n 2, 1), .inl (.iastore, 1), .inl (.aload_n 0, 1), .inl (.getfield 39, 3), .inl (.iload_n 1, 1), .inl (.iload_n 3, 1), .inl (.iload 4, 2), .inl (.iadd, 1), .inl (.iconst 1, 1), .inl (.isub, 1), .inl (.iastore, 1), .inl (.iload_n 3, 1), .inl (.istore 5, 2)]),
  (114, [0, 1, 3, 4, 5], [.inl (.iload 5, 2), .inl (.iload_n 3, 1), .inl (.iload 4, 2), .inl (.iadd, 1), .inl (.if_icmp .ge 22, 3), .inl (.aload_n 0, 1), .inl (.getfield 23, 3), .inl (.bipush 42, 2), .inl (.iload_n 1, 1), .inl (.imul, 1), .inl (.iload 5, 2), .inl (.iadd, 1), .inl (.iconst 1, 1), .inl (.bastore, 1), .inl (.iinc 5 1, 3), .inl (.goto (-25), 3)]),
  (142, [0, 1], [.inl (.aload_n 0, 1), .inl (.getfield 39, 3), .inl (.iload_n 1, 1), .inl (.iaload, 1), .inl (.ireturn, 1)])]
def k_22 : mCode := [(0, [0, 1], [.inl (.aload_n 0, 1), .inl (.iload_n 1, 1), .inl (.invokevirtual 128, 3), .inl (.ifCond .ne 9, 3), .inl (.aload_n 0, 1), .inl (.iconst 1, 1), .inl (.invokevirtual 109, 3), .inl (.ireturn, 1)]),
  (14, [0, 1], [.inl (.aload_n 0, 1), .inl (.getfield 26, 3), .inl (.iload_n 1, 1), .inl (.baload, 1), .inl (.ifCond .ne 9, 3), .inl (.aload_n 0, 1), .inl (.iconst 2, 1), .inl (.invokevirtual 109, 3), .inl (.ireturn, 1)]),
  (29, [0, 1], [.inl (.aload_n 0, 1), .inl (.iconst 0, 1), .inl (.putfield 93, 3), .inl (.aload_n 0, 1), .inl (.getfield 26, 3), .inl (.iload_n 1, 1), .inl (.iconst 0, 1), .inl (.bastore, 1), .inl (.iconst 0, 1), .inl (.istore_n 2, 1), .inl (.aload_n 0, 1), .inl (.invokevirtual 113, 3), .inl (.istore_n 3, 1)]),
  (48, [0, 1, 2, 3], [.inl (.iload_n 3, 1), .inl (.bipush 42, 2), .inl (.if_icmp .ge 43, 3), .inl (.iload_n 2, 1), .inl (.aload_n 0, 1), .inl (.getfield 23, 3), .inl (.bipush 42, 2), .inl (.iload_n 1, 1), .inl (.imul, 1), .inl (.iload_n 3, 1), .inl (.iadd, 1), .inl (.baload, 1), .inl (.ifCond .eq 7, 3), .inl (.iconst 1, 1), .inl (.goto 4, 3)]),
  (73, [0, 1, 3], [.inl (.iconst 0, 1)]),
  (74, [0, 1, 3], [.inl (.iadd, 1), .inl (.istore_n 2, 1), .inl (.aload_n 0, 1), .inl (.getfield 23, 3), .inl (.bipush 42, 2), .inl (.iload_n 1, 1), .inl (.imul, 1), .inl (.iload_n 3, 1), .inl (.iadd, 1), .inl (.iconst 0, 1), .inl (.bastore, 1), .inl (.iinc 3 1, 3), .inl (.goto (-43), 3)]),
  (94, [2], [.inl (.iload_n 2, 1), .inl (.ireturn, 1)])]
def k_23 : mCode := [(0, [0, 1, 2], [.inl (.aload_n 0, 1), .inl (.aload_n 0, 1), .inl (.iload_n 1, 1), .inl (.invokevirtual 128, 3), .inl (.ifCond .ne 7, 3), .inl (.iconst 1, 1), .inl (.goto 18, 3)]),
  (13, [0, 1, 2], [.inl (.iload_n 2, 1), .inl (.iconst 0, 1), .inl (.bipush 41, 2), .inl (.invokestatic 99, 3), .inl (.ifCond .eq 7, 3), .inl (.iconst 0, 1), .inl (.goto 4, 3)]),
  (27, [0, 1, 2], [.inl (.iconst 2, 1)]),
  (28, [0, 1, 2], [.inl (.putfield 93, 3), .inl (.aload_n 0, 1), .inl (.getfield 93, 3), .inl (.ifCond .ne 35, 3), .inl (.aload_n 0, 1), .inl (.getfield 20, 3), .inl (.bipush 42, 2), .inl (.iload_n 1, 1), .inl (.imul, 1), .inl (.iload_n 2, 1), .inl (.iadd, 1), .inl (.baload, 1), .inl (.ifCond .ne 17, 3), .inl (.aload_n 0, 1), .inl (.getfield 23, 3), .inl (.bipush 42, 2), .inl (.iload_n 1, 1), .inl (.imul, 1), .inl (.iload_n 2, 1), .inl (.iadd, 1), .inl (.baload, 1), .inl (.ifCond .eq 7, 3)]),
  (66, [], [.inl (.iconst 1, 1), .inl (.goto 4, 3)]),
  (70, [], [.inl (.iconst 0, 1)]),
  (71, [], [.inl (.ireturn, 1)])]
def k_24 : mCode := [(0, [0, 1], [.inl (.iload_n 1, 1), .inl (.iconst 0, 1), .inl (.iconst 3, 1), .inl (.invokestatic 99, 3), .inl (.ifCond .ne 9, 3), .inl (.aload_n 0, 1), .inl (.iconst 1, 1), .inl (.invokevirtual 109, 3), .inl (.ireturn, 1)]),
  (15, [0, 1], [.inl (.aload_n 0, 1), .inl (.getfield 141, 3), .inl (.iconst 4, 1), .inl (.if_icmp .ne 9, 3), .inl (.aload_n 0, 1), .inl (.iconst 2, 1), .inl (.invokevirtual 109, 3), .inl (.ireturn, 1)]),
  (29, [0, 1], [.inl (.aload_n 0, 1), .inl (.iconst 0, 1), .inl (.putfield 93, 3), .inl (.aload_n 0, 1), .inl (.getfield 42, 3), .inl (.aload_n 0, 1), .inl (.getfield 141, 3), .inl (.iconst 1, 1), .inl (.iastore, 1), .inl (.aload_n 0, 1), .inl (.getfield 45, 3), .inl (.iconst 3, 1), .inl (.aload_n 0, 1), .inl (.getfield 141, 3), .inl (.imul, 1), .inl (.iload_n 1, 1), .inl (.iastore, 1), .inl (.aload_n 0, 1), .inl (.dup, 1), .inl (.getfield 141, 3), .inl (.iconst 1, 1), .inl (.iadd, 1), .inl (.putfield 141, 3), .inl (.aload_n 0, 1), .inl (.getfield 141, 3), .inl (.iconst 1, 1), .inl (.isub, 1), .inl (.ireturn, 1)])]
def k_25 : mCode := [(0, [0, 1], [.inl (.iconst 0, 1), .inl (.istore_n 2, 1)]),
  (2, [0, 1, 2], [.inl (.iload_n 2, 1), .inl (.aload_n 0, 1), .inl (.getfield 103, 3), .inl (.if_icmp .ge 21, 3), .inl (.aload_n 0, 1), .inl (.getfield 48, 3), .inl (.iload_n 2, 1), .inl (.iaload, 1), .inl (.iload_n 1, 1), .inl (.if_icmp .ne 5, 3), .inl (.iconst 1, 1), .inl (.ireturn, 1)]),
  (22, [0, 1, 2], [.inl (.iinc 2 1, 3), .inl (.goto (-23), 3)]),
  (28, [], [.inl (.iconst 0, 1), .inl (.ireturn, 1)])]
def k_26 : mCode := [(0, [0, 1, 2], [.inl (.iload_n 1, 1), .inl (.iconst 0, 1), .inl (.aload_n 0, 1), .inl (.getfield 141, 3), .inl (.iconst 1, 1), .inl (.isub, 1), .inl (.invokestatic 99, 3), .inl (.ifCond .ne 9, 3), .inl (.aload_n 0, 1), .inl (.iconst 1, 1), .inl (.invokevirtual 109, 3), .inl (.ireturn, 1)]),
  (20, [0, 1, 2], [.inl (.iload_n 2, 1), .inl (.iconst 0, 1), .inl (.iconst 3, 1), .inl (.invokestatic 99, 3), .inl (.ifCond .ne 9, 3), .inl (.aload_n 0, 1), .inl (.iconst 2, 1), .inl (.invokevirtual 109, 3), .inl (.ireturn, 1)]),
  (35, [0, 1, 2], [.inl (.aload_n 0, 1), .inl (.getfield 42, 3), .inl (.iload_n 1, 1), .inl (.iaload, 1), .inl (.iconst 3, 1), .inl (.if_icmp .eq 11, 3), .inl (.aload_n 0, 1), .inl (.iload_n 1, 1), .inl (.invokevirtual 144, 3), .inl (.ifCond .eq 9, 3)]),
  (53, [0], [.inl (.aload_n 0, 1), .inl (.iconst 3, 1), .inl (.invokevirtual 109, 3), .inl (.ireturn, 1)]),
  (59, [0, 1, 2], [.inl (.aload_n 0, 1), .inl (.iconst 0, 1), .inl (.putfield 93, 3), .inl (.aload_n 0, 1), .inl (.getfield 45, 3), .inl (.iconst 3, 1), .inl (.iload_n 1, 1), .inl (.imul, 1), .inl (.aload_n 0, 1), .inl (.getfield 42, 3), .inl (.iload_n 1, 1), .inl (.iaload, 1), .inl (.iadd, 1), .inl (.iload_n 2, 1), .inl (.iastore, 1), .inl (.aload_n 0, 1), .inl (.getfield 42, 3), .inl (.iload_n 1, 1), .inl (.dup2, 1), .inl (.iaload, 1), .inl (.iconst 1, 1), .inl (.iadd, 1), .inl (.iastore, 1), .inl (.aload_n 0, 1), .inl (.getfield 42, 3), .inl (.iload_n 1, 1), .inl (.iaload, 1), .inl (.ireturn, 1)])]
def k_27 : mCode := [(0, [0, 1, 2, 3], [.inl (.iload_n 1, 1), .inl (.iconst 0, 1), .inl (.aload_n 0, 1), .inl (.getfield 141, 3), .inl (.iconst 1, 1), .inl (.isub, 1), .inl (.invokestatic 99, 3), .inl (.ifCond .ne 9, 3), .inl (.aload_n 0, 1), .inl (.iconst 1, 1), .inl (.invokevirtual 109, 3), .inl (.ireturn, 1)]),
  (20, [0, 1, 2, 3], [.inl (.iload_n 2, 1), .inl (.aload_n 0, 1), .inl (.getfield 106, 3), .inl (.if_icmp .le 29, 3), .inl (.iload_n 2, 1), .inl (.sipush 999, 3), .inl (.if_icmp .gt 22, 3), .inl (.iload_n 3, 1), .inl (.iconst 1, 1), .inl (.bipush 12, 2), .inl (.invokestatic 99, 3), .inl (.ifCond .eq 12, 3), .inl (.iload_n 2, 1), .inl (.iload_n 3, 1), .inl (.iadd, 1), .inl (.sipush 999, 3), .inl (.if_icmp .le 9, 3)]),
  (54, [0], [.inl (.aload_n 0, 1), .inl (.iconst 2, 1), .inl (.invokevirtual 109, 3), .inl (.ireturn, 1)]),
  (60, [0, 1, 2, 3], [.inl (.aload_n 0, 1), .inl (.getfield 103, 3), .inl (.bipush 24, 2), .inl (.if_icmp .ne 7, 3), .inl (.iconst 1, 1), .inl (.goto 4, 3)]),
  (73, [0, 1, 2, 3], [.inl (.iconst 0, 1)]),
  (74, [0, 1, 2, 3], [.inl (.istore 4, 2), .inl (.iconst 0, 1), .inl (.istore 5, 2)]),
  (79, [0, 1, 2, 3, 4, 5], [.inl (.iload 5, 2), .inl (.aload_n 0, 1), .inl (.getfield 103, 3), .inl (.if_icmp .ge 76, 3), .inl (.iload 4, 2), .inl (.ifCond .ne 58, 3), .inl (.aload_n 0, 1), .inl (.getfield 48, 3), .inl (.iload 5, 2), .inl (.iaload, 1), .inl (.iload_n 1, 1), .inl (.if_icmp .ne 51, 3), .inl (.aload_n 0, 1), .inl (.getfield 57, 3), .inl (.iload 5, 2), .inl (.iaload, 1), .inl (.bipush 99, 2), .inl (.if_icmp .eq 39, 3), .inl (.aload_n 0, 1), .inl (.getfield 51, 3), .inl (.iload 5, 2), .inl (.iaload, 1), .inl (.iload_n 2, 1), .inl (.iload_n 3, 1), .inl (.iadd, 1), .inl (.if_icmp .ge 26, 3), .inl (.iload_n 2, 1), .inl (.aload_n 0, 1), .inl (.getfield 51, 3), .inl (.iload 5, 2), .inl (.iaload, 1), .inl (.aload_n 0, 1), .inl (.getfield 54, 3), .inl (.iload 5, 2), .inl (.iaload, 1), .inl (.iadd, 1), .inl (.if_icmp .ge 7, 3)]),
  (148, [0, 1, 2, 3, 5], [.inl (.iconst 1, 1), .inl (.goto 4, 3)]),
  (152, [0, 1, 2, 3, 5], [.inl (.iconst 0, 1)]),
  (153, [0, 1, 2, 3, 5], [.inl (.istore 4, 2), .inl (.iinc 5 1, 3), .inl (.goto (-79), 3)]),
  (161, [0, 1, 2, 3, 4], [.inl (.iload 4, 2), .inl (.ifCond .eq 9, 3), .inl (.aload_n 0, 1), .inl (.iconst 3, 1), .inl (.invokevirtual 109, 3), .inl (.ireturn, 1)]),
  (172, [0, 1, 2, 3], [.inl (.aload_n 0, 1), .inl (.iconst 0, 1), .inl (.putfield 93, 3), .inl (.aload_n 0, 1), .inl (.getfield 48, 3), .inl (.aload_n 0, 1), .inl (.getfield 103, 3), .inl (.iload_n 1, 1), .inl (.iastore, 1), .inl (.aload_n 0, 1), .inl (.getfield 51, 3), .inl (.aload_n 0, 1), .inl (.getfield 103, 3), .inl (.iload_n 2, 1), .inl (.iastore, 1), .inl (.aload_n 0, 1), .inl (.getfield 54, 3), .inl (.aload_n 0, 1), .inl (.getfield 103, 3), .inl (.iload_n 3, 1), .inl (.iastore, 1), .inl (.aload_n 0, 1), .inl (.getfield 57, 3), .inl (.aload_n 0, 1), .inl (.getfield 103, 3), .inl (.bipush 112, 2), .inl (.iastore, 1), .inl (.iconst 0, 1), .inl (.istore 5, 2)]),
  (221, [0, 5], [.inl (.iload 5, 2), .inl (.iconst 3, 1), .inl (.if_icmp .ge 24, 3), .inl (.aload_n 0, 1), .inl (.getfield 60, 3), .inl (.iconst 3, 1), .inl (.aload_n 0, 1), .inl (.getfield 103, 3), .inl (.imul, 1), .inl (.iload 5, 2), .inl (.iadd, 1), .inl (.iconst (-1), 1), .inl (.iastore, 1), .inl (.iinc 5 1, 3), .inl (.goto (-24), 3)]),
  (248, [0], [.inl (.aload_n 0, 1), .inl (.dup, 1), .inl (.getfield 103, 3), .inl (.iconst 1, 1), .inl (.iadd, 1), .inl (.putfield 103, 3), .inl (.aload_n 0, 1), .inl (.getfield 103, 3), .inl (.iconst 1, 1), .inl (.isub, 1), .inl (.ireturn, 1)])]
def k_28 : mCode := [(0, [0, 1, 2], [.inl (.iconst 0, 1), .inl (.istore_n 3, 1)]),
  (2, [0, 1, 2, 3], [.inl (.iload_n 3, 1), .inl (.sipush 1000, 3), .inl (.if_icmp .gt 16, 3), .inl (.aload_n 0, 1), .inl (.getfield 63, 3), .inl (.iload_n 3, 1), .inl (.iconst 0, 1), .inl (.iastore, 1), .inl (.iinc 3 1, 3), .inl (.goto (-17), 3)]),
  (22, [0, 1, 2], [.inl (.iconst 0, 1), .inl (.istore_n 3, 1)]),
  (24, [0, 1, 2, 3], [.inl (.iload_n 3, 1), .inl (.aload_n 0, 1), .inl (.getfield 103, 3), .inl (.if_icmp .ge 79, 3), .inl (.iload_n 3, 1), .inl (.iload_n 2, 1), .inl (.if_icmp .eq 68, 3), .inl (.aload_n 0, 1), .inl (.getfield 57, 3), .inl (.iload_n 3, 1), .inl (.iaload, 1), .inl (.bipush 99, 2), .inl (.if_icmp .eq 57, 3), .inl (.aload_n 0, 1), .inl (.iload_n 3, 1), .inl (.iload_n 1, 1), .inl (.invokevirtual 131, 3), .inl (.ifCond .ne 6, 3), .inl (.goto 45, 3)]),
  (60, [0, 1, 2, 3], [.inl (.aload_n 0, 1), .inl (.getfield 51, 3), .inl (.iload_n 3, 1), .inl (.iaload, 1), .inl (.istore 4, 2)]),
  (68, [0, 1, 2, 3, 4], [.inl (.iload 4, 2), .inl (.aload_n 0, 1), .inl (.getfield 51, 3), .inl (.iload_n 3, 1), .inl (.iaload, 1), .inl (.aload_n 0, 1), .inl (.getfield 54, 3), .inl (.iload_n 3, 1), .inl (.iaload, 1), .inl (.iadd, 1), .inl (.if_icmp .ge 19, 3), .inl (.aload_n 0, 1), .inl (.getfield 63, 3), .inl (.iload 4, 2), .inl (.iconst 1, 1), .inl (.iadd, 1), .inl (.iconst 1, 1), .inl (.iastore, 1), .inl (.iinc 4 1, 3), .inl (.goto (-31), 3)]),
  (102, [0, 1, 2, 3], [.inl (.iinc 3 1, 3), .inl (.goto (-81), 3)]),
  (108, [0], [.inl (.iconst 1, 1), .inl (.istore_n 3, 1)]),
  (110, [0, 3], [.inl (.iload_n 3, 1), .inl (.sipush 1000, 3), .inl (.if_icmp .gt 26, 3), .inl (.aload_n 0, 1), .inl (.getfield 63, 3), .inl (.iload_n 3, 1), .inl (.dup2, 1), .inl (.iaload, 1), .inl (.aload_n 0, 1), .inl (.getfield 63, 3), .inl (.iload_n 3, 1), .inl (.iconst 1, 1), .inl (.isub, 1), .inl (.iaload, 1), .inl (.iadd, 1), .inl (.iastore, 1), .inl (.iinc 3 1, 3), .inl (.goto (-27), 3)]),
  (140, [], [.inl (.return_, 1)])]
def k_29 : mCode := [(0, [0, 1, 2], [.inl (.iload_n 1, 1), .inl (.ifCond .ge 7, 3), .inl (.iconst 0, 1), .inl (.goto 4, 3)]),
  (8, [0, 1, 2], [.inl (.iload_n 1, 1)]),
  (9, [0, 2], [.inl (.istore_n 3, 1), .inl (.iload_n 2, 1), .inl (.sipush 1000, 3), .inl (.if_icmp .le 9, 3), .inl (.sipush 1000, 3), .inl (.goto 4, 3)]),
  (23, [0, 2, 3], [.inl (.iload_n 2, 1)]),
  (24, [0, 3], [.inl (.istore 4, 2), .inl (.iload 4, 2), .inl (.iload_n 3, 1), .inl (.if_icmp .le 20, 3), .inl (.aload_n 0, 1), .inl (.getfield 63, 3), .inl (.iload 4, 2), .inl (.iaload, 1), .inl (.aload_n 0, 1), .inl (.getfield 63, 3), .inl (.iload_n 3, 1), .inl (.iaload, 1), .inl (.isub, 1), .inl (.goto 4, 3)]),
  (49, [], [.inl (.iconst 0, 1)]),
  (50, [], [.inl (.ireturn, 1)])]
def k_30 : mCode := [(0, [0, 1, 2, 3], [.inl (.iload_n 0, 1), .inl (.iload_n 2, 1), .inl (.if_icmp .le 7, 3), .inl (.iload_n 0, 1), .inl (.goto 4, 3)]),
  (9, [1, 2, 3], [.inl (.iload_n 2, 1)]),
  (10, [1, 3], [.inl (.istore 4, 2), .inl (.iload_n 1, 1), .inl (.iload_n 3, 1), .inl (.if_icmp .ge 7, 3), .inl (.iload_n 1, 1), .inl (.goto 4, 3)]),
  (21, [3, 4], [.inl (.iload_n 3, 1)]),
  (22, [4], [.inl (.istore 5, 2), .inl (.iload 5, 2), .inl (.iload 4, 2), .inl (.if_icmp .le 11, 3), .inl (.iload 5, 2), .inl (.iload 4, 2), .inl (.isub, 1), .inl (.goto 4, 3)]),
  (39, [], [.inl (.iconst 0, 1)]),
  (40, [], [.inl (.ireturn, 1)])]
def k_31 : mCode := [(0, [0, 1, 2, 3, 4], [.inl (.iload_n 1, 1), .inl (.iload_n 3, 1), .inl (.isub, 1), .inl (.iconst 1, 1), .inl (.iadd, 1), .inl (.istore 5, 2)]),
  (7, [0, 1, 2, 3, 4, 5], [.inl (.iload 5, 2), .inl (.iload_n 1, 1), .inl (.iload_n 2, 1), .inl (.iadd, 1), .inl (.if_icmp .ge 40, 3), .inl (.aload_n 0, 1), .inl (.iload 5, 2), .inl (.iload 5, 2), .inl (.iload_n 3, 1), .inl (.iadd, 1), .inl (.invokevirtual 147, 3), .inl (.iload 5, 2), .inl (.iload 5, 2), .inl (.iload_n 3, 1), .inl (.iadd, 1), .inl (.iload_n 1, 1), .inl (.iload_n 1, 1), .inl (.iload_n 2, 1), .inl (.iadd, 1), .inl (.invokestatic 151, 3), .inl (.iadd, 1), .inl (.iload 4, 2), .inl (.if_icmp .le 5, 3), .inl (.iconst 1, 1), .inl (.ireturn, 1)]),
  (46, [0, 1, 2, 3, 4, 5], [.inl (.iinc 5 1, 3), .inl (.goto (-42), 3)]),
  (52, [], [.inl (.iconst 0, 1), .inl (.ireturn, 1)])]
def k_32 : mCode := [(0, [0, 1, 2], [.inl (.aload_n 0, 1), .inl (.iload_n 1, 1), .inl (.iload_n 1, 1), .inl (.iload_n 2, 1), .inl (.iadd, 1), .inl (.invokevirtual 147, 3), .inl (.ifCond .le 5, 3), .inl (.iconst 4, 1), .inl (.ireturn, 1)]),
  (13, [0, 1, 2], [.inl (.aload_n 0, 1), .inl (.iload_n 1, 1), .inl (.iload_n 2, 1), .inl (.bipush 24, 2), .inl (.aload_n 0, 1), .inl (.getfield 7, 3), .inl (.invokevirtual 155, 3), .inl (.ifCond .eq 5, 3), .inl (.iconst 5, 1), .inl (.ireturn, 1)]),
  (30, [0, 1, 2], [.inl (.aload_n 0, 1), .inl (.iload_n 1, 1), .inl (.iload_n 2, 1), .inl (.sipush 168, 3), .inl (.aload_n 0, 1), .inl (.getfield 13, 3), .inl (.invokevirtual 155, 3), .inl (.ifCond .eq 8, 3), .inl (.bipush 6, 2), .inl (.goto 4, 3)]),
  (51, [], [.inl (.iconst 0, 1)]),
  (52, [], [.inl (.ireturn, 1)])]
def k_33 : mCode := [(0, [0, 1, 2, 3], [.inl (.iconst 4, 1), .inl (.iload_n 3, 1), .inl (.imul, 1), .inl (.aload_n 0, 1), .inl (.getfield 45, 3), .inl (.iconst 3, 1), .inl (.aload_n 0, 1), .inl (.getfield 48, 3), .inl (.iload_n 1, 1), .inl (.iaload, 1), .inl (.imul, 1), .inl (.iload_n 2, 1), .inl (.iadd, 1), .inl (.iaload, 1), .inl (.iadd, 1), .inl (.istore 4, 2), .inl (.aload_n 0, 1), .inl (.getfield 16, 3), .inl (.iload 4, 2), .inl (.baload, 1), .inl (.ifCond .eq 33, 3), .inl (.aload_n 0, 1), .inl (.getfield 29, 3), .inl (.iload 4, 2), .inl (.iaload, 1), .inl (.aload_n 0, 1), .inl (.iload_n 1, 1), .inl (.invokevirtual 135, 3), .inl (.if_icmp .gt 18, 3), .inl (.aload_n 0, 1), .inl (.getfield 33, 3), .inl (.iload 4, 2), .inl (.iaload, 1), .inl (.aload_n 0, 1), .inl (.iload_n 1, 1), .inl (.invokevirtual 138, 3), .inl (.if_icmp .ge 5, 3)]),
  (61, [], [.inl (.iconst 1, 1), .inl (.ireturn, 1)]),
  (63, [0, 1, 3], [.inl (.aload_n 0, 1), .inl (.iload_n 1, 1), .inl (.invokevirtual 135, 3), .inl (.istore 5, 2)]),
  (70, [0, 1, 3, 5], [.inl (.iload 5, 2), .inl (.aload_n 0, 1), .inl (.iload_n 1, 1), .inl (.invokevirtual 138, 3), .inl (.if_icmp .gt 26, 3), .inl (.aload_n 0, 1), .inl (.getfield 20, 3), .inl (.bipush 42, 2), .inl (.iload_n 3, 1), .inl (.imul, 1), .inl (.iload 5, 2), .inl (.iadd, 1), .inl (.baload, 1), .inl (.ifCond .eq 5, 3), .inl (.iconst 2, 1), .inl (.ireturn, 1)]),
  (97, [0, 1, 3, 5], [.inl (.iinc 5 1, 3), .inl (.goto (-30), 3)]),
  (103, [0, 1, 3], [.inl (.aload_n 0, 1), .inl (.iload_n 1, 1), .inl (.invokevirtual 135, 3), .inl (.istore 5, 2)]),
  (110, [0, 1, 3, 5], [.inl (.iload 5, 2), .inl (.aload_n 0, 1), .inl (.iload_n 1, 1), .inl (.invokevirtual 138, 3), .inl (.if_icmp .gt 26, 3), .inl (.aload_n 0, 1), .inl (.getfield 23, 3), .inl (.bipush 42, 2), .inl (.iload_n 3, 1), .inl (.imul, 1), .inl (.iload 5, 2), .inl (.iadd, 1), .inl (.baload, 1), .inl (.ifCond .eq 5, 3), .inl (.iconst 3, 1), .inl (.ireturn, 1)]),
  (137, [0, 1, 3, 5], [.inl (.iinc 5 1, 3), .inl (.goto (-30), 3)]),
  (143, [0, 1, 3], [.inl (.aload_n 0, 1), .inl (.iload_n 3, 1), .inl (.iload_n 1, 1), .inl (.invokevirtual 159, 3), .inl (.aload_n 0, 1), .inl (.aload_n 0, 1), .inl (.getfield 51, 3), .inl (.iload_n 1, 1), .inl (.iaload, 1), .inl (.aload_n 0, 1), .inl (.getfield 54, 3), .inl (.iload_n 1, 1), .inl (.iaload, 1), .inl (.invokevirtual 163, 3), .inl (.ireturn, 1)])]
def k_34 : mCode := [(0, [0, 1], [.inl (.iconst 0, 1), .inl (.istore_n 2, 1)]),
  (2, [0, 1, 2], [.inl (.iload_n 2, 1), .inl (.aload_n 0, 1), .inl (.getfield 42, 3), .inl (.aload_n 0, 1), .inl (.getfield 48, 3), .inl (.iload_n 1, 1), .inl (.iaload, 1), .inl (.iaload, 1), .inl (.if_icmp .ge 37, 3), .inl (.aload_n 0, 1), .inl (.getfield 60, 3), .inl (.iconst 3, 1), .inl (.iload_n 1, 1), .inl (.imul, 1), .inl (.iload_n 2, 1), .inl (.iadd, 1), .inl (.iaload, 1), .inl (.istore_n 3, 1), .inl (.iload_n 3, 1), .inl (.iconst (-1), 1), .inl (.if_icmp .eq 13, 3), .inl (.aload_n 0, 1), .inl (.iload_n 1, 1), .inl (.iload_n 2, 1), .inl (.iload_n 3, 1), .inl (.invokevirtual 166, 3), .inl (.ifCond .eq 5, 3)]),
  (43, [], [.inl (.iconst 0, 1), .inl (.ireturn, 1)]),
  (45, [0, 1, 2], [.inl (.iinc 2 1, 3), .inl (.goto (-46), 3)]),
  (51, [], [.inl (.iconst 1, 1), .inl (.ireturn, 1)])]
def k_35 : mCode := [(0, [0, 1], [.inl (.iconst 0, 1), .inl (.istore_n 2, 1), .inl (.aload_n 0, 1), .inl (.getfield 57, 3), .inl (.iload_n 1, 1), .inl (.bipush 99, 2), .inl (.iastore, 1), .inl (.iconst 0, 1), .inl (.istore_n 3, 1)]),
  (12, [0, 1, 2, 3], [.inl (.iload_n 3, 1), .inl (.iconst 3, 1), .inl (.if_icmp .ge 42, 3), .inl (.iload_n 2, 1), .inl (.aload_n 0, 1), .inl (.getfield 60, 3), .inl (.iconst 3, 1), .inl (.iload_n 1, 1), .inl (.imul, 1), .inl (.iload_n 3, 1), .inl (.iadd, 1), .inl (.iaload, 1), .inl (.iconst (-1), 1), .inl (.if_icmp .ne 7, 3), .inl (.iconst 0, 1), .inl (.goto 4, 3)]),
  (36, [0, 1, 3], [.inl (.iconst 1, 1)]),
  (37, [0, 1, 3], [.inl (.iadd, 1), .inl (.istore_n 2, 1), .inl (.aload_n 0, 1), .inl (.getfield 60, 3), .inl (.iconst 3, 1), .inl (.iload_n 1, 1), .inl (.imul, 1), .inl (.iload_n 3, 1), .inl (.iadd, 1), .inl (.iconst (-1), 1), .inl (.iastore, 1), .inl (.iinc 3 1, 3), .inl (.goto (-41), 3)]),
  (56, [2], [.inl (.iload_n 2, 1), .inl (.ireturn, 1)])]
def k_36 : mCode := [(0, [0, 1, 2], [.inl (.iload_n 2, 1), .inl (.iconst 0, 1), .inl (.aload_n 0, 1), .inl (.getfield 42, 3), .inl (.aload_n 0, 1), .inl (.getfield 48, 3), .inl (.iload_n 1, 1), .inl (.iaload, 1), .inl (.iaload, 1), .inl (.iconst 1, 1), .inl (.isub, 1), .inl (.invokestatic 99, 3), .inl (.ireturn, 1)])]
def k_37 : mCode := [(0, [0, 1, 2, 3], [.inl (.aload_n 0, 1), .inl (.iload_n 1, 1), .inl (.invokevirtual 170, 3), .inl (.ifCond .ne 9, 3), .inl (.aload_n 0, 1), .inl (.iconst 1, 1), .inl (.invokevirtual 109, 3), .inl (.ireturn, 1)]),
  (14, [0, 1, 2, 3], [.inl (.aload_n 0, 1), .inl (.iload_n 1, 1), .inl (.iload_n 2, 1), .inl (.invokevirtual 173, 3), .inl (.ifCond .eq 11, 3), .inl (.aload_n 0, 1), .inl (.iload_n 3, 1), .inl (.invokevirtual 128, 3), .inl (.ifCond .ne 9, 3)]),
  (31, [0], [.inl (.aload_n 0, 1), .inl (.iconst 2, 1), .inl (.invokevirtual 109, 3), .inl (.ireturn, 1)]),
  (37, [0, 1, 2, 3], [.inl (.aload_n 0, 1), .inl (.getfield 57, 3), .inl (.iload_n 1, 1), .inl (.iaload, 1), .inl (.bipush 112, 2), .inl (.if_icmp .eq 9, 3), .inl (.aload_n 0, 1), .inl (.iconst 3, 1), .inl (.invokevirtual 109, 3), .inl (.ireturn, 1)]),
  (54, [0, 1, 2, 3], [.inl (.aload_n 0, 1), .inl (.iload_n 1, 1), .inl (.iload_n 3, 1), .inl (.invokevirtual 131, 3), .inl (.ifCond .eq 9, 3), .inl (.aload_n 0, 1), .inl (.iconst 4, 1), .inl (.invokevirtual 109, 3), .inl (.ireturn, 1)]),
  (69, [0, 1, 2, 3], [.inl (.aload_n 0, 1), .inl (.iload_n 1, 1), .inl (.iload_n 2, 1), .inl (.iload_n 3, 1), .inl (.invokevirtual 166, 3), .inl (.ifCond .eq 9, 3), .inl (.aload_n 0, 1), .inl (.iconst 5, 1), .inl (.invokevirtual 109, 3), .inl (.ireturn, 1)]),
  (85, [0, 1, 2, 3], [.inl (.aload_n 0, 1), .inl (.iconst 0, 1), .inl (.putfield 93, 3), .inl (.aload_n 0, 1), .inl (.getfield 60, 3), .inl (.iconst 3, 1), .inl (.iload_n 1, 1), .inl (.imul, 1), .inl (.iload_n 2, 1), .inl (.iadd, 1), .inl (.iaload, 1), .inl (.istore 4, 2), .inl (.aload_n 0, 1), .inl (.getfield 60, 3), .inl (.iconst 3, 1), .inl (.iload_n 1, 1), .inl (.imul, 1), .inl (.iload_n 2, 1), .inl (.iadd, 1), .inl (.iload_n 3, 1), .inl (.iastore, 1), .inl (.iload 4, 2), .inl (.ireturn, 1)])]
def k_38 : mCode := [(0, [0, 1, 2], [.inl (.aload_n 0, 1), .inl (.iload_n 1, 1), .inl (.invokevirtual 170, 3), .inl (.ifCond .ne 9, 3), .inl (.aload_n 0, 1), .inl (.iconst 1, 1), .inl (.invokevirtual 109, 3), .inl (.ireturn, 1)]),
  (14, [0, 1, 2], [.inl (.aload_n 0, 1), .inl (.iload_n 1, 1), .inl (.iload_n 2, 1), .inl (.invokevirtual 173, 3), .inl (.ifCond .ne 9, 3), .inl (.aload_n 0, 1), .inl (.iconst 2, 1), .inl (.invokevirtual 109, 3), .inl (.ireturn, 1)]),
  (29, [0, 1, 2], [.inl (.aload_n 0, 1), .inl (.getfield 60, 3), .inl (.iconst 3, 1), .inl (.iload_n 1, 1), .inl (.imul, 1), .inl (.iload_n 2, 1), .inl (.iadd, 1), .inl (.iaload, 1), .inl (.istore_n 3, 1), .inl (.aload_n 0, 1), .inl (.getfield 57, 3), .inl (.iload_n 1, 1), .inl (.iaload, 1), .inl (.bipush 112, 2), .inl (.if_icmp .ne 8, 3), .inl (.iload_n 3, 1), .inl (.iconst (-1), 1), .inl (.if_icmp .ne 9, 3)]),
  (56, [0], [.inl (.aload_n 0, 1), .inl (.iconst 3, 1), .inl (.invokevirtual 109, 3), .inl (.ireturn, 1)]),
  (62, [0, 1, 2, 3], [.inl (.aload_n 0, 1), .inl (.iconst 0, 1), .inl (.putfield 93, 3), .inl (.aload_n 0, 1), .inl (.getfield 60, 3), .inl (.iconst 3, 1), .inl (.iload_n 1, 1), .inl (.imul, 1), .inl (.iload_n 2, 1), .inl (.iadd, 1), .inl (.iconst (-1), 1), .inl (.iastore, 1), .inl (.iload_n 3, 1), .inl (.ireturn, 1)])]
def k_39 : mCode := [(0, [0, 1], [.inl (.aload_n 0, 1), .inl (.aload_n 0, 1), .inl (.iload_n 1, 1), .inl (.invokevirtual 170, 3), .inl (.ifCond .ne 7, 3), .inl (.iconst 1, 1), .inl (.goto 19, 3)]),
  (13, [0, 1], [.inl (.aload_n 0, 1), .inl (.getfield 57, 3), .inl (.iload_n 1, 1), .inl (.iaload, 1), .inl (.bipush 112, 2), .inl (.if_icmp .ne 7, 3), .inl (.iconst 0, 1), .inl (.goto 4, 3)]),
  (28, [0], [.inl (.iconst 2, 1)]),
  (29, [0], [.inl (.putfield 93, 3), .inl (.aload_n 0, 1), .inl (.getfield 93, 3), .inl (.ifCond .ne 7, 3), .inl (.iconst 1, 1), .inl (.goto 4, 3)]),
  (43, [], [.inl (.iconst 0, 1)]),
  (44, [], [.inl (.ireturn, 1)])]
def k_40 : mCode := [(0, [0, 1], [.inl (.aload_n 0, 1), .inl (.iload_n 1, 1), .inl (.invokevirtual 176, 3), .inl (.ifCond .eq 11, 3), .inl (.aload_n 0, 1), .inl (.iload_n 1, 1), .inl (.invokevirtual 125, 3), .inl (.goto 4, 3)]),
  (16, [], [.inl (.iconst 0, 1)]),
  (17, [], [.inl (.ireturn, 1)])]
def k_41 : mCode := [(0, [0, 1, 2, 3], [.inl (.iload_n 2, 1), .inl (.aload_n 0, 1), .inl (.getfield 42, 3), .inl (.aload_n 0, 1), .inl (.getfield 48, 3), .inl (.iload_n 1, 1), .inl (.iaload, 1), .inl (.iaload, 1), .inl (.if_icmp .ne 47, 3), .inl (.iload_n 3, 1), .inl (.aload_n 0, 1), .inl (.getfield 179, 3), .inl (.if_icmp .lt 4, 3), .inl (.return_, 1)]),
  (24, [0, 2, 3], [.inl (.aload_n 0, 1), .inl (.iload_n 3, 1), .inl (.putfield 179, 3), .inl (.iconst 0, 1), .inl (.istore 4, 2)]),
  (32, [0, 2, 4], [.inl (.iload 4, 2), .inl (.iload_n 2, 1), .inl (.if_icmp .ge 23, 3), .inl (.aload_n 0, 1), .inl (.getfield 69, 3), .inl (.iload 4, 2), .inl (.aload_n 0, 1), .inl (.getfield 66, 3), .inl (.iload 4, 2), .inl (.iaload, 1), .inl (.iastore, 1), .inl (.iinc 4 1, 3), .inl (.goto (-23), 3)]),
  (58, [], [.inl (.return_, 1)]),
  (59, [0, 1, 2, 3], [.inl (.iconst 0, 1), .inl (.istore 4, 2)]),
  (62, [0, 1, 2, 3, 4], [.inl (.iload 4, 2), .inl (.aload_n 0, 1), .inl (.getfield 96, 3), .inl (.if_icmp .ge 111, 3), .inl (.iconst 1, 1), .inl (.istore 5, 2), .inl (.iconst 0, 1), .inl (.istore 6, 2)]),
  (77, [0, 1, 2, 3, 4, 5, 6], [.inl (.iload 6, 2), .inl (.iload_n 2, 1), .inl (.if_icmp .ge 33, 3), .inl (.iload 5, 2), .inl (.ifCond .eq 19, 3), .inl (.aload_n 0, 1), .inl (.getfield 66, 3), .inl (.iload 6, 2), .inl (.iaload, 1), .inl (.iload 4, 2), .inl (.if_icmp .eq 7, 3), .inl (.iconst 1, 1), .inl (.goto 4, 3)]),
  (104, [0, 1, 2, 3, 4, 6], [.inl (.iconst 0, 1)]),
  (105, [0, 1, 2, 3, 4, 6], [.inl (.istore 5, 2), .inl (.iinc 6 1, 3), .inl (.goto (-33), 3)]),
  (113, [0, 1, 2, 3, 4, 5], [.inl (.iload 5, 2), .inl (.ifCond .eq 58, 3), .inl (.aload_n 0, 1), .inl (.getfield 72, 3), .inl (.iconst 3, 1), .inl (.iload 4, 2), .inl (.imul, 1), .inl (.iload_n 2, 1), .inl (.iadd, 1), .inl (.baload, 1), .inl (.ifCond .ne 6, 3), .inl (.goto 41, 3)]),
  (135, [0, 1, 2, 3, 4], [.inl (.aload_n 0, 1), .inl (.getfield 66, 3), .inl (.iload_n 2, 1), .inl (.iload 4, 2), .inl (.iastore, 1), .inl (.aload_n 0, 1), .inl (.iload_n 1, 1), .inl (.iload_n 2, 1), .inl (.iconst 1, 1), .inl (.iadd, 1), .inl (.iload_n 3, 1), .inl (.aload_n 0, 1), .inl (.getfield 60, 3), .inl (.iconst 3, 1), .inl (.iload_n 1, 1), .inl (.imul, 1), .inl (.iload_n 2, 1), .inl (.iadd, 1), .inl (.iaload, 1), .inl (.iload 4, 2), .inl (.if_icmp .ne 7, 3), .inl (.iconst 0, 1), .inl (.goto 4, 3)]),
  (168, [0, 1, 2, 3, 4], [.inl (.iconst 1, 1)]),
  (169, [0, 1, 2, 3, 4], [.inl (.iadd, 1), .inl (.invokevirtual 182, 3)]),
  (173, [0, 1, 2, 3, 4], [.inl (.iinc 4 1, 3), .inl (.goto (-114), 3)]),
  (179, [], [.inl (.return_, 1)])]
def k_42 : mCode := [(0, [0, 1], [.inl (.aload_n 0, 1), .inl (.bipush 9, 2), .inl (.putfield 179, 3), .inl (.iconst 0, 1), .inl (.istore_n 2, 1)]),
  (8, [0, 1, 2], [.inl (.iload_n 2, 1), .inl (.aload_n 0, 1), .inl (.getfield 96, 3), .inl (.if_icmp .ge 57, 3), .inl (.iconst 0, 1), .inl (.istore_n 3, 1)]),
  (18, [0, 1, 2, 3], [.inl (.iload_n 3, 1), .inl (.aload_n 0, 1), .inl (.getfield 42, 3), .inl (.aload_n 0, 1), .inl (.getfield 48, 3), .inl (.iload_n 1, 1), .inl (.iaload, 1), .inl (.iaload, 1), .inl (.if_icmp .ge 34, 3), .inl (.aload_n 0, 1), .inl (.getfield 72, 3), .inl (.iconst 3, 1), .inl (.iload_n 2, 1), .inl (.imul, 1), .inl (.iload_n 3, 1), .inl (.iadd, 1), .inl (.aload_n 0, 1), .inl (.iload_n 1, 1), .inl (.iload_n 3, 1), .inl (.iload_n 2, 1), .inl (.invokevirtual 166, 3), .inl (.ifCond .ne 7, 3), .inl (.iconst 1, 1), .inl (.goto 4, 3)]),
  (56, [0, 1, 2, 3], [.inl (.iconst 0, 1)]),
  (57, [0, 1, 2, 3], [.inl (.bastore, 1), .inl (.iinc 3 1, 3), .inl (.goto (-43), 3)]),
  (64, [0, 1, 2], [.inl (.iinc 2 1, 3), .inl (.goto (-59), 3)]),
  (70, [0, 1], [.inl (.aload_n 0, 1), .inl (.iload_n 1, 1), .inl (.iconst 0, 1), .inl (.iconst 0, 1), .inl (.invokevirtual 182, 3), .inl (.iconst 0, 1), .inl (.istore_n 2, 1)]),
  (79, [0, 1, 2], [.inl (.iload_n 2, 1), .inl (.aload_n 0, 1), .inl (.getfield 42, 3), .inl (.aload_n 0, 1), .inl (.getfield 48, 3), .inl (.iload_n 1, 1), .inl (.iaload, 1), .inl (.iaload, 1), .inl (.if_icmp .ge 34, 3), .inl (.aload_n 0, 1), .inl (.getfield 179, 3), .inl (.bipush 9, 2), .inl (.if_icmp .ge 25, 3), .inl (.aload_n 0, 1), .inl (.getfield 60, 3), .inl (.iconst 3, 1), .inl (.iload_n 1, 1), .inl (.imul, 1), .inl (.iload_n 2, 1), .inl (.iadd, 1), .inl (.aload_n 0, 1), .inl (.getfield 69, 3), .inl (.iload_n 2, 1), .inl (.iaload, 1), .inl (.iastore, 1), .inl (.iinc 2 1, 3), .inl (.goto (-43), 3)]),
  (125, [0], [.inl (.aload_n 0, 1), .inl (.getfield 179, 3), .inl (.bipush 9, 2), .inl (.if_icmp .ge 7, 3), .inl (.iconst 1, 1), .inl (.goto 4, 3)]),
  (138, [], [.inl (.iconst 0, 1)]),
  (139, [], [.inl (.ireturn, 1)])]
def k_43 : mCode := [(0, [0, 1], [.inl (.aload_n 0, 1), .inl (.iload_n 1, 1), .inl (.invokevirtual 176, 3), .inl (.ifCond .ne 5, 3), .inl (.iconst 0, 1), .inl (.ireturn, 1)]),
  (10, [0, 1], [.inl (.aload_n 0, 1), .inl (.iload_n 1, 1), .inl (.invokevirtual 186, 3), .inl (.ifCond .eq 10, 3), .inl (.aload_n 0, 1), .inl (.getfield 179, 3), .inl (.goto 8, 3)]),
  (25, [0], [.inl (.aload_n 0, 1), .inl (.iconst 3, 1), .inl (.invokevirtual 109, 3)]),
  (30, [], [.inl (.ireturn, 1)])]
def k_44 : mCode := [(0, [0, 1, 2], [.inl (.iconst 0, 1), .inl (.istore_n 3, 1)]),
  (2, [0, 1, 2, 3], [.inl (.iload_n 3, 1), .inl (.iload_n 2, 1), .inl (.if_icmp .ge 15, 3), .inl (.aload_n 1, 1), .inl (.iload_n 3, 1), .inl (.aload_n 0, 1), .inl (.iload_n 3, 1), .inl (.iaload, 1), .inl (.iastore, 1), .inl (.iinc 3 1, 3), .inl (.goto (-14), 3)]),
  (19, [], [.inl (.return_, 1)])]
def k_45 : mCode := [(0, [0], [.inl (.iconst 0, 1), .inl (.istore_n 1, 1), .inl (.iconst 0, 1), .inl (.istore_n 2, 1)]),
  (4, [0, 1, 2], [.inl (.iload_n 2, 1), .inl (.sipush 1000, 3), .inl (.if_icmp .ge 77, 3), .inl (.iload_n 1, 1), .inl (.iconst 4, 1), .inl (.if_icmp .ge 72, 3), .inl (.iconst 0, 1), .inl (.istore_n 3, 1)]),
  (18, [0, 1, 2, 3], [.inl (.iload_n 3, 1), .inl (.aload_n 0, 1), .inl (.getfield 103, 3), .inl (.if_icmp .ge 56, 3), .inl (.iload_n 1, 1), .inl (.iconst 4, 1), .inl (.if_icmp .ge 51, 3), .inl (.aload_n 0, 1), .inl (.getfield 51, 3), .inl (.iload_n 3, 1), .inl (.iaload, 1), .inl (.iload_n 2, 1), .inl (.if_icmp .ne 35, 3), .inl (.aload_n 0, 1), .inl (.getfield 57, 3), .inl (.iload_n 3, 1), .inl (.iaload, 1), .inl (.bipush 112, 2), .inl (.if_icmp .ne 24, 3), .inl (.aload_n 0, 1), .inl (.iload_n 3, 1), .inl (.invokevirtual 121, 3), .inl (.ifCond .eq 6, 3), .inl (.goto 13, 3)]),
  (63, [0, 1, 2, 3], [.inl (.aload_n 0, 1), .inl (.getfield 75, 3), .inl (.iload_n 1, 1), .inl (.iload_n 3, 1), .inl (.iastore, 1), .inl (.iinc 1 1, 3)]),
  (73, [0, 1, 2, 3], [.inl (.iinc 3 1, 3), .inl (.goto (-58), 3)]),
  (79, [0, 1, 2], [.inl (.iinc 2 1, 3), .inl (.goto (-78), 3)]),
  (85, [1], [.inl (.iload_n 1, 1), .inl (.ireturn, 1)])]
def k_46 : mCode := [(0, [0, 1], [.inl (.iload_n 1, 1), .inl (.iconst 2, 1), .inl (.isub, 1), .inl (.istore_n 2, 1)]),
  (4, [0, 1, 2], [.inl (.iload_n 2, 1), .inl (.ifCond .lt 26, 3), .inl (.aload_n 0, 1), .inl (.getfield 78, 3), .inl (.iload_n 2, 1), .inl (.iaload, 1), .inl (.aload_n 0, 1), .inl (.getfield 78, 3), .inl (.iload_n 2, 1), .inl (.iconst 1, 1), .inl (.iadd, 1), .inl (.iaload, 1), .inl (.if_icmp .le 9, 3), .inl (.iinc 2 (-1), 3), .inl (.goto (-24), 3)]),
  (31, [0, 1, 2], [.inl (.iload_n 2, 1), .inl (.ifCond .ge 5, 3), .inl (.iconst 0, 1), .inl (.ireturn, 1)]),
  (37, [0, 1, 2], [.inl (.iload_n 1, 1), .inl (.iconst 1, 1), .inl (.isub, 1), .inl (.istore_n 3, 1)]),
  (41, [0, 1, 2, 3], [.inl (.aload_n 0, 1), .inl (.getfield 78, 3), .inl (.iload_n 3, 1), .inl (.iaload, 1), .inl (.aload_n 0, 1), .inl (.getfield 78, 3), .inl (.iload_n 2, 1), .inl (.iaload, 1), .inl (.if_icmp .ge 9, 3), .inl (.iinc 3 (-1), 3), .inl (.goto (-18), 3)]),
  (62, [0, 1, 2, 3], [.inl (.aload_n 0, 1), .inl (.iload_n 2, 1), .inl (.iload_n 3, 1), .inl (.invokevirtual 189, 3), .inl (.iload_n 2, 1), .inl (.iconst 1, 1), .inl (.iadd, 1), .inl (.istore 4, 2), .inl (.iload_n 1, 1), .inl (.iconst 1, 1), .inl (.isub, 1), .inl (.istore 5, 2)]),
  (78, [0, 4, 5], [.inl (.iload 4, 2), .inl (.iload 5, 2), .inl (.if_icmp .ge 20, 3), .inl (.aload_n 0, 1), .inl (.iload 4, 2), .inl (.iload 5, 2), .inl (.invokevirtual 189, 3), .inl (.iinc 5 (-1), 3), .inl (.iinc 4 1, 3), .inl (.goto (-21), 3)]),
  (102, [], [.inl (.iconst 1, 1), .inl (.ireturn, 1)])]
def k_47 : mCode := [(0, [0, 1, 2], [.inl (.aload_n 0, 1), .inl (.getfield 78, 3), .inl (.iload_n 1, 1), .inl (.iaload, 1), .inl (.istore_n 3, 1), .inl (.aload_n 0, 1), .inl (.getfield 78, 3), .inl (.iload_n 1, 1), .inl (.aload_n 0, 1), .inl (.getfield 78, 3), .inl (.iload_n 2, 1), .inl (.iaload, 1), .inl (.iastore, 1), .inl (.aload_n 0, 1), .inl (.getfield 78, 3), .inl (.iload_n 2, 1), .inl (.iload_n 3, 1), .inl (.iastore, 1), .inl (.return_, 1)])]
def k_48 : mCode := [(0, [0], [.inl (.aload_n 0, 1), .inl (.iconst 0, 1), .inl (.putfield 93, 3), .inl (.aload_n 0, 1), .inl (.invokevirtual 192, 3), .inl (.istore_n 1, 1), .inl (.iconst 0, 1), .inl (.istore_n 2, 1)]),
  (12, [0, 1, 2], [.inl (.iload_n 2, 1), .inl (.iload_n 1, 1), .inl (.if_icmp .ge 16, 3), .inl (.aload_n 0, 1), .inl (.getfield 78, 3), .inl (.iload_n 2, 1), .inl (.iload_n 2, 1), .inl (.iastore, 1), .inl (.iinc 2 1, 3), .inl (.goto (-15), 3)]),
  (30, [0, 1], [.inl (.aload_n 0, 1), .inl (.getfield 60, 3), .inl (.aload_n 0, 1), .inl (.getfield 81, 3), .inl (.bipush 72, 2), .inl (.invokestatic 195, 3), .inl (.aload_n 0, 1), .inl (.getfield 57, 3), .inl (.aload_n 0, 1), .inl (.getfield 84, 3), .inl (.bipush 24, 2), .inl (.invokestatic 195, 3), .inl (.ldc 201, 2), .inl (.istore_n 2, 1), .inl (.iconst 1, 1), .inl (.istore_n 3, 1)]),
  (61, [0, 1, 2, 3], [.inl (.iload_n 3, 1), .inl (.ifCond .eq 149, 3), .inl (.aload_n 0, 1), .inl (.getfield 81, 3), .inl (.aload_n 0, 1), .inl (.getfield 60, 3), .inl (.bipush 72, 2), .inl (.invokestatic 195, 3), .inl (.aload_n 0, 1), .inl (.getfield 84, 3), .inl (.aload_n 0, 1), .inl (.getfield 57, 3), .inl (.bipush 24, 2), .inl (.invokestatic 195, 3), .inl (.iconst 0, 1), .inl (.istore 4, 2), .inl (.iconst 0, 1), .inl (.istore 5, 2)]),
  (97, [0, 1, 2, 4, 5], [.inl (.iload 5, 2), .inl (.iload_n 1, 1), .inl (.if_icmp .ge 54, 3), .inl (.aload_n 0, 1), .inl (.getfield 75, 3), .inl (.aload_n 0, 1), .inl (.getfield 78, 3), .inl (.iload 5, 2), .inl (.iaload, 1), .inl (.iaload, 1), .inl (.istore 6, 2), .inl (.aload_n 0, 1), .inl (.iload 6, 2), .inl (.invokevirtual 186, 3), .inl (.ifCond .eq 15, 3), .inl (.iload 4, 2), .inl (.aload_n 0, 1), .inl (.getfield 179, 3), .inl (.iadd, 1), .inl (.istore 4, 2), .inl (.goto 13, 3)]),
  (138, [0, 1, 2, 4, 5, 6], [.inl (.aload_n 0, 1), .inl (.iload 6, 2), .inl (.invokevirtual 125, 3), .inl (.pop, 1), .inl (.iinc 4 100, 3)]),
  (148, [0, 1, 2, 4, 5], [.inl (.iinc 5 1, 3), .inl (.goto (-54), 3)]),
  (154, [0, 1, 2, 4], [.inl (.iload 4, 2), .inl (.iload_n 2, 1), .inl (.if_icmp .ge 32, 3), .inl (.iload 4, 2), .inl (.istore_n 2, 1), .inl (.aload_n 0, 1), .inl (.getfield 60, 3), .inl (.aload_n 0, 1), .inl (.getfield 87, 3), .inl (.bipush 72, 2), .inl (.invokestatic 195, 3), .inl (.aload_n 0, 1), .inl (.getfield 57, 3), .inl (.aload_n 0, 1), .inl (.getfield 90, 3), .inl (.bipush 24, 2), .inl (.invokestatic 195, 3)]),
  (189, [0, 1, 2], [.inl (.iload_n 1, 1), .inl (.iconst 1, 1), .inl (.if_icmp .le 15, 3), .inl (.aload_n 0, 1), .inl (.iload_n 1, 1), .inl (.invokevirtual 202, 3), .inl (.ifCond .eq 7, 3), .inl (.iconst 1, 1), .inl (.goto 4, 3)]),
  (206, [0, 1, 2], [.inl (.iconst 0, 1)]),
  (207, [0, 1, 2], [.inl (.istore_n 3, 1), .inl (.goto (-147), 3)]),
  (211, [0, 2], [.inl (.aload_n 0, 1), .inl (.getfield 87, 3), .inl (.aload_n 0, 1), .inl (.getfield 60, 3), .inl (.bipush 72, 2), .inl (.invokestatic 195, 3), .inl (.aload_n 0, 1), .inl (.getfield 90, 3), .inl (.aload_n 0, 1), .inl (.getfield 57, 3), .inl (.bipush 24, 2), .inl (.invokestatic 195, 3), .inl (.iload_n 2, 1), .inl (.bipush 100, 2), .inl (.idiv, 1), .inl (.ireturn, 1)])]
def k_49 : mCode := [(0, [0, 1], [.inl (.aload_n 0, 1), .inl (.aload_n 0, 1), .inl (.iload_n 1, 1), .inl (.invokevirtual 170, 3), .inl (.ifCond .eq 7, 3), .inl (.iconst 0, 1), .inl (.goto 4, 3)]),
  (13, [0, 1], [.inl (.iconst 1, 1)]),
  (14, [0, 1], [.inl (.putfield 93, 3), .inl (.aload_n 0, 1), .inl (.getfield 93, 3), .inl (.ifCond .le 7, 3), .inl (.iconst 0, 1), .inl (.goto 9, 3)]),
  (28, [0, 1], [.inl (.aload_n 0, 1), .inl (.getfield 57, 3), .inl (.iload_n 1, 1), .inl (.iaload, 1)]),
  (34, [], [.inl (.i2c, 1), .inl (.ireturn, 1)])]
def k_50 : mCode := [(0, [0, 1, 2], [.inl (.aload_n 0, 1), .inl (.iload_n 1, 1), .inl (.invokevirtual 170, 3), .inl (.ifCond .ne 9, 3), .inl (.aload_n 0, 1), .inl (.iconst 1, 1), .inl (.invokevirtual 109, 3), .inl (.ireturn, 1)]),
  (14, [0, 1, 2], [.inl (.aload_n 0, 1), .inl (.iload_n 1, 1), .inl (.iload_n 2, 1), .inl (.invokevirtual 173, 3), .inl (.ifCond .ne 9, 3), .inl (.aload_n 0, 1), .inl (.iconst 2, 1), .inl (.invokevirtual 109, 3), .inl (.ireturn, 1)]),
  (29, [0, 1, 2], [.inl (.aload_n 0, 1), .inl (.iconst 0, 1), .inl (.putfield 93, 3), .inl (.aload_n 0, 1), .inl (.getfield 60, 3), .inl (.iconst 3, 1), .inl (.iload_n 1, 1), .inl (.imul, 1), .inl (.iload_n 2, 1), .inl (.iadd, 1), .inl (.iaload, 1), .inl (.ireturn, 1)])]
def k_51 : mCode := [(0, [0, 1], [.inl (.aload_n 0, 1), .inl (.iload_n 1, 1), .inl (.invokevirtual 176, 3), .inl (.ifCond .eq 15, 3), .inl (.aload_n 0, 1), .inl (.iload_n 1, 1), .inl (.invokevirtual 121, 3), .inl (.ifCond .eq 7, 3), .inl (.iconst 1, 1), .inl (.goto 4, 3)]),
  (20, [], [.inl (.iconst 0, 1)]),
  (21, [], [.inl (.ireturn, 1)])]
def k_52 : mCode := [(0, [0, 1, 2, 3], [.inl (.aload_n 0, 1), .inl (.iload_n 1, 1), .inl (.invokevirtual 170, 3), .inl (.ifCond .ne 9, 3), .inl (.aload_n 0, 1), .inl (.iconst 1, 1), .inl (.invokevirtual 109, 3), .inl (.ireturn, 1)]),
  (14, [0, 1, 2, 3], [.inl (.aload_n 0, 1), .inl (.iload_n 1, 1), .inl (.iload_n 2, 1), .inl (.invokevirtual 173, 3), .inl (.ifCond .eq 11, 3), .inl (.aload_n 0, 1), .inl (.iload_n 3, 1), .inl (.invokevirtual 128, 3), .inl (.ifCond .ne 9, 3)]),
  (31, [0], [.inl (.aload_n 0, 1), .inl (.iconst 2, 1), .inl (.invokevirtual 109, 3), .inl (.ireturn, 1)]),
  (37, [0, 1, 2, 3], [.inl (.aload_n 0, 1), .inl (.getfield 57, 3), .inl (.iload_n 1, 1), .inl (.iaload, 1), .inl (.bipush 112, 2), .inl (.if_icmp .eq 9, 3), .inl (.aload_n 0, 1), .inl (.iconst 3, 1), .inl (.invokevirtual 109, 3), .inl (.ireturn, 1)]),
  (54, [0, 1, 2, 3], [.inl (.aload_n 0, 1), .inl (.iconst 0, 1), .inl (.putfield 93, 3), .inl (.aload_n 0, 1), .inl (.iload_n 1, 1), .inl (.iload_n 2, 1), .inl (.iload_n 3, 1), .inl (.invokevirtual 166, 3), .inl (.ireturn, 1)])]
def k_53 : mCode := [(0, [0, 1, 2], [.inl (.aload_n 0, 1), .inl (.iload_n 1, 1), .inl (.invokevirtual 170, 3), .inl (.ifCond .ne 9, 3), .inl (.aload_n 0, 1), .inl (.iconst 1, 1), .inl (.invokevirtual 109, 3), .inl (.ireturn, 1)]),
  (14, [0, 1, 2], [.inl (.aload_n 0, 1), .inl (.iload_n 1, 1), .inl (.iload_n 2, 1), .inl (.invokevirtual 173, 3), .inl (.ifCond .ne 9, 3), .inl (.aload_n 0, 1), .inl (.iconst 2, 1), .inl (.invokevirtual 109, 3), .inl (.ireturn, 1)]),
  (29, [0, 1, 2], [.inl (.aload_n 0, 1), .inl (.getfield 57, 3), .inl (.iload_n 1, 1), .inl (.iaload, 1), .inl (.bipush 112, 2), .inl (.if_icmp .eq 9, 3), .inl (.aload_n 0, 1), .inl (.iconst 3, 1), .inl (.invokevirtual 109, 3), .inl (.ireturn, 1)]),
  (46, [0, 1, 2], [.inl (.aload_n 0, 1), .inl (.iconst 0, 1), .inl (.putfield 93, 3), .inl (.iconst 0, 1), .inl (.istore_n 3, 1), .inl (.iconst 0, 1), .inl (.istore 4, 2)]),
  (56, [0, 1, 2, 3, 4], [.inl (.iload 4, 2), .inl (.aload_n 0, 1), .inl (.getfield 96, 3), .inl (.if_icmp .ge 28, 3), .inl (.iload_n 3, 1), .inl (.aload_n 0, 1), .inl (.iload_n 1, 1), .inl (.iload_n 2, 1), .inl (.iload 4, 2), .inl (.invokevirtual 166, 3), .inl (.ifCond .ne 7, 3), .inl (.iconst 1, 1), .inl (.goto 4, 3)]),
  (81, [0, 1, 2, 4], [.inl (.iconst 0, 1)]),
  (82, [0, 1, 2, 4], [.inl (.iadd, 1), .inl (.istore_n 3, 1), .inl (.iinc 4 1, 3), .inl (.goto (-31), 3)]),
  (90, [3], [.inl (.iload_n 3, 1), .inl (.ireturn, 1)])]
def k_54 : mCode := [(0, [0], [.inl (.aload_n 0, 1), .inl (.iconst 0, 1), .inl (.putfield 93, 3), .inl (.iconst 0, 1), .inl (.istore_n 1, 1), .inl (.iconst 0, 1), .inl (.istore_n 2, 1)]),
  (9, [0, 1, 2], [.inl (.iload_n 2, 1), .inl (.aload_n 0, 1), .inl (.getfield 103, 3), .inl (.if_icmp .ge 36, 3), .inl (.iload_n 1, 1), .inl (.aload_n 0, 1), .inl (.getfield 57, 3), .inl (.iload_n 2, 1), .inl (.iaload, 1), .inl (.bipush 112, 2), .inl (.if_icmp .ne 15, 3), .inl (.aload_n 0, 1), .inl (.iload_n 2, 1), .inl (.invokevirtual 121, 3), .inl (.ifCond .ne 7, 3), .inl (.iconst 1, 1), .inl (.goto 4, 3)]),
  (41, [0, 2], [.inl (.iconst 0, 1)]),
  (42, [0, 2], [.inl (.iadd, 1), .inl (.istore_n 1, 1), .inl (.iinc 2 1, 3), .inl (.goto (-38), 3)]),
  (50, [1], [.inl (.iload_n 1, 1), .inl (.ireturn, 1)])]
def k_55 : mCode := [(0, [0, 1], [.inl (.iload_n 1, 1), .inl (.bipush 112, 2), .inl (.if_icmp .eq 21, 3), .inl (.iload_n 1, 1), .inl (.bipush 115, 2), .inl (.if_icmp .eq 15, 3), .inl (.iload_n 1, 1), .inl (.bipush 99, 2), .inl (.if_icmp .eq 9, 3), .inl (.aload_n 0, 1), .inl (.iconst 1, 1), .inl (.invokevirtual 109, 3), .inl (.ireturn, 1)]),
  (24, [0, 1], [.inl (.aload_n 0, 1), .inl (.iconst 0, 1), .inl (.putfield 93, 3), .inl (.iconst 0, 1), .inl (.istore_n 2, 1), .inl (.iconst 0, 1), .inl (.istore_n 3, 1)]),
  (33, [0, 1, 2, 3], [.inl (.iload_n 3, 1), .inl (.aload_n 0, 1), .inl (.getfield 103, 3), .inl (.if_icmp .ge 27, 3), .inl (.iload_n 2, 1), .inl (.aload_n 0, 1), .inl (.getfield 57, 3), .inl (.iload_n 3, 1), .inl (.iaload, 1), .inl (.iload_n 1, 1), .inl (.if_icmp .ne 7, 3), .inl (.iconst 1, 1), .inl (.goto 4, 3)]),
  (56, [0, 1, 3], [.inl (.iconst 0, 1)]),
  (57, [0, 1, 3], [.inl (.iadd, 1), .inl (.istore_n 2, 1), .inl (.iinc 3 1, 3), .inl (.goto (-29), 3)]),
  (65, [2], [.inl (.iload_n 2, 1), .inl (.ireturn, 1)])]
def k_56 : mCode := [(0, [0, 1, 2, 3], [.inl (.aload_n 0, 1), .inl (.iload_n 1, 1), .inl (.invokevirtual 128, 3), .inl (.ifCond .ne 9, 3), .inl (.aload_n 0, 1), .inl (.iconst 1, 1), .inl (.invokevirtual 109, 3), .inl (.ireturn, 1)]),
  (14, [0, 1, 2, 3], [.inl (.iload_n 2, 1), .inl (.iconst 0, 1), .inl (.sipush 998, 3), .inl (.invokestatic 99, 3), .inl (.ifCond .eq 15, 3), .inl (.iload_n 3, 1), .inl (.iload_n 2, 1), .inl (.if_icmp .le 10, 3), .inl (.iload_n 3, 1), .inl (.sipush 999, 3), .inl (.if_icmp .le 9, 3)]),
  (37, [0], [.inl (.aload_n 0, 1), .inl (.iconst 2, 1), .inl (.invokevirtual 109, 3), .inl (.ireturn, 1)]),
  (43, [0, 1, 2, 3], [.inl (.aload_n 0, 1), .inl (.iconst 0, 1), .inl (.putfield 93, 3), .inl (.aload_n 0, 1), .inl (.iload_n 1, 1), .inl (.iconst (-1), 1), .inl (.invokevirtual 159, 3), .inl (.aload_n 0, 1), .inl (.iload_n 2, 1), .inl (.iload_n 3, 1), .inl (.invokevirtual 147, 3), .inl (.ireturn, 1)])]
def k_57 : mCode := [(0, [0, 1, 2], [.inl (.aload_n 0, 1), .inl (.iload_n 1, 1), .inl (.invokevirtual 128, 3), .inl (.ifCond .ne 9, 3), .inl (.aload_n 0, 1), .inl (.iconst 1, 1), .inl (.invokevirtual 109, 3), .inl (.ireturn, 1)]),
  (14, [0, 1, 2], [.inl (.aload_n 0, 1), .inl (.iconst 0, 1), .inl (.putfield 93, 3), .inl (.aload_n 0, 1), .inl (.iload_n 1, 1), .inl (.iconst (-1), 1), .inl (.invokevirtual 159, 3), .inl (.iconst 0, 1), .inl (.istore_n 3, 1), .inl (.iconst 0, 1), .inl (.istore 4, 2)]),
  (30, [0, 2, 3, 4], [.inl (.iload 4, 2), .inl (.sipush 1000, 3), .inl (.if_icmp .ge 38, 3), .inl (.aload_n 0, 1), .inl (.iload 4, 2), .inl (.iload 4, 2), .inl (.iload_n 2, 1), .inl (.iadd, 1), .inl (.invokevirtual 147, 3), .inl (.iload_n 3, 1), .inl (.if_icmp .le 16, 3), .inl (.aload_n 0, 1), .inl (.iload 4, 2), .inl (.iload 4, 2), .inl (.iload_n 2, 1), .inl (.iadd, 1), .inl (.invokevirtual 147, 3), .inl (.goto 4, 3)]),
  (65, [0, 2, 3, 4], [.inl (.iload_n 3, 1)]),
  (66, [0, 2, 4], [.inl (.istore_n 3, 1), .inl (.iinc 4 1, 3), .inl (.goto (-40), 3)]),
  (73, [3], [.inl (.iload_n 3, 1), .inl (.ireturn, 1)])]
def k_58 : mCode := [(0, [0, 1], [.inl (.aload_n 0, 1), .inl (.iload_n 1, 1), .inl (.bipush 24, 2), .inl (.invokevirtual 205, 3), .inl (.ireturn, 1)])]
def k_59 : mCode := [(0, [0, 1], [.inl (.aload_n 0, 1), .inl (.iload_n 1, 1), .inl (.bipush 24, 2), .inl (.invokevirtual 205, 3), .inl (.ireturn, 1)])]
def k_60 : mCode := [(0, [0, 1], [.inl (.aload_n 0, 1), .inl (.iload_n 1, 1), .inl (.sipush 168, 3), .inl (.invokevirtual 205, 3), .inl (.ireturn, 1)])]
def k_61 : mCode := [(0, [0, 1], [.inl (.aload_n 0, 1), .inl (.iload_n 1, 1), .inl (.sipush 168, 3), .inl (.invokevirtual 205, 3), .inl (.ireturn, 1)])]
def k_62 : mCode := [(0, [0, 1, 2], [.inl (.aload_n 0, 1), .inl (.iload_n 1, 1), .inl (.invokevirtual 128, 3), .inl (.ifCond .ne 9, 3), .inl (.aload_n 0, 1), .inl (.iconst 1, 1), .inl (.invokevirtual 109, 3), .inl (.ireturn, 1)]),
  (14, [0, 1, 2], [.inl (.iload_n 2, 1), .inl (.iconst 1, 1), .inl (.bipush 12, 2), .inl (.invokestatic 99, 3), .inl (.ifCond .ne 9, 3), .inl (.aload_n 0, 1), .inl (.iconst 2, 1), .inl (.invokevirtual 109, 3), .inl (.ireturn, 1)]),
  (30, [0, 1, 2], [.inl (.aload_n 0, 1), .inl (.iload_n 1, 1), .inl (.iconst (-1), 1), .inl (.invokevirtual 159, 3), .inl (.aload_n 0, 1), .inl (.iconst 0, 1), .inl (.putfield 93, 3), .inl (.aload_n 0, 1), .inl (.getfield 106, 3), .inl (.iconst 1, 1), .inl (.iadd, 1), .inl (.istore_n 3, 1)]),
  (48, [0, 2, 3], [.inl (.iload_n 3, 1), .inl (.iload_n 2, 1), .inl (.iadd, 1), .inl (.sipush 999, 3), .inl (.if_icmp .gt 20, 3), .inl (.aload_n 0, 1), .inl (.iload_n 3, 1), .inl (.iload_n 2, 1), .inl (.invokevirtual 163, 3), .inl (.ifCond .ne 5, 3), .inl (.iload_n 3, 1), .inl (.ireturn, 1)]),
  (68, [0, 2, 3], [.inl (.iinc 3 1, 3), .inl (.goto (-23), 3)]),
  (74, [0], [.inl (.aload_n 0, 1), .inl (.iconst 3, 1), .inl (.invokevirtual 109, 3), .inl (.ireturn, 1)])]
def k_63 : mCode := [(0, [0, 1], [.inl (.aload_n 0, 1), .inl (.iload_n 1, 1), .inl (.invokevirtual 128, 3), .inl (.ifCond .ne 10, 3), .inl (.aload_n 0, 1), .inl (.iconst 1, 1), .inl (.invokevirtual 109, 3), .inl (.i2f, 1), .inl (.freturn, 1)]),
  (15, [0, 1], [.inl (.aload_n 0, 1), .inl (.getfield 106, 3), .inl (.ifCond .ne 10, 3), .inl (.aload_n 0, 1), .inl (.iconst 2, 1), .inl (.invokevirtual 109, 3), .inl (.i2f, 1), .inl (.freturn, 1)]),
  (29, [0, 1], [.inl (.aload_n 0, 1), .inl (.iconst 0, 1), .inl (.putfield 93, 3), .inl (.aload_n 0, 1), .inl (.iload_n 1, 1), .inl (.iconst (-1), 1), .inl (.invokevirtual 159, 3), .inl (.aload_n 0, 1), .inl (.iconst 0, 1), .inl (.aload_n 0, 1), .inl (.getfield 106, 3), .inl (.invokevirtual 147, 3), .inl (.i2f, 1), .inl (.aload_n 0, 1), .inl (.getfield 106, 3), .inl (.i2f, 1), .inl (.fdiv, 1), .inl (.freturn, 1)])]
def k_64 : mCode := [(0, [0], [.inl (.aload_n 0, 1), .inl (.getfield 96, 3), .inl (.ifCond .ne 10, 3), .inl (.aload_n 0, 1), .inl (.iconst 1, 1), .inl (.invokevirtual 109, 3), .inl (.i2d, 1), .inl (.dreturn, 1)]),
  (14, [0], [.inl (.aload_n 0, 1), .inl (.iconst 0, 1), .inl (.putfield 93, 3), .inl (.iconst 0, 1), .inl (.istore_n 1, 1), .inl (.iconst 0, 1), .inl (.istore_n 2, 1)]),
  (23, [0, 1, 2], [.inl (.iload_n 2, 1), .inl (.aload_n 0, 1), .inl (.getfield 96, 3), .inl (.if_icmp .ge 26, 3), .inl (.aload_n 0, 1), .inl (.iload_n 2, 1), .inl (.iconst (-1), 1), .inl (.invokevirtual 159, 3), .inl (.iload_n 1, 1), .inl (.aload_n 0, 1), .inl (.iconst 0, 1), .inl (.sipush 1000, 3), .inl (.invokevirtual 147, 3), .inl (.iadd, 1), .inl (.istore_n 1, 1), .inl (.iinc 2 1, 3), .inl (.goto (-28), 3)]),
  (54, [0, 1], [.inl (.iload_n 1, 1), .inl (.i2d, 1), .inl (.aload_n 0, 1), .inl (.getfield 96, 3), .inl (.i2d, 1), .inl (.ddiv, 1), .inl (.dreturn, 1)])]
def k_65 : mCode := [(0, [0], [.inl (.aload_n 0, 1), .inl (.iconst 0, 1), .inl (.putfield 93, 3), .inl (.iconst 1, 1), .inl (.ireturn, 1)])]
def k_66 : mCode := [(0, [0, 1, 2], [.inl (.iload_n 1, 1), .inl (.iconst 0, 1), .inl (.invokestatic 15, 3), .inl (.istore_n 3, 1)]),
  (6, [0, 2, 3], [.inl (.iload_n 3, 1), .inl (.iload_n 2, 1), .inl (.if_icmp .gt 27, 3), .inl (.iload_n 3, 1), .inl (.bipush 41, 2), .inl (.if_icmp .gt 21, 3), .inl (.aload_n 0, 1), .inl (.dup, 1), .inl (.getfield 9, 3), .inl (.lconst 1, 1), .inl (.iload_n 3, 1), .inl (.lshl, 1), .inl (.lor, 1), .inl (.putfield 9, 3), .inl (.iinc 3 1, 3), .inl (.goto (-26), 3)]),
  (35, [], [.inl (.return_, 1)])]
def k_67 : mCode := [(0, [0, 1], [.inl (.iload_n 1, 1), .inl (.ifCond .lt 23, 3), .inl (.iload_n 1, 1), .inl (.bipush 41, 2), .inl (.if_icmp .gt 17, 3), .inl (.aload_n 0, 1), .inl (.dup, 1), .inl (.getfield 9, 3), .inl (.lconst 1, 1), .inl (.iload_n 1, 1), .inl (.lshl, 1), .inl (.lconst 1, 1), .inl (.lsub, 1), .inl (.land, 1), .inl (.putfield 9, 3)]),
  (24, [], [.inl (.return_, 1)])]
def k_68 : mCode := [(0, [0, 1], [.inl (.iload_n 1, 1), .inl (.ifCond .lt 21, 3), .inl (.iload_n 1, 1), .inl (.bipush 41, 2), .inl (.if_icmp .gt 15, 3), .inl (.aload_n 0, 1), .inl (.getfield 9, 3), .inl (.iload_n 1, 1), .inl (.lushr, 1), .inl (.invokestatic 21, 3), .inl (.goto 4, 3)]),
  (22, [], [.inl (.iconst 0, 1)]),
  (23, [], [.inl (.ireturn, 1)])]
def k_69 : mCode := [(0, [0, 1], [.inl (.iload_n 1, 1), .inl (.ifCond .lt 26, 3), .inl (.iload_n 1, 1), .inl (.bipush 41, 2), .inl (.if_icmp .gt 20, 3), .inl (.aload_n 0, 1), .inl (.getfield 9, 3), .inl (.iload_n 1, 1), .inl (.lushr, 1), .inl (.lconst 1, 1), .inl (.land, 1), .inl (.lconst 0, 1), .inl (.lcmp, 1), .inl (.ifCond .eq 7, 3), .inl (.iconst 1, 1), .inl (.goto 4, 3)]),
  (27, [], [.inl (.iconst 0, 1)]),
  (28, [], [.inl (.ireturn, 1)])]
def k_70 : mCode := [(0, [0, 1, 2], [.inl (.iload_n 1, 1), .inl (.iconst 0, 1), .inl (.invokestatic 15, 3), .inl (.istore_n 3, 1)]),
  (6, [0, 2, 3], [.inl (.iload_n 3, 1), .inl (.iload_n 2, 1), .inl (.if_icmp .gt 25, 3), .inl (.iload_n 3, 1), .inl (.bipush 41, 2), .inl (.if_icmp .gt 19, 3), .inl (.aload_n 0, 1), .inl (.iload_n 3, 1), .inl (.invokevirtual 27, 3), .inl (.ifCond .eq 5, 3), .inl (.iconst 1, 1), .inl (.ireturn, 1)]),
  (27, [0, 2, 3], [.inl (.iinc 3 1, 3), .inl (.goto (-24), 3)]),
  (33, [], [.inl (.iconst 0, 1), .inl (.ireturn, 1)])]
def k_71 : mCode := [(0, [0], [.inl (.aload_n 0, 1), .inl (.getfield 9, 3), .inl (.bipush 112, 2), .inl (.if_icmp .ne 7, 3), .inl (.iconst 1, 1), .inl (.goto 4, 3)]),
  (13, [], [.inl (.iconst 0, 1)]),
  (14, [], [.inl (.ireturn, 1)])]
def k_72 : mCode := [(0, [0], [.inl (.aload_n 0, 1), .inl (.getfield 26, 3), .inl (.bipush 24, 2), .inl (.idiv, 1), .inl (.ireturn, 1)])]
def k_73 : mCode := [(0, [0], [.inl (.aload_n 0, 1), .inl (.getfield 30, 3), .inl (.iconst 1, 1), .inl (.isub, 1), .inl (.bipush 24, 2), .inl (.idiv, 1), .inl (.ireturn, 1)])]
def k_74 : mCode := [(0, [0, 1, 2], [.inl (.iconst 0, 1), .inl (.aload_n 0, 1), .inl (.getfield 30, 3), .inl (.iload_n 2, 1), .inl (.invokestatic 33, 3), .inl (.aload_n 0, 1), .inl (.getfield 26, 3), .inl (.iload_n 1, 1), .inl (.invokestatic 39, 3), .inl (.isub, 1), .inl (.invokestatic 39, 3), .inl (.ireturn, 1)])]
def k_75 : mCode := [(0, [0, 1], [.inl (.iload_n 1, 1), .inl (.ifCond .lt 21, 3), .inl (.iload_n 1, 1), .inl (.aload_n 0, 1), .inl (.getfield 15, 3), .inl (.arraylength, 1), .inl (.if_icmp .ge 12, 3), .inl (.aload_n 0, 1), .inl (.getfield 15, 3), .inl (.iload_n 1, 1), .inl (.iaload, 1), .inl (.goto 4, 3)]),
  (22, [], [.inl (.iconst (-1), 1)]),
  (23, [], [.inl (.ireturn, 1)])]
def k_76 : mCode := [(0, [0, 1, 2], [.inl (.iload_n 1, 1), .inl (.ifCond .lt 19, 3), .inl (.iload_n 1, 1), .inl (.aload_n 0, 1), .inl (.getfield 15, 3), .inl (.arraylength, 1), .inl (.if_icmp .ge 10, 3), .inl (.aload_n 0, 1), .inl (.getfield 15, 3), .inl (.iload_n 1, 1), .inl (.iload_n 2, 1), .inl (.iastore, 1)]),
  (20, [], [.inl (.return_, 1)])]
def k_77 : mCode := [(0, [0], [.inl (.iconst 0, 1), .inl (.istore_n 1, 1)]),
  (2, [0, 1], [.inl (.iload_n 1, 1), .inl (.aload_n 0, 1), .inl (.getfield 15, 3), .inl (.arraylength, 1), .inl (.if_icmp .ge 30, 3), .inl (.iload_n 1, 1), .inl (.aload_n 0, 1), .inl (.getfield 19, 3), .inl (.arraylength, 1), .inl (.if_icmp .ge 21, 3), .inl (.aload_n 0, 1), .inl (.getfield 19, 3), .inl (.iload_n 1, 1), .inl (.aload_n 0, 1), .inl (.getfield 15, 3), .inl (.iload_n 1, 1), .inl (.iaload, 1), .inl (.iastore, 1), .inl (.iinc 1 1, 3), .inl (.goto (-33), 3)]),
  (38, [], [.inl (.return_, 1)])]
def k_78 : mCode := [(0, [0, 1], [.inl (.iload_n 1, 1), .inl (.ifCond .lt 21, 3), .inl (.iload_n 1, 1), .inl (.aload_n 0, 1), .inl (.getfield 19, 3), .inl (.arraylength, 1), .inl (.if_icmp .ge 12, 3), .inl (.aload_n 0, 1), .inl (.getfield 19, 3), .inl (.iload_n 1, 1), .inl (.iaload, 1), .inl (.goto 4, 3)]),
  (22, [], [.inl (.iconst (-1), 1)]),
  (23, [], [.inl (.ireturn, 1)])]
def k_79 : mCode := [(0, [0, 1], [.inl (.iconst 0, 1), .inl (.istore_n 2, 1)]),
  (2, [0, 1, 2], [.inl (.iload_n 2, 1), .inl (.aload_n 0, 1), .inl (.getfield 15, 3), .inl (.arraylength, 1), .inl (.if_icmp .ge 21, 3), .inl (.aload_n 0, 1), .inl (.getfield 15, 3), .inl (.iload_n 2, 1), .inl (.iaload, 1), .inl (.iload_n 1, 1), .inl (.if_icmp .ne 5, 3), .inl (.iconst 1, 1), .inl (.ireturn, 1)]),
  (23, [0, 1, 2], [.inl (.iinc 2 1, 3), .inl (.goto (-24), 3)]),
  (29, [], [.inl (.iconst 0, 1), .inl (.ireturn, 1)])]
def k_80 : mCode := [(0, [0], [.inl (.iconst 0, 1), .inl (.istore_n 1, 1), .inl (.iconst 0, 1), .inl (.istore_n 2, 1)]),
  (4, [0, 1, 2], [.inl (.iload_n 2, 1), .inl (.aload_n 0, 1), .inl (.getfield 15, 3), .inl (.arraylength, 1), .inl (.if_icmp .ge 22, 3), .inl (.aload_n 0, 1), .inl (.getfield 15, 3), .inl (.iload_n 2, 1), .inl (.iaload, 1), .inl (.iconst (-1), 1), .inl (.if_icmp .eq 6, 3), .inl (.iinc 1 1, 3)]),
  (26, [0, 1, 2], [.inl (.iinc 2 1, 3), .inl (.goto (-25), 3)]),
  (32, [1], [.inl (.iload_n 1, 1), .inl (.ireturn, 1)])]
def k_81 : mCode := [(0, [0, 1], [.inl (.iconst 0, 1), .inl (.istore_n 2, 1)]),
  (2, [0, 1, 2], [.inl (.iload_n 2, 1), .inl (.aload_n 0, 1), .inl (.getfield 15, 3), .inl (.arraylength, 1), .inl (.if_icmp .ge 34, 3), .inl (.aload_n 0, 1), .inl (.getfield 15, 3), .inl (.iload_n 2, 1), .inl (.iaload, 1), .inl (.iconst (-1), 1), .inl (.if_icmp .eq 18, 3), .inl (.aload_n 1, 1), .inl (.aload_n 0, 1), .inl (.getfield 15, 3), .inl (.iload_n 2, 1), .inl (.iaload, 1), .inl (.invokevirtual 42, 3), .inl (.ifCond .eq 5, 3), .inl (.iconst 1, 1), .inl (.ireturn, 1)]),
  (36, [0, 1, 2], [.inl (.iinc 2 1, 3), .inl (.goto (-37), 3)]),
  (42, [], [.inl (.iconst 0, 1), .inl (.ireturn, 1)])]
def k_82 : mCode := [(0, [0, 1], [.inl (.aload_n 0, 1), .inl (.getfield 15, 3), .inl (.ifCond .lt 35, 3), .inl (.aload_n 0, 1), .inl (.getfield 15, 3), .inl (.aload_n 0, 1), .inl (.getfield 9, 3), .inl (.arraylength, 1), .inl (.if_icmp .ge 23, 3), .inl (.aload_n 0, 1), .inl (.getfield 9, 3), .inl (.aload_n 0, 1), .inl (.getfield 15, 3), .inl (.iload_n 1, 1), .inl (.iastore, 1), .inl (.aload_n 0, 1), .inl (.dup, 1), .inl (.getfield 15, 3), .inl (.iconst 1, 1), .inl (.iadd, 1), .inl (.putfield 15, 3)]),
  (39, [], [.inl (.return_, 1)])]
def k_83 : mCode := [(0, [0, 1], [.inl (.iload_n 1, 1), .inl (.ifCond .lt 21, 3), .inl (.iload_n 1, 1), .inl (.aload_n 0, 1), .inl (.getfield 9, 3), .inl (.arraylength, 1), .inl (.if_icmp .ge 12, 3), .inl (.aload_n 0, 1), .inl (.getfield 9, 3), .inl (.iload_n 1, 1), .inl (.iaload, 1), .inl (.goto 4, 3)]),
  (22, [], [.inl (.iconst (-1), 1)]),
  (23, [], [.inl (.ireturn, 1)])]
def k_84 : mCode := [(0, [0, 1], [.inl (.aload_n 0, 1), .inl (.aload_n 1, 1), .inl (.getfield 31, 3), .inl (.getfield 37, 3), .inl (.putfield 9, 3), .inl (.iconst 0, 1), .inl (.istore_n 2, 1)]),
  (13, [0, 1, 2], [.inl (.iload_n 2, 1), .inl (.iconst 3, 1), .inl (.if_icmp .ge 27, 3), .inl (.aload_n 0, 1), .inl (.getfield 15, 3), .inl (.iload_n 2, 1), .inl (.aload_n 1, 1), .inl (.iload_n 2, 1), .inl (.invokevirtual 40, 3), .inl (.iastore, 1), .inl (.aload_n 0, 1), .inl (.getfield 19, 3), .inl (.iload_n 2, 1), .inl (.iconst 0, 1), .inl (.iastore, 1), .inl (.iinc 2 1, 3), .inl (.goto (-26), 3)]),
  (42, [0], [.inl (.aload_n 0, 1), .inl (.aload_n 0, 1), .inl (.getfield 9, 3), .inl (.iconst 1, 1), .inl (.iadd, 1), .inl (.putfield 28, 3), .inl (.return_, 1)])]
def k_85 : mCode := [(0, [0, 1, 2], [.inl (.iload_n 1, 1), .inl (.ifCond .lt 24, 3), .inl (.iload_n 1, 1), .inl (.aload_n 0, 1), .inl (.getfield 19, 3), .inl (.arraylength, 1), .inl (.if_icmp .ge 15, 3), .inl (.aload_n 0, 1), .inl (.getfield 19, 3), .inl (.iload_n 1, 1), .inl (.dup2, 1), .inl (.iaload, 1), .inl (.iconst 1, 1), .inl (.iload_n 2, 1), .inl (.ishl, 1), .inl (.ior, 1), .inl (.iastore, 1)]),
  (25, [], [.inl (.return_, 1)])]
def k_86 : mCode := [(0, [0], [.inl (.aload_n 0, 1), .inl (.iconst 0, 1), .inl (.iconst 0, 1), .inl (.iconst 0, 1), .inl (.invokestatic 44, 3), .inl (.aload_n 0, 1), .inl (.getfield 28, 3), .inl (.aload_n 0, 1), .inl (.getfield 9, 3), .inl (.if_icmp .gt 7, 3), .inl (.iconst 1, 1), .inl (.goto 4, 3)]),
  (22, [], [.inl (.iconst 0, 1)]),
  (23, [], [.inl (.ireturn, 1)])]
def k_87 : mCode := [(0, [0, 1], [.inl (.iload_n 1, 1), .inl (.ifCond .lt 21, 3), .inl (.iload_n 1, 1), .inl (.aload_n 0, 1), .inl (.getfield 25, 3), .inl (.arraylength, 1), .inl (.if_icmp .ge 12, 3), .inl (.aload_n 0, 1), .inl (.getfield 25, 3), .inl (.iload_n 1, 1), .inl (.iaload, 1), .inl (.goto 4, 3)]),
  (22, [], [.inl (.iconst (-1), 1)]),
  (23, [], [.inl (.ireturn, 1)])]
def k_88 : mCode := [(0, [0, 1, 2, 3], [.inl (.iload_n 3, 1), .inl (.aload_n 0, 1), .inl (.getfield 28, 3), .inl (.if_icmp .ge 7, 3), .inl (.iload_n 1, 1), .inl (.ifCond .ge 4, 3)]),
  (12, [], [.inl (.return_, 1)]),
  (13, [0, 1, 2, 3], [.inl (.iload_n 1, 1), .inl (.aload_n 0, 1), .inl (.getfield 9, 3), .inl (.if_icmp .ge 8, 3), .inl (.iload_n 1, 1), .inl (.iconst 3, 1), .inl (.if_icmp .lt 9, 3)]),
  (26, [0, 3], [.inl (.aload_n 0, 1), .inl (.iload_n 3, 1), .inl (.invokevirtual 48, 3), .inl (.return_, 1)]),
  (32, [0, 1, 2, 3], [.inl (.aload_n 0, 1), .inl (.getfield 19, 3), .inl (.iload_n 1, 1), .inl (.iaload, 1), .inl (.iload_n 2, 1), .inl (.iconst (-1), 1), .inl (.ixor, 1), .inl (.iand, 1), .inl (.istore 4, 2), .inl (.iconst 0, 1), .inl (.istore 5, 2)]),
  (47, [0, 1, 2, 3, 4, 5], [.inl (.iload 5, 2), .inl (.bipush 8, 2), .inl (.if_icmp .ge 62, 3), .inl (.iload 4, 2), .inl (.iload 5, 2), .inl (.ishr, 1), .inl (.iconst 1, 1), .inl (.iand, 1), .inl (.ifCond .eq 46, 3), .inl (.aload_n 0, 1), .inl (.getfield 22, 3), .inl (.iload_n 1, 1), .inl (.iload 5, 2), .inl (.iastore, 1), .inl (.aload_n 0, 1), .inl (.getfield 15, 3), .inl (.iload_n 1, 1), .inl (.iaload, 1), .inl (.iload 5, 2), .inl (.if_icmp .ne 7, 3), .inl (.iconst 0, 1), .inl (.goto 4, 3)]),
  (87, [0, 1, 2, 3, 4, 5], [.inl (.iconst 1, 1)]),
  (88, [0, 1, 2, 3, 4, 5], [.inl (.istore 6, 2), .inl (.aload_n 0, 1), .inl (.iload_n 1, 1), .inl (.iconst 1, 1), .inl (.iadd, 1), .inl (.iload_n 2, 1), .inl (.iconst 1, 1), .inl (.iload 5, 2), .inl (.ishl, 1), .inl (.ior, 1), .inl (.iload_n 3, 1), .inl (.iload 6, 2), .inl (.iadd, 1), .inl (.invokestatic 44, 3)]),
  (107, [0, 1, 2, 3, 4, 5], [.inl (.iinc 5 1, 3), .inl (.goto (-63), 3)]),
  (113, [], [.inl (.return_, 1)])]
def k_89 : mCode := [(0, [0, 1], [.inl (.aload_n 0, 1), .inl (.iload_n 1, 1), .inl (.putfield 28, 3), .inl (.iconst 0, 1), .inl (.istore_n 2, 1)]),
  (7, [0, 2], [.inl (.iload_n 2, 1), .inl (.iconst 3, 1), .inl (.if_icmp .ge 21, 3), .inl (.aload_n 0, 1), .inl (.getfield 25, 3), .inl (.iload_n 2, 1), .inl (.aload_n 0, 1), .inl (.getfield 22, 3), .inl (.iload_n 2, 1), .inl (.iaload, 1), .inl (.iastore, 1), .inl (.iinc 2 1, 3), .inl (.goto (-20), 3)]),
  (30, [], [.inl (.return_, 1)])]
def k_90 : mCode := [(0, [0], [.inl (.aload_n 0, 1), .inl (.getfield 12, 3), .inl (.invokeinterface 32 1, 5), .inl (.aload_n 0, 1), .inl (.iconst 5, 1), .inl (.putfield 25, 3), .inl (.aload_n 0, 1), .inl (.iconst 0, 1), .inl (.putfield 29, 3), .inl (.return_, 1)])]
def k_91 : mCode := [(0, [0, 1], [.inl (.aload_n 0, 1), .inl (.getfield 12, 3), .inl (.invokeinterface 37 1, 5), .inl (.istore_n 2, 1)]),
  (10, [0, 1, 2], [.inl (.iload_n 2, 1), .inl (.ifCond .le 34, 3), .inl (.aload_n 0, 1), .inl (.getfield 12, 3), .inl (.iload_n 2, 1), .inl (.iconst 1, 1), .inl (.isub, 1), .inl (.invokeinterface 41 2, 5), .inl (.checkcast 45, 3), .inl (.getfield 47, 3), .inl (.aload_n 1, 1), .inl (.getfield 47, 3), .inl (.if_icmp .le 9, 3), .inl (.iinc 2 (-1), 3), .inl (.goto (-32), 3)]),
  (45, [0, 1, 2], [.inl (.aload_n 0, 1), .inl (.getfield 12, 3), .inl (.iload_n 2, 1), .inl (.aload_n 1, 1), .inl (.invokeinterface 50 3, 5), .inl (.aload_n 0, 1), .inl (.getfield 12, 3), .inl (.invokeinterface 37 1, 5), .inl (.iconst 4, 1), .inl (.if_icmp .le 14, 3), .inl (.aload_n 0, 1), .inl (.getfield 12, 3), .inl (.iconst 4, 1), .inl (.invokeinterface 54 2, 5), .inl (.pop, 1)]),
  (80, [], [.inl (.return_, 1)])]
def k_92 : mCode := [(0, [0], [.inl (.iconst 0, 1), .inl (.istore_n 1, 1)]),
  (2, [0, 1], [.inl (.iload_n 1, 1), .inl (.aload_n 0, 1), .inl (.getfield 12, 3), .inl (.invokeinterface 37 1, 5), .inl (.if_icmp .ge 25, 3), .inl (.aload_n 0, 1), .inl (.getfield 12, 3), .inl (.iload_n 1, 1), .inl (.invokeinterface 41 2, 5), .inl (.checkcast 45, 3), .inl (.invokevirtual 57, 3), .inl (.iinc 1 1, 3), .inl (.goto (-32), 3)]),
  (37, [], [.inl (.return_, 1)])]
def k_93 : mCode := [(0, [0, 1, 2], [.inl (.iload_n 1, 1), .inl (.ifCond .lt 19, 3), .inl (.iload_n 1, 1), .inl (.aload_n 0, 1), .inl (.getfield 18, 3), .inl (.arraylength, 1), .inl (.if_icmp .ge 10, 3), .inl (.aload_n 0, 1), .inl (.getfield 18, 3), .inl (.iload_n 1, 1), .inl (.iload_n 2, 1), .inl (.iastore, 1)]),
  (20, [], [.inl (.return_, 1)])]
def k_94 : mCode := [(0, [0, 1], [.inl (.iload_n 1, 1), .inl (.ifCond .lt 21, 3), .inl (.iload_n 1, 1), .inl (.aload_n 0, 1), .inl (.getfield 22, 3), .inl (.arraylength, 1), .inl (.if_icmp .ge 12, 3), .inl (.aload_n 0, 1), .inl (.getfield 22, 3), .inl (.iload_n 1, 1), .inl (.iaload, 1), .inl (.goto 4, 3)]),
  (22, [], [.inl (.iconst (-1), 1)]),
  (23, [], [.inl (.ireturn, 1)])]
def k_95 : mCode := [(0, [0, 1, 2], [.inl (.iload_n 1, 1), .inl (.aload_n 0, 1), .inl (.getfield 25, 3), .inl (.if_icmp .lt 19, 3), .inl (.iload_n 1, 1), .inl (.aload_n 0, 1), .inl (.getfield 25, 3), .inl (.if_icmp .ne 15, 3), .inl (.iload_n 2, 1), .inl (.aload_n 0, 1), .inl (.getfield 29, 3), .inl (.if_icmp .ge 7, 3)]),
  (24, [], [.inl (.iconst 1, 1), .inl (.goto 4, 3)]),
  (28, [], [.inl (.iconst 0, 1)]),
  (29, [], [.inl (.ireturn, 1)])]
def k_96 : mCode := [(0, [0, 1, 2], [.inl (.aload_n 0, 1), .inl (.iload_n 1, 1), .inl (.putfield 25, 3), .inl (.aload_n 0, 1), .inl (.iload_n 2, 1), .inl (.putfield 29, 3), .inl (.iconst 0, 1), .inl (.istore_n 3, 1)]),
  (12, [0, 3], [.inl (.iload_n 3, 1), .inl (.iconst 4, 1), .inl (.if_icmp .ge 21, 3), .inl (.aload_n 0, 1), .inl (.getfield 22, 3), .inl (.iload_n 3, 1), .inl (.aload_n 0, 1), .inl (.getfield 18, 3), .inl (.iload_n 3, 1), .inl (.iaload, 1), .inl (.iastore, 1), .inl (.iinc 3 1, 3), .inl (.goto (-20), 3)]),
  (35, [], [.inl (.return_, 1)])]
def k_97 : mCode := [(0, [0], [.inl (.iload_n 0, 1), .inl (.ifCond .lt 12, 3), .inl (.iload_n 0, 1), .inl (.iconst 4, 1), .inl (.if_icmp .ge 7, 3), .inl (.iconst 1, 1), .inl (.goto 4, 3)]),
  (13, [], [.inl (.iconst 0, 1)]),
  (14, [], [.inl (.ireturn, 1)])]
def k_98 : mCode := [(0, [0, 1], [.inl (.iload_n 1, 1), .inl (.invokestatic 44, 3), .inl (.ifCond .eq 12, 3), .inl (.aload_n 0, 1), .inl (.getfield 25, 3), .inl (.iload_n 1, 1), .inl (.iaload, 1), .inl (.goto 4, 3)]),
  (16, [], [.inl (.iconst (-1), 1)]),
  (17, [], [.inl (.ireturn, 1)])]
def k_99 : mCode := [(0, [0, 1, 2, 3], [.inl (.iload_n 1, 1), .inl (.invokestatic 44, 3), .inl (.ifCond .eq 17, 3), .inl (.aload_n 0, 1), .inl (.getfield 21, 3), .inl (.iload_n 1, 1), .inl (.iload_n 2, 1), .inl (.iastore, 1), .inl (.aload_n 0, 1), .inl (.getfield 25, 3), .inl (.iload_n 1, 1), .inl (.iload_n 3, 1), .inl (.iastore, 1)]),
  (21, [], [.inl (.return_, 1)])]
def k_100 : mCode := [(0, [0, 1, 2], [.inl (.iload_n 1, 1), .inl (.invokestatic 44, 3), .inl (.ifCond .eq 13, 3), .inl (.aload_n 0, 1), .inl (.getfield 25, 3), .inl (.iload_n 1, 1), .inl (.dup2, 1), .inl (.iaload, 1), .inl (.iload_n 2, 1), .inl (.iadd, 1), .inl (.iastore, 1)]),
  (17, [], [.inl (.return_, 1)])]
def k_101 : mCode := [(0, [0, 1, 2, 3], [.inl (.iload_n 1, 1), .inl (.invokestatic 44, 3), .inl (.ifCond .eq 37, 3), .inl (.aload_n 0, 1), .inl (.getfield 25, 3), .inl (.iload_n 1, 1), .inl (.iaload, 1), .inl (.iconst (-1), 1), .inl (.if_icmp .eq 27, 3), .inl (.aload_n 0, 1), .inl (.getfield 21, 3), .inl (.iload_n 1, 1), .inl (.iaload, 1), .inl (.iload_n 2, 1), .inl (.if_icmp .gt 17, 3), .inl (.aload_n 0, 1), .inl (.getfield 25, 3), .inl (.iload_n 1, 1), .inl (.iaload, 1), .inl (.iload_n 3, 1), .inl (.if_icmp .lt 7, 3), .inl (.iconst 1, 1), .inl (.goto 4, 3)]),
  (41, [], [.inl (.iconst 0, 1)]),
  (42, [], [.inl (.ireturn, 1)])]
def k_102 : mCode := [(0, [0], [.inl (.aload_n 0, 1), .inl (.getfield 32, 3), .inl (.iconst (-1), 1), .inl (.if_icmp .eq 7, 3), .inl (.iconst 1, 1), .inl (.goto 4, 3)]),
  (12, [], [.inl (.iconst 0, 1)]),
  (13, [], [.inl (.ireturn, 1)])]
def k_103 : mCode := [(0, [0, 1, 2, 3], [.inl (.aload_n 0, 1), .inl (.iload_n 1, 1), .inl (.putfield 28, 3), .inl (.aload_n 0, 1), .inl (.iload_n 3, 1), .inl (.putfield 32, 3), .inl (.aload_n 0, 1), .inl (.getfield 18, 3), .inl (.iload_n 2, 1), .inl (.iload_n 3, 1), .inl (.invokevirtual 48, 3), .inl (.return_, 1)])]
def k_104 : mCode := [(0, [0, 1], [.inl (.aload_n 0, 1), .inl (.iconst (-1), 1), .inl (.putfield 32, 3), .inl (.aload_n 0, 1), .inl (.getfield 18, 3), .inl (.iload_n 1, 1), .inl (.invokevirtual 52, 3), .inl (.return_, 1)])]
def k_105 : mCode := [(0, [0, 1], [.inl (.aload_n 0, 1), .inl (.invokevirtual 56, 3), .inl (.ifCond .eq 11, 3), .inl (.aload_n 0, 1), .inl (.getfield 32, 3), .inl (.iload_n 1, 1), .inl (.if_icmp .eq 4, 3)]),
  (15, [], [.inl (.return_, 1)]),
  (16, [0, 1], [.inl (.aload_n 0, 1), .inl (.iconst (-1), 1), .inl (.putfield 32, 3), .inl (.aload_n 0, 1), .inl (.aload_n 0, 1), .inl (.getfield 28, 3), .inl (.invokevirtual 60, 3), .inl (.iload_n 1, 1), .inl (.if_icmp .lt 16, 3), .inl (.aload_n 0, 1), .inl (.aload_n 0, 1), .inl (.getfield 28, 3), .inl (.bipush 30, 2), .inl (.invokevirtual 64, 3), .inl (.goto 18, 3)]),
  (46, [0, 1], [.inl (.aload_n 0, 1), .inl (.aload_n 0, 1), .inl (.getfield 28, 3), .inl (.iload_n 1, 1), .inl (.iconst 1, 1), .inl (.iadd, 1), .inl (.iload_n 1, 1), .inl (.bipush 30, 2), .inl (.iadd, 1), .inl (.invokevirtual 67, 3)]),
  (61, [], [.inl (.return_, 1)])]
def k_106 : mCode := [(0, [0, 1, 2], [.inl (.iload_n 1, 1), .inl (.iconst 0, 1), .inl (.invokestatic 71, 3), .inl (.istore_n 3, 1)]),
  (6, [0, 2, 3], [.inl (.iload_n 3, 1), .inl (.iload_n 2, 1), .inl (.if_icmp .ge 38, 3), .inl (.iload_n 3, 1), .inl (.aload_n 0, 1), .inl (.getfield 35, 3), .inl (.arraylength, 1), .inl (.if_icmp .ge 29, 3), .inl (.aload_n 0, 1), .inl (.getfield 35, 3), .inl (.iload_n 3, 1), .inl (.dup2, 1), .inl (.iaload, 1), .inl (.iconst 1, 1), .inl (.iadd, 1), .inl (.iastore, 1), .inl (.aload_n 0, 1), .inl (.dup, 1), .inl (.getfield 38, 3), .inl (.iconst 1, 1), .inl (.iadd, 1), .inl (.putfield 38, 3), .inl (.iinc 3 1, 3), .inl (.goto (-37), 3)]),
  (46, [], [.inl (.return_, 1)])]
def k_107 : mCode := [(0, [0, 1, 2], [.inl (.iload_n 1, 1), .inl (.iconst 0, 1), .inl (.invokestatic 71, 3), .inl (.istore_n 3, 1)]),
  (6, [0, 2, 3], [.inl (.iload_n 3, 1), .inl (.iload_n 2, 1), .inl (.if_icmp .ge 38, 3), .inl (.iload_n 3, 1), .inl (.aload_n 0, 1), .inl (.getfield 35, 3), .inl (.arraylength, 1), .inl (.if_icmp .ge 29, 3), .inl (.aload_n 0, 1), .inl (.getfield 35, 3), .inl (.iload_n 3, 1), .inl (.dup2, 1), .inl (.iaload, 1), .inl (.iconst 1, 1), .inl (.isub, 1), .inl (.iastore, 1), .inl (.aload_n 0, 1), .inl (.dup, 1), .inl (.getfield 38, 3), .inl (.iconst 1, 1), .inl (.isub, 1), .inl (.putfield 38, 3), .inl (.iinc 3 1, 3), .inl (.goto (-37), 3)]),
  (46, [], [.inl (.return_, 1)])]
def k_108 : mCode := [(0, [0, 1], [.inl (.iload_n 1, 1), .inl (.ifCond .lt 25, 3), .inl (.iload_n 1, 1), .inl (.aload_n 0, 1), .inl (.getfield 35, 3), .inl (.arraylength, 1), .inl (.if_icmp .ge 16, 3), .inl (.aload_n 0, 1), .inl (.getfield 35, 3), .inl (.iload_n 1, 1), .inl (.iaload, 1), .inl (.ifCond .le 7, 3), .inl (.iconst 1, 1), .inl (.goto 4, 3)]),
  (26, [], [.inl (.iconst 0, 1)]),
  (27, [], [.inl (.ireturn, 1)])]
def k_109 : mCode := [(0, [0, 1, 2], [.inl (.iconst 0, 1), .inl (.istore_n 3, 1), .inl (.iload_n 1, 1), .inl (.istore 4, 2)]),
  (5, [0, 2, 3, 4], [.inl (.iload 4, 2), .inl (.iload_n 2, 1), .inl (.if_icmp .ge 21, 3), .inl (.aload_n 0, 1), .inl (.iload 4, 2), .inl (.invokevirtual 77, 3), .inl (.ifCond .eq 6, 3), .inl (.iinc 3 1, 3)]),
  (23, [0, 2, 3, 4], [.inl (.iinc 4 1, 3), .inl (.goto (-21), 3)]),
  (29, [3], [.inl (.iload_n 3, 1), .inl (.ireturn, 1)])]
def k_110 : mCode := [(0, [0, 1, 2, 3], [.inl (.iload_n 1, 1), .inl (.iconst 0, 1), .inl (.invokestatic 71, 3), .inl (.istore 4, 2)]),
  (7, [0, 2, 3, 4], [.inl (.iload 4, 2), .inl (.iload_n 2, 1), .inl (.if_icmp .ge 32, 3), .inl (.iload 4, 2), .inl (.aload_n 0, 1), .inl (.getfield 35, 3), .inl (.arraylength, 1), .inl (.if_icmp .ge 22, 3), .inl (.aload_n 0, 1), .inl (.getfield 35, 3), .inl (.iload 4, 2), .inl (.iaload, 1), .inl (.iload_n 3, 1), .inl (.if_icmp .le 5, 3), .inl (.iconst 1, 1), .inl (.ireturn, 1)]),
  (36, [0, 2, 3, 4], [.inl (.iinc 4 1, 3), .inl (.goto (-32), 3)]),
  (42, [], [.inl (.iconst 0, 1), .inl (.ireturn, 1)])]
def k_111 : mCode := [(0, [0, 1, 2, 3, 4], [.inl (.aload_n 0, 1), .inl (.getfield 38, 3), .inl (.iload_n 2, 1), .inl (.iload_n 1, 1), .inl (.isub, 1), .inl (.iadd, 1), .inl (.iload 4, 2), .inl (.if_icmp .gt 5, 3), .inl (.iconst 0, 1), .inl (.ireturn, 1)]),
  (15, [0, 1, 2, 3, 4], [.inl (.iconst 0, 1), .inl (.istore 5, 2), .inl (.iload_n 1, 1), .inl (.iload_n 3, 1), .inl (.isub, 1), .inl (.iconst 1, 1), .inl (.iadd, 1), .inl (.istore 6, 2)]),
  (25, [0, 1, 2, 3, 4, 5, 6], [.inl (.iload 6, 2), .inl (.iload_n 2, 1), .inl (.iload_n 3, 1), .inl (.iadd, 1), .inl (.iconst 1, 1), .inl (.isub, 1), .inl (.if_icmp .ge 80, 3), .inl (.iload 6, 2), .inl (.iload_n 1, 1), .inl (.if_icmp .lt 9, 3), .inl (.iload 6, 2), .inl (.iload_n 2, 1), .inl (.if_icmp .lt 12, 3)]),
  (47, [0, 1, 2, 3, 4, 5, 6], [.inl (.aload_n 0, 1), .inl (.iload 6, 2), .inl (.invokevirtual 77, 3), .inl (.ifCond .eq 6, 3)]),
  (56, [0, 1, 2, 3, 4, 5, 6], [.inl (.iinc 5 1, 3)]),
  (59, [0, 1, 2, 3, 4, 5, 6], [.inl (.iload 6, 2), .inl (.iload_n 3, 1), .inl (.isub, 1), .inl (.istore 7, 2), .inl (.iload 7, 2), .inl (.iload_n 1, 1), .inl (.iload_n 3, 1), .inl (.isub, 1), .inl (.if_icmp .le 27, 3), .inl (.iload 7, 2), .inl (.iload_n 1, 1), .inl (.if_icmp .lt 9, 3), .inl (.iload 7, 2), .inl (.iload_n 2, 1), .inl (.if_icmp .lt 12, 3)]),
  (85, [0, 1, 2, 3, 4, 5, 6, 7], [.inl (.aload_n 0, 1), .inl (.iload 7, 2), .inl (.invokevirtual 77, 3), .inl (.ifCond .eq 6, 3)]),
  (94, [0, 1, 2, 3, 4, 5, 6], [.inl (.iinc 5 (-1), 3)]),
  (97, [0, 1, 2, 3, 4, 5, 6], [.inl (.iload 5, 2), .inl (.iload 4, 2), .inl (.if_icmp .le 5, 3), .inl (.iconst 1, 1), .inl (.ireturn, 1)]),
  (106, [0, 1, 2, 3, 4, 5, 6], [.inl (.iinc 6 1, 3), .inl (.goto (-84), 3)]),
  (112, [], [.inl (.iconst 0, 1), .inl (.ireturn, 1)])]
def k_112 : mCode := [(0, [0, 1], [.inl (.iconst 0, 1), .inl (.istore_n 2, 1), .inl (.iconst 0, 1), .inl (.istore_n 3, 1), .inl (.iconst 0, 1), .inl (.istore 4, 2)]),
  (7, [0, 1, 2, 3, 4], [.inl (.iload 4, 2), .inl (.aload_n 0, 1), .inl (.getfield 35, 3), .inl (.arraylength, 1), .inl (.if_icmp .ge 41, 3), .inl (.aload_n 0, 1), .inl (.iload 4, 2), .inl (.invokevirtual 77, 3), .inl (.ifCond .eq 6, 3), .inl (.iinc 2 1, 3)]),
  (29, [0, 1, 2, 3, 4], [.inl (.aload_n 0, 1), .inl (.iload 4, 2), .inl (.iload_n 1, 1), .inl (.isub, 1), .inl (.invokevirtual 77, 3), .inl (.ifCond .eq 6, 3), .inl (.iinc 2 (-1), 3)]),
  (43, [0, 1, 2, 3, 4], [.inl (.iload_n 3, 1), .inl (.iload_n 2, 1), .inl (.invokestatic 71, 3), .inl (.istore_n 3, 1), .inl (.iinc 4 1, 3), .inl (.goto (-45), 3)]),
  (55, [3], [.inl (.iload_n 3, 1), .inl (.ireturn, 1)])]
def k_113 : mCode := [(0, [0, 1], [.inl (.iload_n 1, 1), .inl (.iconst 1, 1), .inl (.if_icmp .lt 9, 3), .inl (.iload_n 1, 1), .inl (.bipush 48, 2), .inl (.if_icmp .le 13, 3)]),
  (11, [], [.inr (0, 46, 48, 50, [])]),
  (21, [0, 1], [.inl (.aload_n 0, 1), .inl (.getfield 36, 3), .inl (.iload_n 1, 1), .inl (.iadd, 1), .inl (.sipush 999, 3), .inl (.if_icmp .le 13, 3), .inr (0, 53, 55, 57, [])]),
  (43, [0, 1], [.inl (.iconst 0, 1), .inl (.istore_n 2, 1), .inl (.iconst 0, 1), .inl (.istore_n 3, 1)]),
  (47, [0, 1, 2, 3], [.inl (.iload_n 3, 1), .inl (.iload_n 1, 1), .inl (.if_icmp .ge 16, 3), .inl (.iload_n 2, 1), .inl (.aload_n 0, 1), .inl (.invokevirtual 58, 3), .inl (.iadd, 1), .inl (.istore_n 2, 1), .inl (.iinc 3 1, 3), .inl (.goto (-15), 3)]),
  (65, [2], [.inl (.iload_n 2, 1), .inl (.ireturn, 1)])]
def k_114 : mCode := [(0, [0], [.inl (.aload_n 0, 1), .inl (.getfield 36, 3), .inl (.ireturn, 1)])]
def k_115 : mCode := [(0, [0, 1], [.inl (.iload_n 1, 1), .inl (.iconst 1, 1), .inl (.if_icmp .lt 9, 3), .inl (.iload_n 1, 1), .inl (.bipush 24, 2), .inl (.if_icmp .le 13, 3)]),
  (11, [], [.inr (0, 46, 62, 50, [])]),
  (21, [0, 1], [.inl (.aload_n 0, 1), .inl (.getfield 40, 3), .inl (.istore_n 2, 1), .inl (.aload_n 0, 1), .inl (.iload_n 1, 1), .inl (.putfield 40, 3), .inl (.iload_n 2, 1), .inl (.ireturn, 1)])]
def k_116 : mCode := [(0, [0, 1], [.inl (.iload_n 1, 1), .inl (.iconst 1, 1), .inl (.if_icmp .lt 10, 3), .inl (.iload_n 1, 1), .inl (.sipush 168, 3), .inl (.if_icmp .le 13, 3)]),
  (12, [], [.inr (0, 46, 64, 50, [])]),
  (22, [0, 1], [.inl (.aload_n 0, 1), .inl (.getfield 43, 3), .inl (.istore_n 2, 1), .inl (.aload_n 0, 1), .inl (.iload_n 1, 1), .inl (.putfield 43, 3), .inl (.iload_n 2, 1), .inl (.ireturn, 1)])]
def k_117 : mCode := [(0, [0], [.inl (.aload_n 0, 1), .inl (.getfield 36, 3), .inl (.bipush 24, 2), .inl (.idiv, 1), .inl (.ireturn, 1)])]
def k_118 : mCode := [(0, [0], [.inl (.aload_n 0, 1), .inl (.dup, 1), .inl (.getfield 36, 3), .inl (.iconst 1, 1), .inl (.iadd, 1), .inl (.putfield 36, 3), .inl (.aload_n 0, 1), .inl (.getfield 36, 3), .inl (.bipush 24, 2), .inl (.irem, 1), .inl (.ifCond .ne 13, 3), .inl (.aload_n 0, 1), .inl (.aload_n 0, 1), .inl (.invokevirtual 66, 3), .inl (.iconst 1, 1), .inl (.isub, 1), .inl (.invokevirtual 69, 3)]),
  (30, [0], [.inl (.iconst 0, 1), .inl (.istore_n 1, 1), .inl (.iconst 0, 1), .inl (.istore_n 2, 1)]),
  (34, [0, 1, 2], [.inl (.iload_n 2, 1), .inl (.aload_n 0, 1), .inl (.getfield 19, 3), .inl (.invokeinterface 73 1, 5), .inl (.if_icmp .ge 66, 3), .inl (.aload_n 0, 1), .inl (.getfield 19, 3), .inl (.iload_n 2, 1), .inl (.invokeinterface 78 2, 5), .inl (.checkcast 82, 3), .inl (.astore_n 3, 1), .inl (.aload_n 3, 1), .inl (.invokevirtual 84, 3), .inl (.ifCond .eq 39, 3), .inl (.aload_n 3, 1), .inl (.getfield 88, 3), .inl (.aload_n 0, 1), .inl (.getfield 36, 3), .inl (.if_icmp .ne 28, 3), .inl (.aload_n 0, 1), .inl (.aload_n 3, 1), .inl (.invokevirtual 91, 3), .inl (.ifCond .eq 12, 3), .inl (.aload_n 3, 1), .inl (.bipush 115, 2), .inl (.putfield 95, 3), .inl (.goto 11, 3)]),
  (96, [0, 1, 2, 3], [.inl (.aload_n 0, 1), .inl (.aload_n 3, 1), .inl (.invokevirtual 99, 3), .inl (.iinc 1 1, 3)]),
  (104, [0, 1, 2], [.inl (.iinc 2 1, 3), .inl (.goto (-73), 3)]),
  (110, [1], [.inl (.iload_n 1, 1), .inl (.ireturn, 1)])]
def k_119 : mCode := [(0, [0, 1], [.inl (.iconst 0, 1), .inl (.istore_n 2, 1)]),
  (2, [0, 1, 2], [.inl (.iload_n 2, 1), .inl (.aload_n 0, 1), .inl (.getfield 10, 3), .inl (.invokeinterface 73 1, 5), .inl (.if_icmp .ge 26, 3), .inl (.aload_n 0, 1), .inl (.getfield 10, 3), .inl (.iload_n 2, 1), .inl (.invokeinterface 78 2, 5), .inl (.checkcast 103, 3), .inl (.iload_n 1, 1), .inl (.invokevirtual 105, 3), .inl (.iinc 2 1, 3), .inl (.goto (-33), 3)]),
  (38, [], [.inl (.return_, 1)])]
def k_120 : mCode := [(0, [0], [.inl (.aload_n 0, 1), .inl (.getfield 10, 3), .inl (.invokeinterface 73 1, 5), .inl (.istore_n 1, 1), .inl (.iload_n 1, 1), .inl (.bipush 8, 2), .inl (.if_icmp .lt 13, 3), .inr (0, 53, 108, 57, [])]),
  (26, [0, 1], [.inl (.aload_n 0, 1), .inl (.getfield 10, 3), .inr (2, 103, 0, 110, [(.iload_n 1, 1)]), .inl (.invokeinterface 112 2, 5), .inl (.pop, 1), .inl (.iload_n 1, 1), .inl (.ireturn, 1)])]
def k_121 : mCode := [(0, [0, 1, 2, 3], [.inl (.aload_n 0, 1), .inl (.iload_n 1, 1), .inl (.invokevirtual 116, 3), .inl (.astore 4, 2), .inl (.iload_n 2, 1), .inl (.invokestatic 120, 3), .inl (.iload_n 3, 1), .inl (.invokestatic 123, 3), .inl (.aload 4, 2), .inl (.iload_n 2, 1), .inl (.invokevirtual 126, 3), .inl (.aload_n 0, 1), .inl (.invokevirtual 66, 3), .inl (.if_icmp .lt 13, 3), .inr (0, 53, 130, 57, [])]),
  (38, [0, 2, 3, 4], [.inl (.aload_n 0, 1), .inl (.invokevirtual 66, 3), .inl (.iload_n 3, 1), .inl (.iadd, 1), .inl (.iconst 1, 1), .inl (.isub, 1), .inl (.istore 5, 2), .inl (.aload 4, 2), .inl (.iload_n 2, 1), .inl (.aload_n 0, 1), .inl (.invokevirtual 66, 3), .inl (.iload 5, 2), .inl (.invokevirtual 132, 3), .inl (.iload 5, 2), .inl (.ireturn, 1)])]
def k_122 : mCode := [(0, [0, 1, 2, 3], [.inl (.aload_n 0, 1), .inl (.iload_n 1, 1), .inl (.invokevirtual 116, 3), .inl (.astore 4, 2), .inl (.iload_n 2, 1), .inl (.invokestatic 120, 3), .inl (.iload_n 3, 1), .inl (.invokestatic 123, 3), .inl (.aload 4, 2), .inl (.iload_n 2, 1), .inl (.invokestatic 136, 3), .inl (.istore 5, 2), .inl (.aload_n 0, 1), .inl (.invokevirtual 66, 3), .inl (.iload 5, 2), .inl (.if_icmp .gt 15, 3), .inl (.aload_n 0, 1), .inl (.invokevirtual 66, 3), .inl (.iload 5, 2), .inl (.bipush 9, 2), .inl (.isub, 1), .inl (.if_icmp .ge 13, 3)]),
  (44, [], [.inr (0, 53, 140, 57, [])]),
  (54, [2, 3, 4, 5], [.inl (.aload 4, 2), .inl (.iload_n 2, 1), .inl (.iload_n 3, 1), .inl (.invokevirtual 142, 3), .inl (.iload 5, 2), .inl (.iload_n 3, 1), .inl (.iadd, 1), .inl (.ireturn, 1)])]
def k_123 : mCode := [(0, [0, 1, 2], [.inl (.aload_n 0, 1), .inl (.iload_n 1, 1), .inl (.invokevirtual 116, 3), .inl (.astore_n 3, 1), .inl (.iload_n 2, 1), .inl (.invokestatic 120, 3), .inl (.aload_n 3, 1), .inl (.iload_n 2, 1), .inl (.invokestatic 136, 3), .inl (.ireturn, 1)])]
def k_124 : mCode := [(0, [0, 1, 2], [.inl (.aload_n 0, 1), .inl (.iload_n 1, 1), .inl (.invokevirtual 116, 3), .inl (.astore_n 3, 1), .inl (.iload_n 2, 1), .inl (.iconst 1, 1), .inl (.if_icmp .lt 9, 3), .inl (.iload_n 2, 1), .inl (.bipush 20, 2), .inl (.if_icmp .le 13, 3)]),
  (17, [], [.inr (0, 46, 146, 50, [])]),
  (27, [0, 1, 2, 3], [.inl (.aload_n 0, 1), .inl (.invokevirtual 66, 3), .inl (.iload_n 2, 1), .inl (.iadd, 1), .inl (.iconst 1, 1), .inl (.isub, 1), .inl (.istore 4, 2), .inl (.aload_n 3, 1), .inl (.getfield 148, 3), .inl (.aload_n 0, 1), .inl (.invokevirtual 66, 3), .inl (.iload 4, 2), .inl (.invokevirtual 152, 3), .inl (.iconst 0, 1), .inl (.istore 5, 2), .inl (.iconst 0, 1), .inl (.istore 6, 2)]),
  (56, [0, 1, 4, 5, 6], [.inl (.iload 6, 2), .inl (.aload_n 0, 1), .inl (.getfield 19, 3), .inl (.invokeinterface 73 1, 5), .inl (.if_icmp .ge 67, 3), .inl (.aload_n 0, 1), .inl (.getfield 19, 3), .inl (.iload 6, 2), .inl (.invokeinterface 78 2, 5), .inl (.checkcast 82, 3), .inl (.astore 7, 2), .inl (.aload 7, 2), .inl (.invokevirtual 84, 3), .inl (.ifCond .eq 37, 3), .inl (.aload 7, 2), .inl (.iload_n 1, 1), .inl (.invokevirtual 156, 3), .inl (.ifCond .eq 28, 3), .inl (.aload 7, 2), .inl (.invokevirtual 160, 3), .inl (.iload 4, 2), .inl (.if_icmp .gt 18, 3), .inl (.aload 7, 2), .inl (.invokevirtual 163, 3), .inl (.aload_n 0, 1), .inl (.invokevirtual 66, 3), .inl (.if_icmp .lt 6, 3), .inl (.iinc 5 1, 3)]),
  (128, [0, 1, 4, 5, 6], [.inl (.iinc 6 1, 3), .inl (.goto (-75), 3)]),
  (134, [5], [.inl (.iload 5, 2), .inl (.ireturn, 1)])]
def k_125 : mCode := [(0, [0, 1], [.inl (.aload_n 0, 1), .inl (.iload_n 1, 1), .inl (.invokevirtual 116, 3), .inl (.astore_n 2, 1), .inl (.aload_n 2, 1), .inl (.getfield 148, 3), .inl (.aload_n 0, 1), .inl (.invokevirtual 66, 3), .inl (.invokevirtual 166, 3), .inl (.istore_n 3, 1), .inl (.iload_n 3, 1), .inl (.ifCond .ne 13, 3), .inr (0, 53, 169, 57, [])]),
  (32, [0, 2, 3], [.inl (.aload_n 2, 1), .inl (.getfield 148, 3), .inl (.aload_n 0, 1), .inl (.invokevirtual 66, 3), .inl (.invokevirtual 171, 3), .inl (.iload_n 3, 1), .inl (.ireturn, 1)])]
def k_126 : mCode := [(0, [0, 1, 2, 3, 4], [.inl (.aload_n 0, 1), .inl (.iload_n 1, 1), .inl (.invokevirtual 116, 3), .inl (.astore 5, 2), .inl (.iload_n 2, 1), .inl (.invokestatic 120, 3), .inl (.iload_n 3, 1), .inl (.aload_n 0, 1), .inl (.invokevirtual 66, 3), .inl (.if_icmp .le 9, 3), .inl (.iload_n 3, 1), .inl (.bipush 41, 2), .inl (.if_icmp .le 13, 3)]),
  (25, [], [.inr (0, 46, 174, 50, [])]),
  (35, [2, 3, 4, 5], [.inl (.iload 4, 2), .inl (.iconst 1, 1), .inl (.if_icmp .lt 10, 3), .inl (.iload 4, 2), .inl (.bipush 10, 2), .inl (.if_icmp .le 13, 3)]),
  (48, [], [.inr (0, 46, 176, 50, [])]),
  (58, [2, 3, 4, 5], [.inl (.iload_n 3, 1), .inl (.iload 4, 2), .inl (.iadd, 1), .inl (.iconst 1, 1), .inl (.isub, 1), .inl (.istore 6, 2), .inl (.iload 6, 2), .inl (.bipush 41, 2), .inl (.if_icmp .le 13, 3), .inr (0, 46, 178, 50, [])]),
  (83, [2, 3, 5, 6], [.inl (.aload 5, 2), .inl (.invokevirtual 180, 3), .inl (.ifCond .eq 13, 3), .inr (0, 53, 183, 57, [])]),
  (101, [2, 3, 5, 6], [.inl (.aload 5, 2), .inl (.iload_n 2, 1), .inl (.iload_n 3, 1), .inl (.iload 6, 2), .inl (.invokevirtual 185, 3), .inl (.iload 6, 2), .inl (.ireturn, 1)])]
def k_127 : mCode := [(0, [0, 1], [.inl (.aload_n 0, 1), .inl (.iload_n 1, 1), .inl (.invokevirtual 116, 3), .inl (.astore_n 2, 1), .inl (.aload_n 2, 1), .inl (.invokevirtual 180, 3), .inl (.ifCond .ne 13, 3), .inr (0, 53, 188, 57, [])]),
  (23, [0, 2], [.inl (.aload_n 2, 1), .inl (.getfield 190, 3), .inl (.aload_n 0, 1), .inl (.invokevirtual 66, 3), .inl (.invokevirtual 166, 3), .inl (.istore_n 3, 1), .inl (.aload_n 2, 1), .inl (.aload_n 0, 1), .inl (.invokevirtual 66, 3), .inl (.invokevirtual 193, 3), .inl (.iload_n 3, 1), .inl (.ireturn, 1)])]
def k_128 : mCode := [(0, [0, 1, 2], [.inl (.aload_n 0, 1), .inl (.iload_n 1, 1), .inl (.invokevirtual 116, 3), .inl (.astore_n 3, 1), .inl (.iload_n 2, 1), .inl (.ifCond .lt 9, 3), .inl (.iload_n 2, 1), .inl (.bipush 41, 2), .inl (.if_icmp .le 13, 3)]),
  (16, [], [.inr (0, 46, 196, 50, [])]),
  (26, [2, 3], [.inl (.aload_n 3, 1), .inl (.getfield 148, 3), .inl (.iload_n 2, 1), .inl (.invokevirtual 198, 3), .inl (.ifCond .ne 14, 3), .inl (.aload_n 3, 1), .inl (.getfield 190, 3), .inl (.iload_n 2, 1), .inl (.invokevirtual 198, 3), .inl (.ifCond .eq 7, 3)]),
  (48, [], [.inl (.iconst 1, 1), .inl (.goto 4, 3)]),
  (52, [], [.inl (.iconst 0, 1)]),
  (53, [], [.inl (.ireturn, 1)])]
def k_129 : mCode := [(0, [0, 1], [.inl (.iload_n 1, 1), .inl (.ifCond .lt 20, 3), .inl (.iload_n 1, 1), .inl (.aload_n 0, 1), .inl (.getfield 10, 3), .inl (.invokeinterface 73 1, 5), .inl (.if_icmp .ge 7, 3), .inl (.iconst 1, 1), .inl (.goto 4, 3)]),
  (21, [], [.inl (.iconst 0, 1)]),
  (22, [], [.inl (.ireturn, 1)])]
def k_130 : mCode := [(0, [0, 1], [.inl (.aload_n 0, 1), .inl (.iload_n 1, 1), .inl (.invokevirtual 199, 3), .inl (.ifCond .ne 13, 3), .inr (0, 202, 204, 206, [])]),
  (18, [0, 1], [.inl (.aload_n 0, 1), .inl (.getfield 10, 3), .inl (.iload_n 1, 1), .inl (.invokeinterface 78 2, 5), .inl (.checkcast 103, 3), .inl (.areturn, 1)])]
def k_131 : mCode := [(0, [0], [.inl (.iload_n 0, 1), .inl (.ifCond .lt 8, 3), .inl (.iload_n 0, 1), .inl (.iconst 4, 1), .inl (.if_icmp .lt 13, 3)]),
  (9, [], [.inr (0, 46, 207, 50, [])]),
  (19, [], [.inl (.return_, 1)])]
def k_132 : mCode := [(0, [0], [.inl (.iload_n 0, 1), .inl (.iconst 1, 1), .inl (.if_icmp .lt 9, 3), .inl (.iload_n 0, 1), .inl (.bipush 60, 2), .inl (.if_icmp .le 13, 3)]),
  (11, [], [.inr (0, 46, 209, 50, [])]),
  (21, [], [.inl (.return_, 1)])]
def k_133 : mCode := [(0, [0, 1], [.inl (.aload_n 0, 1), .inl (.iload_n 1, 1), .inl (.invokevirtual 126, 3), .inl (.istore_n 2, 1), .inl (.iload_n 2, 1), .inl (.iconst (-1), 1), .inl (.if_icmp .ne 13, 3), .inr (0, 211, 213, 215, [])]),
  (21, [2], [.inl (.iload_n 2, 1), .inl (.ireturn, 1)])]
def k_134 : mCode := [(0, [0, 1], [.inl (.iload_n 1, 1), .inl (.invokestatic 120, 3), .inl (.aload_n 0, 1), .inl (.getfield 16, 3), .inl (.invokeinterface 73 1, 5), .inl (.istore_n 2, 1), .inl (.iload_n 2, 1), .inl (.iconst 4, 1), .inl (.if_icmp .lt 13, 3), .inr (0, 53, 216, 57, [])]),
  (29, [0, 1, 2], [.inl (.aload_n 0, 1), .inl (.getfield 16, 3), .inr (2, 218, 0, 220, [(.iload_n 1, 1)]), .inl (.invokeinterface 112 2, 5), .inl (.pop, 1), .inl (.iload_n 2, 1), .inl (.ireturn, 1)])]
def k_135 : mCode := [(0, [0, 1, 2], [.inl (.aload_n 0, 1), .inl (.iload_n 1, 1), .inl (.invokevirtual 221, 3), .inl (.astore_n 3, 1), .inl (.iload_n 2, 1), .inl (.invokestatic 120, 3), .inl (.aload_n 3, 1), .inl (.getfield 225, 3), .inl (.iconst 3, 1), .inl (.if_icmp .ge 10, 3), .inl (.aload_n 3, 1), .inl (.getfield 228, 3), .inl (.ifCond .eq 13, 3)]),
  (25, [], [.inr (0, 53, 232, 57, [])]),
  (35, [2, 3], [.inl (.aload_n 3, 1), .inl (.iload_n 2, 1), .inl (.invokevirtual 234, 3), .inl (.aload_n 3, 1), .inl (.getfield 225, 3), .inl (.ireturn, 1)])]
def k_136 : mCode := [(0, [0, 1, 2, 3], [.inl (.aload_n 0, 1), .inl (.iload_n 1, 1), .inl (.invokevirtual 221, 3), .inl (.astore 4, 2), .inl (.iload_n 2, 1), .inl (.aload_n 0, 1), .inl (.getfield 36, 3), .inl (.if_icmp .le 10, 3), .inl (.iload_n 2, 1), .inl (.sipush 999, 3), .inl (.if_icmp .le 13, 3)]),
  (22, [], [.inr (0, 46, 237, 50, [])]),
  (32, [0, 2, 3, 4], [.inl (.iload_n 3, 1), .inl (.invokestatic 239, 3), .inl (.iload_n 2, 1), .inl (.iload_n 3, 1), .inl (.iadd, 1), .inl (.istore 5, 2), .inl (.iload 5, 2), .inl (.sipush 999, 3), .inl (.if_icmp .le 13, 3), .inr (0, 46, 242, 50, [])]),
  (59, [0, 2, 4, 5], [.inl (.aload_n 0, 1), .inl (.getfield 19, 3), .inl (.invokeinterface 73 1, 5), .inl (.istore 6, 2), .inl (.iload 6, 2), .inl (.bipush 24, 2), .inl (.if_icmp .ge 15, 3), .inl (.aload_n 0, 1), .inl (.aload 4, 2), .inl (.iload_n 2, 1), .inl (.iload 5, 2), .inl (.invokevirtual 244, 3), .inl (.ifCond .eq 13, 3)]),
  (89, [], [.inr (0, 53, 248, 57, [])]),
  (99, [0, 2, 4, 5, 6], [.inl (.aload_n 0, 1), .inl (.getfield 19, 3), .inr (2, 82, 0, 250, [(.aload 4, 2), (.iload_n 2, 1), (.iload 5, 2)]), .inl (.invokeinterface 112 2, 5), .inl (.pop, 1), .inl (.aload 4, 2), .inl (.iconst 1, 1), .inl (.putfield 228, 3), .inl (.iload 6, 2), .inl (.ireturn, 1)])]
def k_137 : mCode := [(0, [0, 1, 2, 3], [.inl (.aload_n 0, 1), .inl (.iload_n 1, 1), .inl (.invokevirtual 253, 3), .inl (.astore 4, 2), .inl (.aload 4, 2), .inl (.iload_n 2, 1), .inl (.invokestatic 257, 3), .inl (.aload_n 0, 1), .inl (.iload_n 3, 1), .inl (.invokevirtual 116, 3), .inl (.astore 5, 2), .inl (.aload 4, 2), .inl (.invokestatic 261, 3), .inl (.aload 4, 2), .inl (.iload_n 3, 1), .inl (.invokevirtual 156, 3), .inl (.ifCond .eq 14, 3), .inr (1, 46, 264, 50, [])]),
  (45, [0, 2, 3, 4, 5], [.inl (.aload_n 0, 1), .inl (.aload 4, 2), .inl (.iload_n 2, 1), .inl (.aload 5, 2), .inl (.invokevirtual 266, 3), .inl (.ifCond .eq 14, 3), .inr (1, 270, 272, 274, [])]),
  (68, [0, 2, 3, 4], [.inl (.aload 4, 2), .inl (.iload_n 2, 1), .inl (.invokevirtual 275, 3), .inl (.istore 6, 2), .inl (.aload_n 0, 1), .inl (.aload 4, 2), .inl (.iload_n 2, 1), .inl (.invokevirtual 278, 3), .inl (.aload_n 0, 1), .inl (.aload 4, 2), .inl (.iload_n 2, 1), .inl (.iload_n 3, 1), .inl (.invokevirtual 281, 3), .inl (.iload 6, 2), .inl (.ireturn, 1)])]
def k_138 : mCode := [(0, [0, 1, 2], [.inl (.aload_n 0, 1), .inl (.iload_n 1, 1), .inl (.invokevirtual 253, 3), .inl (.astore_n 3, 1), .inl (.aload_n 3, 1), .inl (.iload_n 2, 1), .inl (.invokestatic 257, 3), .inl (.aload_n 3, 1), .inl (.invokestatic 261, 3), .inl (.aload_n 3, 1), .inl (.iload_n 2, 1), .inl (.invokevirtual 275, 3), .inl (.istore 4, 2), .inl (.iload 4, 2), .inl (.iconst (-1), 1), .inl (.if_icmp .ne 14, 3), .inr (1, 53, 285, 57, [])]),
  (39, [0, 2, 3, 4], [.inl (.aload_n 0, 1), .inl (.aload_n 3, 1), .inl (.iload_n 2, 1), .inl (.invokevirtual 278, 3), .inl (.iload 4, 2), .inl (.ireturn, 1)])]
def k_139 : mCode := [(0, [0, 1], [.inl (.aload_n 0, 1), .inl (.iload_n 1, 1), .inl (.invokevirtual 253, 3), .inl (.astore_n 2, 1), .inl (.aload_n 2, 1), .inl (.invokestatic 261, 3), .inl (.aload_n 2, 1), .inl (.invokevirtual 287, 3), .inl (.istore_n 3, 1), .inl (.aload_n 0, 1), .inl (.aload_n 2, 1), .inl (.invokevirtual 99, 3), .inl (.iload_n 3, 1), .inl (.ireturn, 1)])]
def k_140 : mCode := [(0, [0, 1], [.inl (.aload_n 0, 1), .inl (.iload_n 1, 1), .inl (.invokevirtual 253, 3), .inl (.astore_n 2, 1), .inl (.aload_n 2, 1), .inl (.invokestatic 261, 3), .inl (.aload_n 0, 1), .inl (.aload_n 2, 1), .inl (.invokevirtual 290, 3), .inl (.istore_n 3, 1), .inl (.iload_n 3, 1), .inl (.iconst (-1), 1), .inl (.if_icmp .ne 14, 3), .inr (1, 270, 294, 274, [])]),
  (32, [3], [.inl (.iload_n 3, 1), .inl (.ireturn, 1)])]
def k_141 : mCode := [(0, [0], [.inl (.aload_n 0, 1), .inl (.getfield 32, 3), .inl (.invokevirtual 296, 3), .inl (.iconst 0, 1), .inl (.istore_n 1, 1)]),
  (9, [0, 1], [.inl (.iload_n 1, 1), .inl (.aload_n 0, 1), .inl (.getfield 19, 3), .inl (.invokeinterface 73 1, 5), .inl (.if_icmp .ge 39, 3), .inl (.aload_n 0, 1), .inl (.getfield 19, 3), .inl (.iload_n 1, 1), .inl (.invokeinterface 78 2, 5), .inl (.checkcast 82, 3), .inl (.astore_n 2, 1), .inl (.aload_n 0, 1), .inl (.aload_n 2, 1), .inl (.invokevirtual 299, 3), .inl (.ifCond .eq 11, 3), .inl (.aload_n 0, 1), .inl (.getfield 32, 3), .inl (.aload_n 2, 1), .inl (.invokevirtual 302, 3)]),
  (52, [0, 1], [.inl (.iinc 1 1, 3), .inl (.goto (-46), 3)]),
  (58, [0], [.inl (.aload_n 0, 1), .inl (.getfield 32, 3), .inl (.invokevirtual 305, 3), .inl (.aload_n 0, 1), .inl (.iconst 0, 1), .inl (.iconst 0, 1), .inl (.iconst 0, 1), .inl (.iconst 0, 1), .inl (.invokestatic 308, 3), .inl (.aload_n 0, 1), .inl (.invokevirtual 312, 3), .inl (.ireturn, 1)])]
def k_142 : mCode := [(0, [0, 1], [.inl (.aload_n 0, 1), .inl (.iload_n 1, 1), .inl (.invokevirtual 253, 3), .inl (.getfield 95, 3), .inl (.ireturn, 1)])]
def k_143 : mCode := [(0, [0, 1, 2], [.inl (.aload_n 0, 1), .inl (.iload_n 1, 1), .inl (.invokevirtual 253, 3), .inl (.astore_n 3, 1), .inl (.aload_n 3, 1), .inl (.iload_n 2, 1), .inl (.invokestatic 257, 3), .inl (.aload_n 3, 1), .inl (.iload_n 2, 1), .inl (.invokevirtual 275, 3), .inl (.ireturn, 1)])]
def k_144 : mCode := [(0, [0, 1], [.inl (.aload_n 0, 1), .inl (.iload_n 1, 1), .inl (.invokevirtual 253, 3), .inl (.astore_n 2, 1), .inl (.aload_n 2, 1), .inl (.invokestatic 261, 3), .inl (.aload_n 0, 1), .inl (.aload_n 2, 1), .inl (.invokevirtual 91, 3), .inl (.ireturn, 1)])]
def k_145 : mCode := [(0, [0, 1, 2, 3], [.inl (.aload_n 0, 1), .inl (.iload_n 1, 1), .inl (.invokevirtual 253, 3), .inl (.astore 4, 2), .inl (.aload 4, 2), .inl (.iload_n 2, 1), .inl (.invokestatic 257, 3), .inl (.aload_n 0, 1), .inl (.iload_n 3, 1), .inl (.invokevirtual 116, 3), .inl (.astore 5, 2), .inl (.aload 4, 2), .inl (.invokestatic 261, 3), .inl (.aload_n 0, 1), .inl (.aload 4, 2), .inl (.iload_n 2, 1), .inl (.aload 5, 2), .inl (.invokevirtual 266, 3), .inl (.ireturn, 1)])]
def k_146 : mCode := [(0, [0, 1, 2], [.inl (.aload_n 0, 1), .inl (.iload_n 1, 1), .inl (.invokevirtual 253, 3), .inl (.astore_n 3, 1), .inl (.aload_n 3, 1), .inl (.iload_n 2, 1), .inl (.invokestatic 257, 3), .inl (.aload_n 3, 1), .inl (.invokestatic 261, 3), .inl (.iconst 0, 1), .inl (.istore 4, 2), .inl (.iconst 0, 1), .inl (.istore 5, 2)]),
  (21, [0, 2, 3, 4, 5], [.inl (.iload 5, 2), .inl (.aload_n 0, 1), .inl (.getfield 10, 3), .inl (.invokeinterface 73 1, 5), .inl (.if_icmp .ge 35, 3), .inl (.aload_n 0, 1), .inl (.aload_n 3, 1), .inl (.iload_n 2, 1), .inl (.aload_n 0, 1), .inl (.getfield 10, 3), .inl (.iload 5, 2), .inl (.invokeinterface 78 2, 5), .inl (.checkcast 103, 3), .inl (.invokevirtual 266, 3), .inl (.ifCond .ne 6, 3), .inl (.iinc 4 1, 3)]),
  (61, [0, 2, 3, 4, 5], [.inl (.iinc 5 1, 3), .inl (.goto (-43), 3)]),
  (67, [4], [.inl (.iload 4, 2), .inl (.ireturn, 1)])]
def k_147 : mCode := [(0, [0], [.inl (.iconst 0, 1), .inl (.istore_n 1, 1), .inl (.iconst 0, 1), .inl (.istore_n 2, 1)]),
  (4, [0, 1, 2], [.inl (.iload_n 2, 1), .inl (.aload_n 0, 1), .inl (.getfield 19, 3), .inl (.invokeinterface 73 1, 5), .inl (.if_icmp .ge 32, 3), .inl (.aload_n 0, 1), .inl (.aload_n 0, 1), .inl (.getfield 19, 3), .inl (.iload_n 2, 1), .inl (.invokeinterface 78 2, 5), .inl (.checkcast 82, 3), .inl (.invokevirtual 299, 3), .inl (.ifCond .eq 6, 3), .inl (.iinc 1 1, 3)]),
  (40, [0, 1, 2], [.inl (.iinc 2 1, 3), .inl (.goto (-39), 3)]),
  (46, [1], [.inl (.iload_n 1, 1), .inl (.ireturn, 1)])]
def k_148 : mCode := [(0, [0, 1], [.inl (.iload_n 1, 1), .inl (.bipush 112, 2), .inl (.if_icmp .eq 26, 3), .inl (.iload_n 1, 1), .inl (.bipush 115, 2), .inl (.if_icmp .eq 20, 3), .inl (.iload_n 1, 1), .inl (.bipush 99, 2), .inl (.if_icmp .eq 14, 3), .inr (1, 46, 315, 50, [])]),
  (29, [0, 1], [.inl (.iconst 0, 1), .inl (.istore_n 2, 1), .inl (.iconst 0, 1), .inl (.istore_n 3, 1)]),
  (33, [0, 1, 2, 3], [.inl (.iload_n 3, 1), .inl (.aload_n 0, 1), .inl (.getfield 19, 3), .inl (.invokeinterface 73 1, 5), .inl (.if_icmp .ge 32, 3), .inl (.aload_n 0, 1), .inl (.getfield 19, 3), .inl (.iload_n 3, 1), .inl (.invokeinterface 78 2, 5), .inl (.checkcast 82, 3), .inl (.getfield 95, 3), .inl (.iload_n 1, 1), .inl (.if_icmp .ne 6, 3), .inl (.iinc 2 1, 3)]),
  (69, [0, 1, 2, 3], [.inl (.iinc 3 1, 3), .inl (.goto (-39), 3)]),
  (75, [2], [.inl (.iload_n 2, 1), .inl (.ireturn, 1)])]
def k_149 : mCode := [(0, [0, 1], [.inl (.iload_n 1, 1), .inl (.ifCond .lt 16, 3), .inl (.iload_n 1, 1), .inl (.aload_n 0, 1), .inl (.getfield 16, 3), .inl (.invokeinterface 73 1, 5), .inl (.if_icmp .lt 14, 3)]),
  (17, [], [.inr (1, 202, 317, 206, [])]),
  (28, [0, 1], [.inl (.aload_n 0, 1), .inl (.getfield 16, 3), .inl (.iload_n 1, 1), .inl (.invokeinterface 78 2, 5), .inl (.checkcast 218, 3), .inl (.areturn, 1)])]
def k_150 : mCode := [(0, [0, 1], [.inl (.iload_n 1, 1), .inl (.ifCond .lt 16, 3), .inl (.iload_n 1, 1), .inl (.aload_n 0, 1), .inl (.getfield 19, 3), .inl (.invokeinterface 73 1, 5), .inl (.if_icmp .lt 14, 3)]),
  (17, [], [.inr (1, 211, 319, 215, [])]),
  (28, [0, 1], [.inl (.aload_n 0, 1), .inl (.getfield 19, 3), .inl (.iload_n 1, 1), .inl (.invokeinterface 78 2, 5), .inl (.checkcast 82, 3), .inl (.areturn, 1)])]
def k_151 : mCode := [(0, [0, 1], [.inl (.iload_n 1, 1), .inl (.ifCond .lt 14, 3), .inl (.iload_n 1, 1), .inl (.aload_n 0, 1), .inl (.getfield 321, 3), .inl (.getfield 225, 3), .inl (.if_icmp .lt 14, 3)]),
  (15, [], [.inr (1, 202, 325, 206, [])]),
  (26, [], [.inl (.return_, 1)])]
def k_152 : mCode := [(0, [0], [.inl (.aload_n 0, 1), .inl (.invokevirtual 84, 3), .inl (.ifCond .ne 14, 3), .inr (1, 53, 327, 57, [])]),
  (18, [], [.inl (.return_, 1)])]
def k_153 : mCode := [(0, [0], [.inl (.iload_n 0, 1), .inl (.iconst 1, 1), .inl (.if_icmp .lt 9, 3), .inl (.iload_n 0, 1), .inl (.bipush 12, 2), .inl (.if_icmp .le 14, 3)]),
  (11, [], [.inr (1, 46, 329, 50, [])]),
  (22, [], [.inl (.return_, 1)])]
def k_154 : mCode := [(0, [0, 1, 2, 3], [.inl (.iconst 0, 1), .inl (.istore 4, 2)]),
  (3, [0, 1, 2, 3, 4], [.inl (.iload 4, 2), .inl (.aload_n 0, 1), .inl (.getfield 19, 3), .inl (.invokeinterface 73 1, 5), .inl (.if_icmp .ge 56, 3), .inl (.aload_n 0, 1), .inl (.getfield 19, 3), .inl (.iload 4, 2), .inl (.invokeinterface 78 2, 5), .inl (.checkcast 82, 3), .inl (.astore 5, 2), .inl (.aload 5, 2), .inl (.getfield 321, 3), .inl (.aload_n 1, 1), .inl (.if_acmp .ne 25, 3), .inl (.aload 5, 2), .inl (.getfield 95, 3), .inl (.bipush 99, 2), .inl (.if_icmp .eq 15, 3), .inl (.aload 5, 2), .inl (.iload_n 2, 1), .inl (.iload_n 3, 1), .inl (.invokevirtual 331, 3), .inl (.ifCond .le 5, 3), .inl (.iconst 1, 1), .inl (.ireturn, 1)]),
  (64, [0, 1, 2, 3, 4], [.inl (.iinc 4 1, 3), .inl (.goto (-64), 3)]),
  (70, [], [.inl (.iconst 0, 1), .inl (.ireturn, 1)])]
def k_155 : mCode := [(0, [0, 1, 2, 3], [.inl (.aload_n 0, 1), .inl (.iload_n 3, 1), .inl (.invokevirtual 199, 3), .inl (.ifCond .eq 33, 3), .inl (.aload_n 1, 1), .inl (.iload_n 2, 1), .inl (.iload_n 3, 1), .inl (.invokevirtual 335, 3), .inl (.aload_n 0, 1), .inl (.getfield 10, 3), .inl (.iload_n 3, 1), .inl (.invokeinterface 78 2, 5), .inl (.checkcast 103, 3), .inl (.aload_n 1, 1), .inl (.getfield 88, 3), .inl (.aload_n 1, 1), .inl (.getfield 338, 3), .inl (.invokevirtual 341, 3)]),
  (38, [], [.inl (.return_, 1)])]
def k_156 : mCode := [(0, [0, 1, 2], [.inl (.aload_n 1, 1), .inl (.iload_n 2, 1), .inl (.invokevirtual 275, 3), .inl (.istore_n 3, 1), .inl (.aload_n 0, 1), .inl (.iload_n 3, 1), .inl (.invokevirtual 199, 3), .inl (.ifCond .eq 33, 3), .inl (.aload_n 1, 1), .inl (.iload_n 2, 1), .inl (.iconst (-1), 1), .inl (.invokevirtual 335, 3), .inl (.aload_n 0, 1), .inl (.getfield 10, 3), .inl (.iload_n 3, 1), .inl (.invokeinterface 78 2, 5), .inl (.checkcast 103, 3), .inl (.aload_n 1, 1), .inl (.getfield 88, 3), .inl (.aload_n 1, 1), .inl (.getfield 338, 3), .inl (.invokevirtual 344, 3)]),
  (44, [], [.inl (.return_, 1)])]
def k_157 : mCode := [(0, [0, 1], [.inl (.iconst 0, 1), .inl (.istore_n 2, 1)]),
  (2, [0, 1, 2], [.inl (.iload_n 2, 1), .inl (.aload_n 1, 1), .inl (.getfield 321, 3), .inl (.getfield 225, 3), .inl (.if_icmp .ge 15, 3), .inl (.aload_n 0, 1), .inl (.aload_n 1, 1), .inl (.iload_n 2, 1), .inl (.invokevirtual 278, 3), .inl (.iinc 2 1, 3), .inl (.goto (-20), 3)]),
  (25, [], [.inl (.return_, 1)])]
def k_158 : mCode := [(0, [0, 1], [.inl (.aload_n 0, 1), .inl (.aload_n 1, 1), .inl (.invokevirtual 347, 3), .inl (.aload_n 1, 1), .inl (.bipush 99, 2), .inl (.putfield 95, 3), .inl (.return_, 1)])]
def k_159 : mCode := [(0, [0, 1], [.inl (.aload_n 1, 1), .inl (.invokevirtual 84, 3), .inl (.ifCond .eq 15, 3), .inl (.aload_n 0, 1), .inl (.aload_n 1, 1), .inl (.invokevirtual 91, 3), .inl (.ifCond .ne 7, 3), .inl (.iconst 1, 1), .inl (.goto 4, 3)]),
  (19, [], [.inl (.iconst 0, 1)]),
  (20, [], [.inl (.ireturn, 1)])]
def k_160 : mCode := [(0, [0, 1], [.inl (.iconst 0, 1), .inl (.istore_n 2, 1)]),
  (2, [0, 1, 2], [.inl (.iload_n 2, 1), .inl (.aload_n 1, 1), .inl (.getfield 321, 3), .inl (.getfield 225, 3), .inl (.if_icmp .ge 47, 3), .inl (.aload_n 1, 1), .inl (.iload_n 2, 1), .inl (.invokevirtual 275, 3), .inl (.istore_n 3, 1), .inl (.aload_n 0, 1), .inl (.iload_n 3, 1), .inl (.invokevirtual 199, 3), .inl (.ifCond .eq 25, 3), .inl (.aload_n 0, 1), .inl (.aload_n 1, 1), .inl (.iload_n 2, 1), .inl (.aload_n 0, 1), .inl (.getfield 10, 3), .inl (.iload_n 3, 1), .inl (.invokeinterface 78 2, 5), .inl (.checkcast 103, 3), .inl (.invokevirtual 266, 3), .inl (.ifCond .eq 5, 3)]),
  (49, [], [.inl (.iconst 0, 1), .inl (.ireturn, 1)]),
  (51, [0, 1, 2], [.inl (.iinc 2 1, 3), .inl (.goto (-52), 3)]),
  (57, [], [.inl (.iconst 1, 1), .inl (.ireturn, 1)])]
def k_161 : mCode := [(0, [0, 1, 2, 3], [.inl (.aload_n 3, 1), .inl (.aload_n 1, 1), .inl (.getfield 321, 3), .inl (.iload_n 2, 1), .inl (.invokevirtual 350, 3), .inl (.aload_n 1, 1), .inl (.invokevirtual 160, 3), .inl (.aload_n 1, 1), .inl (.invokevirtual 163, 3), .inl (.invokevirtual 353, 3), .inl (.ifCond .ne 5, 3), .inl (.iconst 1, 1), .inl (.ireturn, 1)]),
  (25, [0, 1, 3], [.inl (.aload_n 3, 1), .inl (.getfield 148, 3), .inl (.aload_n 1, 1), .inl (.invokevirtual 160, 3), .inl (.aload_n 1, 1), .inl (.invokevirtual 163, 3), .inl (.invokevirtual 357, 3), .inl (.ifCond .eq 5, 3), .inl (.iconst 2, 1), .inl (.ireturn, 1)]),
  (45, [0, 1, 3], [.inl (.aload_n 3, 1), .inl (.getfield 190, 3), .inl (.aload_n 1, 1), .inl (.invokevirtual 160, 3), .inl (.aload_n 1, 1), .inl (.invokevirtual 163, 3), .inl (.invokevirtual 357, 3), .inl (.ifCond .eq 5, 3), .inl (.iconst 3, 1), .inl (.ireturn, 1)]),
  (65, [0, 1, 3], [.inl (.aload_n 1, 1), .inl (.aload_n 3, 1), .inl (.getfield 361, 3), .inl (.invokevirtual 156, 3), .inl (.ifCond .eq 7, 3), .inl (.iconst 1, 1), .inl (.goto 4, 3)]),
  (80, [0, 1, 3], [.inl (.iconst 0, 1)]),
  (81, [0, 1, 3], [.inl (.istore 4, 2), .inl (.aload_n 0, 1), .inl (.aload_n 3, 1), .inl (.aload_n 1, 1), .inl (.getfield 88, 3), .inl (.aload_n 1, 1), .inl (.getfield 338, 3), .inl (.iload 4, 2), .inl (.invokevirtual 364, 3), .inl (.ireturn, 1)])]
def k_162 : mCode := [(0, [0, 1, 2, 3, 4], [.inl (.aload_n 1, 1), .inl (.iload_n 2, 1), .inl (.iload_n 3, 1), .inl (.iload 4, 2), .inl (.invokevirtual 368, 3), .inl (.ifCond .eq 5, 3), .inl (.iconst 4, 1), .inl (.ireturn, 1)]),
  (13, [0, 1, 2, 3], [.inl (.aload_n 1, 1), .inl (.iload_n 2, 1), .inl (.iload_n 3, 1), .inl (.bipush 24, 2), .inl (.aload_n 0, 1), .inl (.getfield 40, 3), .inl (.invokevirtual 371, 3), .inl (.ifCond .eq 5, 3), .inl (.iconst 5, 1), .inl (.ireturn, 1)]),
  (30, [0, 1, 2, 3], [.inl (.aload_n 1, 1), .inl (.iload_n 2, 1), .inl (.iload_n 3, 1), .inl (.sipush 168, 3), .inl (.aload_n 0, 1), .inl (.getfield 43, 3), .inl (.invokevirtual 371, 3), .inl (.ifCond .eq 6, 3), .inl (.bipush 6, 2), .inl (.ireturn, 1)]),
  (49, [], [.inl (.iconst 0, 1), .inl (.ireturn, 1)])]
def k_163 : mCode := [(0, [0, 1], [.inl (.aload_n 0, 1), .inl (.getfield 25, 3), .inl (.aload_n 1, 1), .inl (.invokevirtual 375, 3), .inl (.iconst 0, 1), .inl (.istore_n 2, 1)]),
  (10, [0, 1, 2], [.inl (.iload_n 2, 1), .inl (.aload_n 1, 1), .inl (.getfield 321, 3), .inl (.getfield 225, 3), .inl (.if_icmp .ge 61, 3), .inl (.iconst 0, 1), .inl (.istore_n 3, 1)]),
  (23, [0, 1, 2, 3], [.inl (.iload_n 3, 1), .inl (.aload_n 0, 1), .inl (.getfield 10, 3), .inl (.invokeinterface 73 1, 5), .inl (.if_icmp .ge 40, 3), .inl (.aload_n 0, 1), .inl (.aload_n 1, 1), .inl (.iload_n 2, 1), .inl (.aload_n 0, 1), .inl (.getfield 10, 3), .inl (.iload_n 3, 1), .inl (.invokeinterface 78 2, 5), .inl (.checkcast 103, 3), .inl (.invokevirtual 266, 3), .inl (.ifCond .ne 12, 3), .inl (.aload_n 0, 1), .inl (.getfield 25, 3), .inl (.iload_n 2, 1), .inl (.iload_n 3, 1), .inl (.invokevirtual 378, 3)]),
  (67, [0, 1, 2, 3], [.inl (.iinc 3 1, 3), .inl (.goto (-47), 3)]),
  (73, [0, 1, 2], [.inl (.iinc 2 1, 3), .inl (.goto (-66), 3)]),
  (79, [0, 1], [.inl (.aload_n 0, 1), .inl (.getfield 25, 3), .inl (.invokevirtual 381, 3), .inl (.ifCond .ne 5, 3), .inl (.iconst (-1), 1), .inl (.ireturn, 1)]),
  (91, [0, 1], [.inl (.aload_n 0, 1), .inl (.aload_n 1, 1), .inl (.invokevirtual 347, 3), .inl (.iconst 0, 1), .inl (.istore_n 2, 1)]),
  (98, [0, 1, 2], [.inl (.iload_n 2, 1), .inl (.aload_n 1, 1), .inl (.getfield 321, 3), .inl (.getfield 225, 3), .inl (.if_icmp .ge 23, 3), .inl (.aload_n 0, 1), .inl (.aload_n 1, 1), .inl (.iload_n 2, 1), .inl (.aload_n 0, 1), .inl (.getfield 25, 3), .inl (.iload_n 2, 1), .inl (.invokevirtual 384, 3), .inl (.invokevirtual 281, 3), .inl (.iinc 2 1, 3), .inl (.goto (-28), 3)]),
  (129, [0], [.inl (.aload_n 0, 1), .inl (.getfield 25, 3), .inl (.getfield 387, 3), .inl (.ireturn, 1)])]
def k_164 : mCode := [(0, [0, 1, 2, 3, 4], [.inl (.aload_n 0, 1), .inl (.getfield 32, 3), .inl (.astore 5, 2), .inl (.aload 5, 2), .inl (.iload_n 3, 1), .inl (.iload 4, 2), .inl (.invokevirtual 390, 3), .inl (.ifCond .ne 4, 3), .inl (.return_, 1)]),
  (18, [0, 1, 2, 3, 4, 5], [.inl (.iload_n 1, 1), .inl (.aload 5, 2), .inl (.getfield 393, 3), .inl (.invokeinterface 73 1, 5), .inl (.if_icmp .lt 12, 3), .inl (.aload 5, 2), .inl (.iload_n 3, 1), .inl (.iload 4, 2), .inl (.invokevirtual 396, 3), .inl (.return_, 1)]),
  (41, [0, 1, 2, 3, 4, 5], [.inl (.iconst 0, 1), .inl (.istore 6, 2)]),
  (44, [0, 1, 2, 3, 4, 5, 6], [.inl (.iload 6, 2), .inl (.aload 5, 2), .inl (.getfield 393, 3), .inl (.invokeinterface 73 1, 5), .inl (.if_icmp .ge 109, 3), .inl (.iload_n 2, 1), .inl (.iload 6, 2), .inl (.ishr, 1), .inl (.iconst 1, 1), .inl (.iand, 1), .inl (.ifCond .ne 94, 3), .inl (.aload 5, 2), .inl (.getfield 393, 3), .inl (.iload 6, 2), .inl (.invokeinterface 78 2, 5), .inl (.checkcast 82, 3), .inl (.astore 7, 2), .inl (.aload 5, 2), .inl (.iload_n 1, 1), .inl (.iload 6, 2), .inl (.invokevirtual 399, 3), .inl (.aload_n 0, 1), .inl (.aload 7, 2), .inl (.invokevirtual 290, 3), .inl (.istore 8, 2), .inl (.iload 8, 2), .inl (.iconst (-1), 1), .inl (.if_icmp .ne 30, 3), .inl (.aload_n 0, 1), .inl (.aload 7, 2), .inl (.invokevirtual 99, 3), .inl (.aload_n 0, 1), .inl (.iload_n 1, 1), .inl (.iconst 1, 1), .inl (.iadd, 1), .inl (.iload_n 2, 1), .inl (.iconst 1, 1), .inl (.iload 6, 2), .inl (.ishl, 1), .inl (.ior, 1), .inl (.iload_n 3, 1), .inl (.iconst 1, 1), .inl (.iadd, 1), .inl (.iload 4, 2), .inl (.invokestatic 308, 3), .inl (.goto 22, 3)]),
  (134, [0, 1, 2, 3, 4, 5, 6, 7, 8], [.inl (.aload_n 0, 1), .inl (.iload_n 1, 1), .inl (.iconst 1, 1), .inl (.iadd, 1), .inl (.iload_n 2, 1), .inl (.iconst 1, 1), .inl (.iload 6, 2), .inl (.ishl, 1), .inl (.ior, 1), .inl (.iload_n 3, 1), .inl (.iload 4, 2), .inl (.iload 8, 2), .inl (.iadd, 1), .inl (.invokestatic 308, 3)]),
  (153, [0, 1, 2, 3, 4, 5, 6, 7], [.inl (.aload_n 0, 1), .inl (.aload 7, 2), .inl (.invokevirtual 402, 3)]),
  (159, [0, 1, 2, 3, 4, 5, 6], [.inl (.iinc 6 1, 3), .inl (.goto (-118), 3)]),
  (165, [], [.inl (.return_, 1)])]
def k_165 : mCode := [(0, [0, 1], [.inl (.aload_n 0, 1), .inl (.aload_n 1, 1), .inl (.invokevirtual 347, 3), .inl (.aload_n 1, 1), .inl (.bipush 112, 2), .inl (.putfield 95, 3), .inl (.iconst 0, 1), .inl (.istore_n 2, 1)]),
  (13, [0, 1, 2], [.inl (.iload_n 2, 1), .inl (.aload_n 1, 1), .inl (.getfield 321, 3), .inl (.getfield 225, 3), .inl (.if_icmp .ge 20, 3), .inl (.aload_n 0, 1), .inl (.aload_n 1, 1), .inl (.iload_n 2, 1), .inl (.aload_n 1, 1), .inl (.iload_n 2, 1), .inl (.invokevirtual 405, 3), .inl (.invokevirtual 281, 3), .inl (.iinc 2 1, 3), .inl (.goto (-25), 3)]),
  (41, [], [.inl (.return_, 1)])]
def k_166 : mCode := [(0, [0], [.inl (.iconst 0, 1), .inl (.istore_n 1, 1), .inl (.iconst 0, 1), .inl (.istore_n 2, 1)]),
  (4, [0, 1, 2], [.inl (.iload_n 2, 1), .inl (.aload_n 0, 1), .inl (.getfield 32, 3), .inl (.getfield 393, 3), .inl (.invokeinterface 73 1, 5), .inl (.if_icmp .ge 75, 3), .inl (.aload_n 0, 1), .inl (.getfield 32, 3), .inl (.iload_n 2, 1), .inl (.invokevirtual 408, 3), .inl (.istore_n 3, 1), .inl (.iload_n 3, 1), .inl (.ifCond .lt 56, 3), .inl (.iload_n 3, 1), .inl (.aload_n 0, 1), .inl (.getfield 32, 3), .inl (.getfield 393, 3), .inl (.invokeinterface 73 1, 5), .inl (.if_icmp .ge 40, 3), .inl (.aload_n 0, 1), .inl (.getfield 32, 3), .inl (.getfield 393, 3), .inl (.iload_n 3, 1), .inl (.invokeinterface 78 2, 5), .inl (.checkcast 82, 3), .inl (.astore 4, 2), .inl (.aload_n 0, 1), .inl (.aload 4, 2), .inl (.invokevirtual 290, 3), .inl (.iconst (-1), 1), .inl (.if_icmp .ne 12, 3), .inl (.aload_n 0, 1), .inl (.aload 4, 2), .inl (.invokevirtual 99, 3), .inl (.iinc 1 1, 3)]),
  (86, [0, 1, 2], [.inl (.iinc 2 1, 3), .inl (.goto (-85), 3)]),
  (92, [1], [.inl (.iload_n 1, 1), .inl (.ireturn, 1)])]
def k_167 : mCode := [(0, [0, 1, 2, 3], [.inl (.aload_n 0, 1), .inl (.iload_n 1, 1), .inl (.invokevirtual 116, 3), .inl (.astore 4, 2), .inl (.iload_n 2, 1), .inl (.ifCond .lt 15, 3), .inl (.iload_n 3, 1), .inl (.iload_n 2, 1), .inl (.if_icmp .le 10, 3), .inl (.iload_n 3, 1), .inl (.sipush 999, 3), .inl (.if_icmp .le 14, 3)]),
  (23, [], [.inr (1, 46, 411, 50, [])]),
  (34, [2, 3, 4], [.inl (.aload 4, 2), .inl (.iload_n 2, 1), .inl (.iload_n 3, 1), .inl (.invokevirtual 413, 3), .inl (.ireturn, 1)])]
def k_168 : mCode := [(0, [0, 1], [.inl (.aload_n 0, 1), .inl (.aload_n 0, 1), .inl (.iload_n 1, 1), .inl (.invokevirtual 116, 3), .inl (.bipush 24, 2), .inl (.invokevirtual 416, 3), .inl (.ireturn, 1)])]
def k_169 : mCode := [(0, [0, 1], [.inl (.aload_n 0, 1), .inl (.iload_n 1, 1), .inl (.invokevirtual 116, 3), .inl (.bipush 24, 2), .inl (.invokevirtual 419, 3), .inl (.ireturn, 1)])]
def k_170 : mCode := [(0, [0, 1], [.inl (.aload_n 0, 1), .inl (.aload_n 0, 1), .inl (.iload_n 1, 1), .inl (.invokevirtual 116, 3), .inl (.sipush 168, 3), .inl (.invokevirtual 416, 3), .inl (.ireturn, 1)])]
def k_171 : mCode := [(0, [0, 1], [.inl (.aload_n 0, 1), .inl (.iload_n 1, 1), .inl (.invokevirtual 116, 3), .inl (.sipush 168, 3), .inl (.invokevirtual 419, 3), .inl (.ireturn, 1)])]
def k_172 : mCode := [(0, [0, 1, 2], [.inl (.aload_n 0, 1), .inl (.iload_n 1, 1), .inl (.invokevirtual 116, 3), .inl (.astore_n 3, 1), .inl (.iload_n 2, 1), .inl (.invokestatic 239, 3), .inl (.aload_n 0, 1), .inl (.getfield 36, 3), .inl (.iconst 1, 1), .inl (.iadd, 1), .inl (.istore 4, 2)]),
  (18, [0, 2, 3, 4], [.inl (.iload 4, 2), .inl (.iload_n 2, 1), .inl (.iadd, 1), .inl (.sipush 999, 3), .inl (.if_icmp .gt 27, 3), .inl (.aload_n 0, 1), .inl (.aload_n 3, 1), .inl (.iload 4, 2), .inl (.iload 4, 2), .inl (.iload_n 2, 1), .inl (.iadd, 1), .inl (.iconst 0, 1), .inl (.invokevirtual 364, 3), .inl (.ifCond .ne 6, 3), .inl (.iload 4, 2), .inl (.ireturn, 1)]),
  (46, [0, 2, 3, 4], [.inl (.iinc 4 1, 3), .inl (.goto (-31), 3)]),
  (52, [], [.inr (1, 211, 422, 215, [])])]
def k_173 : mCode := [(0, [0, 1], [.inl (.aload_n 0, 1), .inl (.iload_n 1, 1), .inl (.invokevirtual 116, 3), .inl (.astore_n 2, 1), .inl (.aload_n 0, 1), .inl (.getfield 36, 3), .inl (.ifCond .ne 14, 3), .inr (1, 424, 426, 428, [])]),
  (24, [0, 2], [.inl (.aload_n 2, 1), .inl (.iconst 0, 1), .inl (.aload_n 0, 1), .inl (.getfield 36, 3), .inl (.invokevirtual 413, 3), .inl (.i2f, 1), .inl (.aload_n 0, 1), .inl (.getfield 36, 3), .inl (.i2f, 1), .inl (.fdiv, 1), .inl (.freturn, 1)])]
def k_174 : mCode := [(0, [0], [.inl (.aload_n 0, 1), .inl (.getfield 10, 3), .inl (.invokeinterface 73 1, 5), .inl (.istore_n 1, 1), .inl (.iload_n 1, 1), .inl (.ifCond .ne 14, 3), .inr (1, 424, 429, 428, [])]),
  (25, [0, 1], [.inl (.iconst 0, 1), .inl (.istore_n 2, 1), .inl (.iconst 0, 1), .inl (.istore_n 3, 1)]),
  (29, [0, 1, 2, 3], [.inl (.iload_n 3, 1), .inl (.aload_n 0, 1), .inl (.getfield 10, 3), .inl (.invokeinterface 73 1, 5), .inl (.if_icmp .ge 32, 3), .inl (.iload_n 2, 1), .inl (.aload_n 0, 1), .inl (.getfield 10, 3), .inl (.iload_n 3, 1), .inl (.invokeinterface 78 2, 5), .inl (.checkcast 103, 3), .inl (.iconst 0, 1), .inl (.sipush 1000, 3), .inl (.invokevirtual 413, 3), .inl (.iadd, 1), .inl (.istore_n 2, 1), .inl (.iinc 3 1, 3), .inl (.goto (-39), 3)]),
  (71, [1, 2], [.inl (.iload_n 2, 1), .inl (.i2d, 1), .inl (.iload_n 1, 1), .inl (.i2d, 1), .inl (.ddiv, 1), .inl (.dreturn, 1)])]
def k_175 : mCode := [(0, [0], [.inl (.iconst 0, 1), .inl (.istore_n 1, 1)]),
  (2, [0, 1], [.inl (.iload_n 1, 1), .inl (.aload_n 0, 1), .inl (.getfield 19, 3), .inl (.invokeinterface 73 1, 5), .inl (.if_icmp .ge 59, 3), .inl (.aload_n 0, 1), .inl (.getfield 19, 3), .inl (.iload_n 1, 1), .inl (.invokeinterface 78 2, 5), .inl (.checkcast 82, 3), .inl (.astore_n 2, 1), .inl (.aload_n 2, 1), .inl (.getfield 95, 3), .inl (.bipush 115, 2), .inl (.if_icmp .ne 19, 3), .inl (.aload_n 2, 1), .inl (.invokevirtual 287, 3), .inl (.aload_n 2, 1), .inl (.getfield 321, 3), .inl (.getfield 225, 3), .inl (.if_icmp .ge 5, 3), .inl (.iconst 0, 1), .inl (.ireturn, 1)]),
  (54, [0, 1, 2], [.inl (.aload_n 0, 1), .inl (.iload_n 1, 1), .inl (.aload_n 2, 1), .inl (.invokevirtual 431, 3), .inl (.ifCond .eq 5, 3), .inl (.iconst 0, 1), .inl (.ireturn, 1)]),
  (65, [0, 1], [.inl (.iinc 1 1, 3), .inl (.goto (-66), 3)]),
  (71, [0], [.inl (.aload_n 0, 1), .inl (.invokevirtual 435, 3), .inl (.ireturn, 1)])]
def k_176 : mCode := [(0, [0, 1, 2], [.inl (.iload_n 1, 1), .inl (.iconst 1, 1), .inl (.iadd, 1), .inl (.istore_n 3, 1)]),
  (4, [0, 2, 3], [.inl (.iload_n 3, 1), .inl (.aload_n 0, 1), .inl (.getfield 19, 3), .inl (.invokeinterface 73 1, 5), .inl (.if_icmp .ge 52, 3), .inl (.aload_n 0, 1), .inl (.getfield 19, 3), .inl (.iload_n 3, 1), .inl (.invokeinterface 78 2, 5), .inl (.checkcast 82, 3), .inl (.astore 4, 2), .inl (.aload_n 2, 1), .inl (.aload 4, 2), .inl (.getfield 88, 3), .inl (.aload 4, 2), .inl (.getfield 338, 3), .inl (.invokevirtual 331, 3), .inl (.ifCond .le 14, 3), .inl (.aload_n 2, 1), .inl (.aload 4, 2), .inl (.invokevirtual 438, 3), .inl (.ifCond .eq 5, 3), .inl (.iconst 1, 1), .inl (.ireturn, 1)]),
  (60, [0, 2, 3], [.inl (.iinc 3 1, 3), .inl (.goto (-59), 3)]),
  (66, [], [.inl (.iconst 0, 1), .inl (.ireturn, 1)])]
def k_177 : mCode := [(0, [0], [.inl (.iconst 0, 1), .inl (.istore_n 1, 1)]),
  (2, [0, 1], [.inl (.iload_n 1, 1), .inl (.aload_n 0, 1), .inl (.getfield 10, 3), .inl (.invokeinterface 73 1, 5), .inl (.if_icmp .ge 59, 3), .inl (.aload_n 0, 1), .inl (.getfield 10, 3), .inl (.iload_n 1, 1), .inl (.invokeinterface 78 2, 5), .inl (.checkcast 103, 3), .inl (.astore_n 2, 1), .inl (.aload_n 0, 1), .inl (.aload_n 2, 1), .inl (.bipush 24, 2), .inl (.invokevirtual 416, 3), .inl (.aload_n 2, 1), .inl (.bipush 24, 2), .inl (.invokevirtual 419, 3), .inl (.if_icmp .ne 21, 3), .inl (.aload_n 0, 1), .inl (.aload_n 2, 1), .inl (.sipush 168, 3), .inl (.invokevirtual 416, 3), .inl (.aload_n 2, 1), .inl (.sipush 168, 3), .inl (.invokevirtual 419, 3), .inl (.if_icmp .eq 5, 3)]),
  (63, [], [.inl (.iconst 0, 1), .inl (.ireturn, 1)]),
  (65, [0, 1], [.inl (.iinc 1 1, 3), .inl (.goto (-66), 3)]),
  (71, [], [.inl (.iconst 1, 1), .inl (.ireturn, 1)])]
def k_178 : mCode := [(0, [0, 1, 2], [.inl (.iconst 0, 1), .inl (.istore_n 3, 1), .inl (.iconst 0, 1), .inl (.istore 4, 2)]),
  (5, [0, 1, 2, 3, 4], [.inl (.iload 4, 2), .inl (.aload_n 0, 1), .inl (.getfield 19, 3), .inl (.invokeinterface 73 1, 5), .inl (.if_icmp .ge 87, 3), .inl (.aload_n 0, 1), .inl (.getfield 19, 3), .inl (.iload 4, 2), .inl (.invokeinterface 78 2, 5), .inl (.checkcast 82, 3), .inl (.astore 5, 2), .inl (.aload 5, 2), .inl (.aload_n 1, 1), .inl (.getfield 361, 3), .inl (.invokevirtual 156, 3), .inl (.ifCond .eq 53, 3), .inl (.aload_n 0, 1), .inl (.aload_n 1, 1), .inl (.aload 5, 2), .inl (.getfield 88, 3), .inl (.aload 5, 2), .inl (.getfield 88, 3), .inl (.iload_n 2, 1), .inl (.iadd, 1), .inl (.invokevirtual 441, 3), .inl (.istore 6, 2), .inl (.aload_n 0, 1), .inl (.aload_n 1, 1), .inl (.aload 5, 2), .inl (.getfield 338, 3), .inl (.iload_n 2, 1), .inl (.isub, 1), .inl (.aload 5, 2), .inl (.getfield 338, 3), .inl (.invokevirtual 441, 3), .inl (.istore 7, 2), .inl (.iload_n 3, 1), .inl (.iload 6, 2), .inl (.iload 7, 2), .inl (.invokestatic 445, 3), .inl (.invokestatic 445, 3), .inl (.istore_n 3, 1)]),
  (97, [0, 1, 2, 3, 4], [.inl (.iinc 4 1, 3), .inl (.goto (-95), 3)]),
  (103, [3], [.inl (.iload_n 3, 1), .inl (.ireturn, 1)])]
def k_179 : mCode := [(0, [0, 1, 2, 3], [.inl (.iconst 0, 1), .inl (.istore 4, 2), .inl (.iconst 0, 1), .inl (.istore 5, 2)]),
  (6, [0, 1, 2, 3, 4, 5], [.inl (.iload 5, 2), .inl (.aload_n 0, 1), .inl (.getfield 19, 3), .inl (.invokeinterface 73 1, 5), .inl (.if_icmp .ge 49, 3), .inl (.aload_n 0, 1), .inl (.getfield 19, 3), .inl (.iload 5, 2), .inl (.invokeinterface 78 2, 5), .inl (.checkcast 82, 3), .inl (.astore 6, 2), .inl (.aload 6, 2), .inl (.aload_n 1, 1), .inl (.getfield 361, 3), .inl (.invokevirtual 156, 3), .inl (.ifCond .eq 15, 3), .inl (.iload 4, 2), .inl (.aload 6, 2), .inl (.iload_n 2, 1), .inl (.iload_n 3, 1), .inl (.invokevirtual 331, 3), .inl (.iadd, 1), .inl (.istore 4, 2)]),
  (60, [0, 1, 2, 3, 4, 5], [.inl (.iinc 5 1, 3), .inl (.goto (-57), 3)]),
  (66, [4], [.inl (.iload 4, 2), .inl (.ireturn, 1)])]
def k_180 : mCode := [(0, [0], [.inl (.lload_n 0, 1), .inl (.lload_n 0, 1), .inl (.iconst 1, 1), .inl (.lushr, 1), .inl (.ldc2_w 314, 3), .inl (.land, 1), .inl (.lsub, 1), .inl (.lstore_n 0, 1), .inl (.lload_n 0, 1), .inl (.ldc2_w 316, 3), .inl (.land, 1), .inl (.lload_n 0, 1), .inl (.iconst 2, 1), .inl (.lushr, 1), .inl (.ldc2_w 316, 3), .inl (.land, 1), .inl (.ladd, 1), .inl (.lstore_n 0, 1), .inl (.lload_n 0, 1), .inl (.lload_n 0, 1), .inl (.iconst 4, 1), .inl (.lushr, 1), .inl (.ladd, 1), .inl (.ldc2_w 318, 3), .inl (.land, 1), .inl (.lstore_n 0, 1), .inl (.lload_n 0, 1), .inl (.lload_n 0, 1), .inl (.bipush 8, 2), .inl (.lushr, 1), .inl (.ladd, 1), .inl (.lstore_n 0, 1), .inl (.lload_n 0, 1), .inl (.lload_n 0, 1), .inl (.bipush 16, 2), .inl (.lushr, 1), .inl (.ladd, 1), .inl (.lstore_n 0, 1), .inl (.lload_n 0, 1), .inl (.lload_n 0, 1), .inl (.bipush 32, 2), .inl (.lushr, 1), .inl (.ladd, 1), .inl (.lstore_n 0, 1), .inl (.lload_n 0, 1), .inl (.l2i, 1), .inl (.bipush 127, 2), .inl (.iand, 1), .inl (.ireturn, 1)])]
/-- FerryrosterModel.thrown()I -/
def q_1 : mMeth := (yX7_thrown, cX7_thrown, 1, (some .int), 1, false, 0, 0, 11)
/-- FerryrosterModel.fails(I)I -/
def q_2 : mMeth := (yX7_fails, cX7_fails, 2, (some .int), 2, false, 0, 0, 11)
/-- FerryrosterModel.in(III)Z -/
def q_3 : mMeth := (yX7_in, cX7_in, 3, (some .boolean), 3, true, 0, 0, 99)
/-- FerryrosterModel.isPerson(I)Z -/
def q_4 : mMeth := (yX7_isPerson, cX7_isPerson, 2, (some .boolean), 2, false, 0, 0, 11)
/-- FerryrosterModel.isSailing(I)Z -/
def q_5 : mMeth := (yX7_isSailing, cX7_isSailing, 2, (some .boolean), 2, false, 0, 0, 11)
/-- FerryrosterModel.today()I -/
def q_6 : mMeth := (yX7_today, cX7_today, 1, (some .int), 1, false, 0, 0, 11)
/-- FerryrosterModel.endsCourses(I)V -/
def q_7 : mMeth := (yX7_endsCourses, cX7_endsCourses, 4, none, 2, false, 0, 0, 11)
/-- FerryrosterModel.pass(I)I -/
def q_8 : mMeth := (yX7_pass, cX7_pass, 5, (some .int), 2, false, 0, 0, 11)
/-- FerryrosterModel.now()I -/
def q_9 : mMeth := (yX7_now, cX7_now, 1, (some .int), 1, false, 0, 0, 11)
/-- FerryrosterModel.setDayRule(I)I -/
def q_10 : mMeth := (yX7_setDayRule, cX7_setDayRule, 3, (some .int), 2, false, 0, 0, 11)
/-- FerryrosterModel.setWeekRule(I)I -/
def q_11 : mMeth := (yX7_setWeekRule, cX7_setWeekRule, 3, (some .int), 2, false, 0, 0, 11)
/-- FerryrosterModel.addPerson()I -/
def q_12 : mMeth := (yX7_addPerson, cX7_addPerson, 1, (some .int), 1, false, 0, 0, 11)
/-- FerryrosterModel.grant(III)I -/
def q_13 : mMeth := (yX7_grant, cX7_grant, 5, (some .int), 4, false, 0, 0, 11)
/-- FerryrosterModel.renew(III)I -/
def q_14 : mMeth := (yX7_renew, cX7_renew, 5, (some .int), 4, false, 0, 0, 11)
/-- FerryrosterModel.lastDay(II)I -/
def q_15 : mMeth := (yX7_lastDay, cX7_lastDay, 3, (some .int), 3, false, 0, 0, 11)
/-- FerryrosterModel.hasPost(II)Z -/
def q_16 : mMeth := (yX7_hasPost, cX7_hasPost, 4, (some .boolean), 3, false, 0, 0, 11)
/-- FerryrosterModel.firstOf(I)I -/
def q_17 : mMeth := (yX7_firstOf, cX7_firstOf, 2, (some .int), 2, false, 0, 0, 11)
/-- FerryrosterModel.lastOf(I)I -/
def q_18 : mMeth := (yX7_lastOf, cX7_lastOf, 2, (some .int), 2, false, 0, 0, 11)
/-- FerryrosterModel.callSick(II)I -/
def q_19 : mMeth := (yX7_callSick, cX7_callSick, 6, (some .int), 3, false, 0, 0, 11)
/-- FerryrosterModel.recover(I)I -/
def q_20 : mMeth := (yX7_recover, cX7_recover, 4, (some .int), 2, false, 0, 0, 11)
/-- FerryrosterModel.enroll(IIII)I -/
def q_21 : mMeth := (yX7_enroll, cX7_enroll, 6, (some .int), 5, false, 0, 0, 11)
/-- FerryrosterModel.leaveCourse(I)I -/
def q_22 : mMeth := (yX7_leaveCourse, cX7_leaveCourse, 4, (some .int), 2, false, 0, 0, 11)
/-- FerryrosterModel.isAway(II)Z -/
def q_23 : mMeth := (yX7_isAway, cX7_isAway, 3, (some .boolean), 3, false, 0, 0, 11)
/-- FerryrosterModel.addShip(I)I -/
def q_24 : mMeth := (yX7_addShip, cX7_addShip, 2, (some .int), 2, false, 0, 0, 11)
/-- FerryrosterModel.isUsed(I)Z -/
def q_25 : mMeth := (yX7_isUsed, cX7_isUsed, 3, (some .boolean), 2, false, 0, 0, 11)
/-- FerryrosterModel.addPost(II)I -/
def q_26 : mMeth := (yX7_addPost, cX7_addPost, 3, (some .int), 3, false, 0, 0, 11)
/-- FerryrosterModel.plan(III)I -/
def q_27 : mMeth := (yX7_plan, cX7_plan, 6, (some .int), 4, false, 0, 0, 11)
/-- FerryrosterModel.sums(II)V -/
def q_28 : mMeth := (yX7_sums, cX7_sums, 5, none, 3, false, 0, 0, 11)
/-- FerryrosterModel.worked(II)I -/
def q_29 : mMeth := (yX7_worked, cX7_worked, 5, (some .int), 3, false, 0, 0, 11)
/-- FerryrosterModel.both(IIII)I -/
def q_30 : mMeth := (yX7_both, cX7_both, 6, (some .int), 4, true, 0, 0, 99)
/-- FerryrosterModel.isTooMuch(IIII)Z -/
def q_31 : mMeth := (yX7_isTooMuch, cX7_isTooMuch, 6, (some .boolean), 5, false, 0, 0, 11)
/-- FerryrosterModel.against(II)I -/
def q_32 : mMeth := (yX7_against, cX7_against, 3, (some .int), 3, false, 0, 0, 11)
/-- FerryrosterModel.reasonFor(III)I -/
def q_33 : mMeth := (yX7_reasonFor, cX7_reasonFor, 6, (some .int), 4, false, 0, 0, 11)
/-- FerryrosterModel.complete(I)Z -/
def q_34 : mMeth := (yX7_complete, cX7_complete, 4, (some .boolean), 2, false, 0, 0, 11)
/-- FerryrosterModel.drops(I)I -/
def q_35 : mMeth := (yX7_drops, cX7_drops, 4, (some .int), 2, false, 0, 0, 11)
/-- FerryrosterModel.isPost(II)Z -/
def q_36 : mMeth := (yX7_isPost, cX7_isPost, 3, (some .boolean), 3, false, 0, 0, 11)
/-- FerryrosterModel.assign(III)I -/
def q_37 : mMeth := (yX7_assign, cX7_assign, 5, (some .int), 4, false, 0, 0, 11)
/-- FerryrosterModel.release(II)I -/
def q_38 : mMeth := (yX7_release, cX7_release, 4, (some .int), 3, false, 0, 0, 11)
/-- FerryrosterModel.isPlanned(I)Z -/
def q_39 : mMeth := (yX7_isPlanned, cX7_isPlanned, 2, (some .boolean), 2, false, 0, 0, 11)
/-- FerryrosterModel.cancel(I)I -/
def q_40 : mMeth := (yX7_cancel, cX7_cancel, 2, (some .int), 2, false, 0, 0, 11)
/-- FerryrosterModel.tries(III)V -/
def q_41 : mMeth := (yX7_tries, cX7_tries, 7, none, 4, false, 0, 0, 11)
/-- FerryrosterModel.relieves(I)Z -/
def q_42 : mMeth := (yX7_relieves, cX7_relieves, 4, (some .boolean), 2, false, 0, 0, 11)
/-- FerryrosterModel.relieve(I)I -/
def q_43 : mMeth := (yX7_relieve, cX7_relieve, 2, (some .int), 2, false, 0, 0, 11)
/-- FerryrosterModel.copies([I[II)V -/
def q_44 : mMeth := (yX7_copies, cX7_copies, 4, none, 3, true, 0, 0, 99)
/-- FerryrosterModel.looks()I -/
def q_45 : mMeth := (yX7_looks, cX7_looks, 4, (some .int), 1, false, 0, 0, 11)
/-- FerryrosterModel.turns(I)Z -/
def q_46 : mMeth := (yX7_turns, cX7_turns, 6, (some .boolean), 2, false, 0, 0, 11)
/-- FerryrosterModel.swaps(II)V -/
def q_47 : mMeth := (yX7_swaps, cX7_swaps, 4, none, 3, false, 0, 0, 11)
/-- FerryrosterModel.relieveAll()I -/
def q_48 : mMeth := (yX7_relieveAll, cX7_relieveAll, 7, (some .int), 1, false, 0, 0, 11)
/-- FerryrosterModel.stateOf(I)C -/
def q_49 : mMeth := (yX7_stateOf, cX7_stateOf, 2, (some .char), 2, false, 0, 0, 11)
/-- FerryrosterModel.personOn(II)I -/
def q_50 : mMeth := (yX7_personOn, cX7_personOn, 3, (some .int), 3, false, 0, 0, 11)
/-- FerryrosterModel.isComplete(I)Z -/
def q_51 : mMeth := (yX7_isComplete, cX7_isComplete, 2, (some .boolean), 2, false, 0, 0, 11)
/-- FerryrosterModel.reason(III)I -/
def q_52 : mMeth := (yX7_reason, cX7_reason, 4, (some .int), 4, false, 0, 0, 11)
/-- FerryrosterModel.fitting(II)I -/
def q_53 : mMeth := (yX7_fitting, cX7_fitting, 5, (some .int), 3, false, 0, 0, 11)
/-- FerryrosterModel.shortSailings()I -/
def q_54 : mMeth := (yX7_shortSailings, cX7_shortSailings, 3, (some .int), 1, false, 0, 0, 11)
/-- FerryrosterModel.sailings(C)I -/
def q_55 : mMeth := (yX7_sailings, cX7_sailings, 4, (some .int), 2, false, 0, 0, 11)
/-- FerryrosterModel.work(III)I -/
def q_56 : mMeth := (yX7_work, cX7_work, 4, (some .int), 4, false, 0, 0, 11)
/-- FerryrosterModel.most(II)I -/
def q_57 : mMeth := (yX7_most, cX7_most, 5, (some .int), 3, false, 0, 0, 11)
/-- FerryrosterModel.mostInDay(I)I -/
def q_58 : mMeth := (yX7_mostInDay, cX7_mostInDay, 2, (some .int), 2, false, 0, 0, 11)
/-- FerryrosterModel.mostInDayByHours(I)I -/
def q_59 : mMeth := (yX7_mostInDayByHours, cX7_mostInDayByHours, 2, (some .int), 2, false, 0, 0, 11)
/-- FerryrosterModel.mostInWeek(I)I -/
def q_60 : mMeth := (yX7_mostInWeek, cX7_mostInWeek, 2, (some .int), 2, false, 0, 0, 11)
/-- FerryrosterModel.mostInWeekByHours(I)I -/
def q_61 : mMeth := (yX7_mostInWeekByHours, cX7_mostInWeekByHours, 2, (some .int), 2, false, 0, 0, 11)
/-- FerryrosterModel.nextStart(II)I -/
def q_62 : mMeth := (yX7_nextStart, cX7_nextStart, 4, (some .int), 3, false, 0, 0, 11)
/-- FerryrosterModel.workShare(I)F -/
def q_63 : mMeth := (yX7_workShare, cX7_workShare, 2, (some .float), 2, false, 0, 0, 11)
/-- FerryrosterModel.meanWork()D -/
def q_64 : mMeth := (yX7_meanWork, cX7_meanWork, 3, (some .double), 1, false, 0, 0, 11)
/-- FerryrosterModel.isSound()Z -/
def q_65 : mMeth := (yX7_isSound, cX7_isSound, 1, (some .boolean), 1, false, 0, 0, 11)
/-- Ferryroster$Days.add(II)V -/
def q_66 : mMeth := (yX1_add, cX1_add, 4, none, 3, false, 0, 0, 5)
/-- Ferryroster$Days.removeFrom(I)V -/
def q_67 : mMeth := (yX1_removeFrom, cX1_removeFrom, 2, none, 2, false, 0, 0, 5)
/-- Ferryroster$Days.countFrom(I)I -/
def q_68 : mMeth := (yX1_countFrom, cX1_countFrom, 2, (some .int), 2, false, 0, 0, 5)
/-- Ferryroster$Days.has(I)Z -/
def q_69 : mMeth := (yX1_has, cX1_has, 2, (some .boolean), 2, false, 0, 0, 5)
/-- Ferryroster$Days.hasAny(II)Z -/
def q_70 : mMeth := (yX1_hasAny, cX1_hasAny, 4, (some .boolean), 3, false, 0, 0, 5)
/-- Ferryroster$Sailing.isPlanned()Z -/
def q_71 : mMeth := (yX4_isPlanned, cX4_isPlanned, 1, (some .boolean), 1, false, 0, 0, 8)
/-- Ferryroster$Sailing.firstDay()I -/
def q_72 : mMeth := (yX4_firstDay, cX4_firstDay, 1, (some .int), 1, false, 0, 0, 8)
/-- Ferryroster$Sailing.finalDay()I -/
def q_73 : mMeth := (yX4_finalDay, cX4_finalDay, 1, (some .int), 1, false, 0, 0, 8)
/-- Ferryroster$Sailing.hoursBetween(II)I -/
def q_74 : mMeth := (yX4_hoursBetween, cX4_hoursBetween, 3, (some .int), 3, false, 0, 0, 8)
/-- Ferryroster$Sailing.crewAt(I)I -/
def q_75 : mMeth := (yX4_crewAt, cX4_crewAt, 2, (some .int), 2, false, 0, 0, 8)
/-- Ferryroster$Sailing.setCrew(II)V -/
def q_76 : mMeth := (yX4_setCrew, cX4_setCrew, 3, none, 3, false, 0, 0, 8)
/-- Ferryroster$Sailing.keepCrew()V -/
def q_77 : mMeth := (yX4_keepCrew, cX4_keepCrew, 2, none, 1, false, 0, 0, 8)
/-- Ferryroster$Sailing.crewKeptAt(I)I -/
def q_78 : mMeth := (yX4_crewKeptAt, cX4_crewKeptAt, 2, (some .int), 2, false, 0, 0, 8)
/-- Ferryroster$Sailing.has(I)Z -/
def q_79 : mMeth := (yX4_has, cX4_has, 3, (some .boolean), 2, false, 0, 0, 8)
/-- Ferryroster$Sailing.crewSize()I -/
def q_80 : mMeth := (yX4_crewSize, cX4_crewSize, 3, (some .int), 1, false, 0, 0, 8)
/-- Ferryroster$Sailing.hasSomebodyOf(LFerryroster$Sailing;)Z -/
def q_81 : mMeth := (yX4_hasSomebodyOf, cX4_hasSomebodyOf, 3, (some .boolean), 2, false, 0, 0, 8)
/-- Ferryroster$Ship.addPostOf(I)V -/
def q_82 : mMeth := (yX5_addPostOf, cX5_addPostOf, 2, none, 2, false, 0, 0, 9)
/-- Ferryroster$Ship.kindOf(I)I -/
def q_83 : mMeth := (yX5_kindOf, cX5_kindOf, 2, (some .int), 2, false, 0, 0, 9)
/-- Ferryroster$CrewSearch.begin(LFerryroster$Sailing;)V -/
def q_84 : mMeth := (yX0_begin, cX0_begin, 3, none, 2, false, 0, 0, 4)
/-- Ferryroster$CrewSearch.allow(II)V -/
def q_85 : mMeth := (yX0_allow, cX0_allow, 3, none, 3, false, 0, 0, 4)
/-- Ferryroster$CrewSearch.findCrew()Z -/
def q_86 : mMeth := (yX0_findCrew, cX0_findCrew, 1, (some .boolean), 1, false, 0, 0, 4)
/-- Ferryroster$CrewSearch.foundAt(I)I -/
def q_87 : mMeth := (yX0_foundAt, cX0_foundAt, 2, (some .int), 2, false, 0, 0, 4)
/-- Ferryroster$CrewSearch.fillPosts(LFerryroster$CrewSearch;III)V -/
def q_88 : mMeth := (yX0_fillPosts, cX0_fillPosts, 7, none, 4, true, 0, 0, 99)
/-- Ferryroster$CrewSearch.keep(I)V -/
def q_89 : mMeth := (yX0_keep, cX0_keep, 3, none, 2, false, 0, 0, 4)
/-- Ferryroster$OrderSearch.clear()V -/
def q_90 : mMeth := (yX2_clear, cX2_clear, 1, none, 1, false, 0, 0, 6)
/-- Ferryroster$OrderSearch.lookAt(LFerryroster$Sailing;)V -/
def q_91 : mMeth := (yX2_lookAt, cX2_lookAt, 3, none, 2, false, 1, 16, 6)
/-- Ferryroster$OrderSearch.keepCrews()V -/
def q_92 : mMeth := (yX2_keepCrews, cX2_keepCrews, 2, none, 1, false, 0, 0, 6)
/-- Ferryroster$OrderSearch.choose(II)V -/
def q_93 : mMeth := (yX2_choose, cX2_choose, 3, none, 3, false, 0, 0, 6)
/-- Ferryroster$OrderSearch.bestPlace(I)I -/
def q_94 : mMeth := (yX2_bestPlace, cX2_bestPlace, 2, (some .int), 2, false, 0, 0, 6)
/-- Ferryroster$OrderSearch.isBetter(II)Z -/
def q_95 : mMeth := (yX2_isBetter, cX2_isBetter, 3, (some .boolean), 3, false, 0, 0, 6)
/-- Ferryroster$OrderSearch.keep(II)V -/
def q_96 : mMeth := (yX2_keep, cX2_keep, 4, none, 3, false, 0, 0, 6)
/-- Ferryroster$Person.isKind(I)Z -/
def q_97 : mMeth := (yX3_isKind, cX3_isKind, 1, (some .boolean), 1, true, 0, 0, 99)
/-- Ferryroster$Person.lastDayOf(I)I -/
def q_98 : mMeth := (yX3_lastDayOf, cX3_lastDayOf, 2, (some .int), 2, false, 0, 0, 7)
/-- Ferryroster$Person.certify(III)V -/
def q_99 : mMeth := (yX3_certify, cX3_certify, 4, none, 4, false, 0, 0, 7)
/-- Ferryroster$Person.prolong(II)V -/
def q_100 : mMeth := (yX3_prolong, cX3_prolong, 3, none, 3, false, 0, 0, 7)
/-- Ferryroster$Person.isCertified(III)Z -/
def q_101 : mMeth := (yX3_isCertified, cX3_isCertified, 4, (some .boolean), 4, false, 0, 0, 7)
/-- Ferryroster$Person.hasCourse()Z -/
def q_102 : mMeth := (yX3_hasCourse, cX3_hasCourse, 1, (some .boolean), 1, false, 0, 0, 7)
/-- Ferryroster$Person.beginCourse(III)V -/
def q_103 : mMeth := (yX3_beginCourse, cX3_beginCourse, 4, none, 4, false, 0, 0, 7)
/-- Ferryroster$Person.breakCourseOff(I)V -/
def q_104 : mMeth := (yX3_breakCourseOff, cX3_breakCourseOff, 2, none, 2, false, 0, 0, 7)
/-- Ferryroster$Person.endCourse(I)V -/
def q_105 : mMeth := (yX3_endCourse, cX3_endCourse, 2, none, 2, false, 0, 0, 7)
/-- Ferryroster$Person.addWork(II)V -/
def q_106 : mMeth := (yX3_addWork, cX3_addWork, 4, none, 3, false, 0, 0, 7)
/-- Ferryroster$Person.removeWork(II)V -/
def q_107 : mMeth := (yX3_removeWork, cX3_removeWork, 4, none, 3, false, 0, 0, 7)
/-- Ferryroster$Person.worksAt(I)Z -/
def q_108 : mMeth := (yX3_worksAt, cX3_worksAt, 2, (some .boolean), 2, false, 0, 0, 7)
/-- Ferryroster$Person.hoursWorked(II)I -/
def q_109 : mMeth := (yX3_hoursWorked, cX3_hoursWorked, 5, (some .int), 3, false, 0, 0, 7)
/-- Ferryroster$Person.isElsewhere(III)Z -/
def q_110 : mMeth := (yX3_isElsewhere, cX3_isElsewhere, 5, (some .boolean), 4, false, 0, 0, 7)
/-- Ferryroster$Person.wouldWorkTooMuch(IIII)Z -/
def q_111 : mMeth := (yX3_wouldWorkTooMuch, cX3_wouldWorkTooMuch, 8, (some .boolean), 5, false, 0, 0, 7)
/-- Ferryroster$Person.mostByHours(I)I -/
def q_112 : mMeth := (yX3_mostByHours, cX3_mostByHours, 5, (some .int), 2, false, 0, 0, 7)
/-- Ferryroster.pass(I)I -/
def q_113 : mMeth := (yX6_pass, cX6_pass, 4, (some .int), 2, false, 1, 6, 10)
/-- Ferryroster.now()I -/
def q_114 : mMeth := (yX6_now, cX6_now, 1, (some .int), 1, false, 0, 0, 10)
/-- Ferryroster.setDayRule(I)I -/
def q_115 : mMeth := (yX6_setDayRule, cX6_setDayRule, 3, (some .int), 2, false, 1, 6, 10)
/-- Ferryroster.setWeekRule(I)I -/
def q_116 : mMeth := (yX6_setWeekRule, cX6_setWeekRule, 3, (some .int), 2, false, 1, 6, 10)
/-- Ferryroster.today()I -/
def q_117 : mMeth := (yX6_today, cX6_today, 1, (some .int), 1, false, 0, 0, 10)
/-- Ferryroster.letHourCome()I -/
def q_118 : mMeth := (yX6_letHourCome, cX6_letHourCome, 4, (some .int), 1, false, 0, 0, 10)
/-- Ferryroster.endCourses(I)V -/
def q_119 : mMeth := (yX6_endCourses, cX6_endCourses, 3, none, 2, false, 0, 0, 10)
/-- Ferryroster.addPerson()I -/
def q_120 : mMeth := (yX6_addPerson, cX6_addPerson, 2, (some .int), 1, false, 8, 1094, 10)
/-- Ferryroster.grant(III)I -/
def q_121 : mMeth := (yX6_grant, cX6_grant, 6, (some .int), 4, false, 4, 24, 10)
/-- Ferryroster.renew(III)I -/
def q_122 : mMeth := (yX6_renew, cX6_renew, 6, (some .int), 4, false, 5, 30, 10)
/-- Ferryroster.lastDay(II)I -/
def q_123 : mMeth := (yX6_lastDay, cX6_lastDay, 4, (some .int), 3, false, 3, 18, 10)
/-- Ferryroster.callSick(II)I -/
def q_124 : mMeth := (yX6_callSick, cX6_callSick, 8, (some .int), 3, false, 2, 12, 10)
/-- Ferryroster.recover(I)I -/
def q_125 : mMeth := (yX6_recover, cX6_recover, 4, (some .int), 2, false, 2, 12, 10)
/-- Ferryroster.enroll(IIII)I -/
def q_126 : mMeth := (yX6_enroll, cX6_enroll, 7, (some .int), 5, false, 3, 18, 10)
/-- Ferryroster.leaveCourse(I)I -/
def q_127 : mMeth := (yX6_leaveCourse, cX6_leaveCourse, 4, (some .int), 2, false, 2, 12, 10)
/-- Ferryroster.isAway(II)Z -/
def q_128 : mMeth := (yX6_isAway, cX6_isAway, 4, (some .boolean), 3, false, 2, 12, 10)
/-- Ferryroster.isPerson(I)Z -/
def q_129 : mMeth := (yX6_isPerson, cX6_isPerson, 2, (some .boolean), 2, false, 0, 0, 10)
/-- Ferryroster.knownPerson(I)LFerryroster$Person; -/
def q_130 : mMeth := (yX6_knownPerson, cX6_knownPerson, 2, (some (.object "Ferryroster$Person")), 2, false, 1, 6, 10)
/-- Ferryroster.checkKind(I)V -/
def q_131 : mMeth := (yX6_checkKind, cX6_checkKind, 1, none, 1, true, 1, 6, 99)
/-- Ferryroster.checkCertificateDays(I)V -/
def q_132 : mMeth := (yX6_checkCertificateDays, cX6_checkCertificateDays, 1, none, 1, true, 1, 6, 99)
/-- Ferryroster.knownLastDay(LFerryroster$Person;I)I -/
def q_133 : mMeth := (yX6_knownLastDay, cX6_knownLastDay, 3, (some .int), 2, true, 1, 6, 99)
/-- Ferryroster.addShip(I)I -/
def q_134 : mMeth := (yX6_addShip, cX6_addShip, 3, (some .int), 2, false, 5, 84, 10)
/-- Ferryroster.addPost(II)I -/
def q_135 : mMeth := (yX6_addPost, cX6_addPost, 4, (some .int), 3, false, 3, 18, 10)
/-- Ferryroster.plan(III)I -/
def q_136 : mMeth := (yX6_plan, cX6_plan, 7, (some .int), 4, false, 7, 98, 10)
/-- Ferryroster.assign(III)I -/
def q_137 : mMeth := (yX6_assign, cX6_assign, 7, (some .int), 4, false, 5, 30, 10)
/-- Ferryroster.release(II)I -/
def q_138 : mMeth := (yX6_release, cX6_release, 5, (some .int), 3, false, 4, 24, 10)
/-- Ferryroster.cancel(I)I -/
def q_139 : mMeth := (yX6_cancel, cX6_cancel, 4, (some .int), 2, false, 2, 12, 10)
/-- Ferryroster.relieve(I)I -/
def q_140 : mMeth := (yX6_relieve, cX6_relieve, 4, (some .int), 2, false, 3, 18, 10)
/-- Ferryroster.relieveAll()I -/
def q_141 : mMeth := (yX6_relieveAll, cX6_relieveAll, 3, (some .int), 1, false, 24, 384, 10)
/-- Ferryroster.stateOf(I)C -/
def q_142 : mMeth := (yX6_stateOf, cX6_stateOf, 2, (some .char), 2, false, 1, 6, 10)
/-- Ferryroster.personOn(II)I -/
def q_143 : mMeth := (yX6_personOn, cX6_personOn, 4, (some .int), 3, false, 2, 12, 10)
/-- Ferryroster.isComplete(I)Z -/
def q_144 : mMeth := (yX6_isComplete, cX6_isComplete, 3, (some .boolean), 2, false, 2, 12, 10)
/-- Ferryroster.reason(III)I -/
def q_145 : mMeth := (yX6_reason, cX6_reason, 6, (some .int), 4, false, 4, 24, 10)
/-- Ferryroster.fitting(II)I -/
def q_146 : mMeth := (yX6_fitting, cX6_fitting, 6, (some .int), 3, false, 3, 18, 10)
/-- Ferryroster.shortSailings()I -/
def q_147 : mMeth := (yX6_shortSailings, cX6_shortSailings, 3, (some .int), 1, false, 0, 0, 10)
/-- Ferryroster.sailings(C)I -/
def q_148 : mMeth := (yX6_sailings, cX6_sailings, 4, (some .int), 2, false, 1, 6, 10)
/-- Ferryroster.knownShip(I)LFerryroster$Ship; -/
def q_149 : mMeth := (yX6_knownShip, cX6_knownShip, 2, (some (.object "Ferryroster$Ship")), 2, false, 1, 6, 10)
/-- Ferryroster.knownSailing(I)LFerryroster$Sailing; -/
def q_150 : mMeth := (yX6_knownSailing, cX6_knownSailing, 2, (some (.object "Ferryroster$Sailing")), 2, false, 1, 6, 10)
/-- Ferryroster.checkPost(LFerryroster$Sailing;I)V -/
def q_151 : mMeth := (yX6_checkPost, cX6_checkPost, 2, none, 2, true, 1, 6, 99)
/-- Ferryroster.checkPlanned(LFerryroster$Sailing;)V -/
def q_152 : mMeth := (yX6_checkPlanned, cX6_checkPlanned, 1, none, 1, true, 1, 6, 99)
/-- Ferryroster.checkSailingHours(I)V -/
def q_153 : mMeth := (yX6_checkSailingHours, cX6_checkSailingHours, 1, none, 1, true, 1, 6, 99)
/-- Ferryroster.isUnderWay(LFerryroster$Ship;II)Z -/
def q_154 : mMeth := (yX6_isUnderWay, cX6_isUnderWay, 6, (some .boolean), 4, false, 0, 0, 10)
/-- Ferryroster.putOn(LFerryroster$Sailing;II)V -/
def q_155 : mMeth := (yX6_putOn, cX6_putOn, 4, none, 4, false, 0, 0, 10)
/-- Ferryroster.takeOff(LFerryroster$Sailing;I)V -/
def q_156 : mMeth := (yX6_takeOff, cX6_takeOff, 4, none, 3, false, 0, 0, 10)
/-- Ferryroster.takeAllOff(LFerryroster$Sailing;)V -/
def q_157 : mMeth := (yX6_takeAllOff, cX6_takeAllOff, 3, none, 2, false, 0, 0, 10)
/-- Ferryroster.callOff(LFerryroster$Sailing;)V -/
def q_158 : mMeth := (yX6_callOff, cX6_callOff, 2, none, 2, false, 0, 0, 10)
/-- Ferryroster.isShort(LFerryroster$Sailing;)Z -/
def q_159 : mMeth := (yX6_isShort, cX6_isShort, 2, (some .boolean), 2, false, 0, 0, 10)
/-- Ferryroster.hasFittingCrew(LFerryroster$Sailing;)Z -/
def q_160 : mMeth := (yX6_hasFittingCrew, cX6_hasFittingCrew, 4, (some .boolean), 2, false, 0, 0, 10)
/-- Ferryroster.reasonAgainst(LFerryroster$Sailing;ILFerryroster$Person;)I -/
def q_161 : mMeth := (yX6_reasonAgainst, cX6_reasonAgainst, 5, (some .int), 4, false, 0, 0, 10)
/-- Ferryroster.reasonOfWork(LFerryroster$Person;III)I -/
def q_162 : mMeth := (yX6_reasonOfWork, cX6_reasonOfWork, 5, (some .int), 5, false, 0, 0, 10)
/-- Ferryroster.giveRelief(LFerryroster$Sailing;)I -/
def q_163 : mMeth := (yX6_giveRelief, cX6_giveRelief, 4, (some .int), 2, false, 0, 0, 10)
/-- Ferryroster.tryOrders(LFerryroster;IIII)V -/
def q_164 : mMeth := (yX6_tryOrders, cX6_tryOrders, 9, none, 5, true, 0, 0, 99)
/-- Ferryroster.undoRelief(LFerryroster$Sailing;)V -/
def q_165 : mMeth := (yX6_undoRelief, cX6_undoRelief, 3, none, 2, false, 0, 0, 10)
/-- Ferryroster.followBestOrder()I -/
def q_166 : mMeth := (yX6_followBestOrder, cX6_followBestOrder, 5, (some .int), 1, false, 0, 0, 10)
/-- Ferryroster.work(III)I -/
def q_167 : mMeth := (yX6_work, cX6_work, 5, (some .int), 4, false, 2, 12, 10)
/-- Ferryroster.mostInDay(I)I -/
def q_168 : mMeth := (yX6_mostInDay, cX6_mostInDay, 2, (some .int), 2, false, 1, 6, 10)
/-- Ferryroster.mostInDayByHours(I)I -/
def q_169 : mMeth := (yX6_mostInDayByHours, cX6_mostInDayByHours, 2, (some .int), 2, false, 1, 6, 10)
/-- Ferryroster.mostInWeek(I)I -/
def q_170 : mMeth := (yX6_mostInWeek, cX6_mostInWeek, 2, (some .int), 2, false, 1, 6, 10)
/-- Ferryroster.mostInWeekByHours(I)I -/
def q_171 : mMeth := (yX6_mostInWeekByHours, cX6_mostInWeekByHours, 2, (some .int), 2, false, 1, 6, 10)
/-- Ferryroster.nextStart(II)I -/
def q_172 : mMeth := (yX6_nextStart, cX6_nextStart, 5, (some .int), 3, false, 3, 18, 10)
/-- Ferryroster.workShare(I)F -/
def q_173 : mMeth := (yX6_workShare, cX6_workShare, 3, (some .float), 2, false, 2, 12, 10)
/-- Ferryroster.meanWork()D -/
def q_174 : mMeth := (yX6_meanWork, cX6_meanWork, 4, (some .double), 1, false, 1, 6, 10)
/-- Ferryroster.isSound()Z -/
def q_175 : mMeth := (yX6_isSound, cX6_isSound, 3, (some .boolean), 1, false, 0, 0, 10)
/-- Ferryroster.sharesSomebodyWithLater(ILFerryroster$Sailing;)Z -/
def q_176 : mMeth := (yX6_sharesSomebodyWithLater, cX6_sharesSomebodyWithLater, 5, (some .boolean), 3, false, 0, 0, 10)
/-- Ferryroster.isCountedAlikeForAll()Z -/
def q_177 : mMeth := (yX6_isCountedAlikeForAll, cX6_isCountedAlikeForAll, 3, (some .boolean), 1, false, 0, 0, 10)
/-- Ferryroster.mostFromSailings(LFerryroster$Person;I)I -/
def q_178 : mMeth := (yX6_mostFromSailings, cX6_mostFromSailings, 8, (some .int), 3, false, 0, 0, 10)
/-- Ferryroster.hoursOnSailings(LFerryroster$Person;II)I -/
def q_179 : mMeth := (yX6_hoursOnSailings, cX6_hoursOnSailings, 7, (some .int), 4, false, 0, 0, 10)
/-- java/lang/Long.bitCount(J)I -/
def q_180 : mMeth := (yJ13_bitCount_95d88, cJ13_bitCount_95d88, 2, (some .int), 1, true, 0, 0, 99)
def mL_ : List (Nat × mMeth) := [(1, q_1), (2, q_2), (3, q_3), (4, q_4), (5, q_5), (6, q_6), (7, q_7), (8, q_8), (9, q_9), (10, q_10), (11, q_11), (12, q_12), (13, q_13), (14, q_14), (15, q_15), (16, q_16), (17, q_17), (18, q_18), (19, q_19), (20, q_20), (21, q_21), (22, q_22), (23, q_23), (24, q_24), (25, q_25), (26, q_26), (27, q_27), (28, q_28), (29, q_29), (30, q_30), (31, q_31), (32, q_32), (33, q_33), (34, q_34), (35, q_35), (36, q_36), (37, q_37), (38, q_38), (39, q_39), (40, q_40), (41, q_41), (42, q_42), (43, q_43), (44, q_44), (45, q_45), (46, q_46), (47, q_47), (48, q_48), (49, q_49), (50, q_50), (51, q_51), (52, q_52), (53, q_53), (54, q_54), (55, q_55), (56, q_56), (57, q_57), (58, q_58), (59, q_59), (60, q_60), (61, q_61), (62, q_62), (63, q_63), (64, q_64), (65, q_65), (66, q_66), (67, q_67), (68, q_68), (69, q_69), (70, q_70), (71, q_71), (72, q_72), (73, q_73), (74, q_74), (75, q_75), (76, q_76), (77, q_77), (78, q_78), (79, q_79), (80, q_80), (81, q_81), (82, q_82), (83, q_83), (84, q_84), (85, q_85), (86, q_86), (87, q_87), (88, q_88), (89, q_89), (90, q_90), (91, q_91), (92, q_92), (93, q_93), (94, q_94), (95, q_95), (96, q_96), (97, q_97), (98, q_98), (99, q_99), (100, q_100), (101, q_101), (102, q_102), (103, q_103), (104, q_104), (105, q_105), (106, q_106), (107, q_107), (108, q_108), (109, q_109), (110, q_110), (111, q_111), (112, q_112), (113, q_113), (114, q_114), (115, q_115), (116, q_116), (117, q_117), (118, q_118), (119, q_119), (120, q_120), (121, q_121), (122, q_122), (123, q_123), (124, q_124), (125, q_125), (126, q_126), (127, q_127), (128, q_128), (129, q_129), (130, q_130), (131, q_131), (132, q_132), (133, q_133), (134, q_134), (135, q_135), (136, q_136), (137, q_137), (138, q_138), (139, q_139), (140, q_140), (141, q_141), (142, q_142), (143, q_143), (144, q_144), (145, q_145), (146, q_146), (147, q_147), (148, q_148), (149, q_149), (150, q_150), (151, q_151), (152, q_152), (153, q_153), (154, q_154), (155, q_155), (156, q_156), (157, q_157), (158, q_158), (159, q_159), (160, q_160), (161, q_161), (162, q_162), (163, q_163), (164, q_164), (165, q_165), (166, q_166), (167, q_167), (168, q_168), (169, q_169), (170, q_170), (171, q_171), (172, q_172), (173, q_173), (174, q_174), (175, q_175), (176, q_176), (177, q_177), (178, q_178), (179, q_179), (180, q_180)]
def kL_ : List (Nat × mCode) := [(1, k_1), (2, k_2), (3, k_3), (4, k_4), (5, k_5), (6, k_6), (7, k_7), (8, k_8), (9, k_9), (10, k_10), (11, k_11), (12, k_12), (13, k_13), (14, k_14), (15, k_15), (16, k_16), (17, k_17), (18, k_18), (19, k_19), (20, k_20), (21, k_21), (22, k_22), (23, k_23), (24, k_24), (25, k_25), (26, k_26), (27, k_27), (28, k_28), (29, k_29), (30, k_30), (31, k_31), (32, k_32), (33, k_33), (34, k_34), (35, k_35), (36, k_36), (37, k_37), (38, k_38), (39, k_39), (40, k_40), (41, k_41), (42, k_42), (43, k_43), (44, k_44), (45, k_45), (46, k_46), (47, k_47), (48, k_48), (49, k_49), (50, k_50), (51, k_51), (52, k_52), (53, k_53), (54, k_54), (55, k_55), (56, k_56), (57, k_57), (58, k_58), (59, k_59), (60, k_60), (61, k_61), (62, k_62), (63, k_63), (64, k_64), (65, k_65), (66, k_66), (67, k_67), (68, k_68), (69, k_69), (70, k_70), (71, k_71), (72, k_72), (73, k_73), (74, k_74), (75, k_75), (76, k_76), (77, k_77), (78, k_78), (79, k_79), (80, k_80), (81, k_81), (82, k_82), (83, k_83), (84, k_84), (85, k_85), (86, k_86), (87, k_87), (88, k_88), (89, k_89), (90, k_90), (91, k_91), (92, k_92), (93, k_93), (94, k_94), (95, k_95), (96, k_96), (97, k_97), (98, k_98), (99, k_99), (100, k_100), (101, k_101), (102, k_102), (103, k_103), (104, k_104), (105, k_105), (106, k_106), (107, k_107), (108, k_108), (109, k_109), (110, k_110), (111, k_111), (112, k_112), (113, k_113), (114, k_114), (115, k_115), (116, k_116), (117, k_117), (118, k_118), (119, k_119), (120, k_120), (121, k_121), (122, k_122), (123, k_123), (124, k_124), (125, k_125), (126, k_126), (127, k_127), (128, k_128), (129, k_129), (130, k_130), (131, k_131), (132, k_132), (133, k_133), (134, k_134), (135, k_135), (136, k_136), (137, k_137), (138, k_138), (139, k_139), (140, k_140), (141, k_141), (142, k_142), (143, k_143), (144, k_144), (145, k_145), (146, k_146), (147, k_147), (148, k_148), (149, k_149), (150, k_150), (151, k_151), (152, k_152), (153, k_153), (154, k_154), (155, k_155), (156, k_156), (157, k_157), (158, k_158), (159, k_159), (160, k_160), (161, k_161), (162, k_162), (163, k_163), (164, k_164), (165, k_165), (166, k_166), (167, k_167), (168, k_168), (169, k_169), (170, k_170), (171, k_171), (172, k_172), (173, k_173), (174, k_174), (175, k_175), (176, k_176), (177, k_177), (178, k_178), (179, k_179), (180, k_180)]
def sL_ : List (Nat × Nat × Nat × Nat × Nat) := [(1, 1, 0, 0, 11), (2, 2, 0, 0, 11), (3, 3, 0, 0, 99), (4, 2, 0, 0, 11), (5, 2, 0, 0, 11), (6, 1, 0, 0, 11), (7, 2, 0, 0, 11), (8, 2, 0, 0, 11), (9, 1, 0, 0, 11), (10, 2, 0, 0, 11), (11, 2, 0, 0, 11), (12, 1, 0, 0, 11), (13, 4, 0, 0, 11), (14, 4, 0, 0, 11), (15, 3, 0, 0, 11), (16, 3, 0, 0, 11), (17, 2, 0, 0, 11), (18, 2, 0, 0, 11), (19, 3, 0, 0, 11), (20, 2, 0, 0, 11), (21, 5, 0, 0, 11), (22, 2, 0, 0, 11), (23, 3, 0, 0, 11), (24, 2, 0, 0, 11), (25, 2, 0, 0, 11), (26, 3, 0, 0, 11), (27, 4, 0, 0, 11), (28, 3, 0, 0, 11), (29, 3, 0, 0, 11), (30, 4, 0, 0, 99), (31, 5, 0, 0, 11), (32, 3, 0, 0, 11), (33, 4, 0, 0, 11), (34, 2, 0, 0, 11), (35, 2, 0, 0, 11), (36, 3, 0, 0, 11), (37, 4, 0, 0, 11), (38, 3, 0, 0, 11), (39, 2, 0, 0, 11), (40, 2, 0, 0, 11), (41, 4, 0, 0, 11), (42, 2, 0, 0, 11), (43, 2, 0, 0, 11), (44, 3, 0, 0, 99), (45, 1, 0, 0, 11), (46, 2, 0, 0, 11), (47, 3, 0, 0, 11), (48, 1, 0, 0, 11), (49, 2, 0, 0, 11), (50, 3, 0, 0, 11), (51, 2, 0, 0, 11), (52, 4, 0, 0, 11), (53, 3, 0, 0, 11), (54, 1, 0, 0, 11), (55, 2, 0, 0, 11), (56, 4, 0, 0, 11), (57, 3, 0, 0, 11), (58, 2, 0, 0, 11), (59, 2, 0, 0, 11), (60, 2, 0, 0, 11), (61, 2, 0, 0, 11), (62, 3, 0, 0, 11), (63, 2, 0, 0, 11), (64, 1, 0, 0, 11), (65, 1, 0, 0, 11), (66, 3, 0, 0, 5), (67, 2, 0, 0, 5), (68, 2, 0, 0, 5), (69, 2, 0, 0, 5), (70, 3, 0, 0, 5), (71, 1, 0, 0, 8), (72, 1, 0, 0, 8), (73, 1, 0, 0, 8), (74, 3, 0, 0, 8), (75, 2, 0, 0, 8), (76, 3, 0, 0, 8), (77, 1, 0, 0, 8), (78, 2, 0, 0, 8), (79, 2, 0, 0, 8), (80, 1, 0, 0, 8), (81, 2, 0, 0, 8), (82, 2, 0, 0, 9), (83, 2, 0, 0, 9), (84, 2, 0, 0, 4), (85, 3, 0, 0, 4), (86, 1, 0, 0, 4), (87, 2, 0, 0, 4), (88, 4, 0, 0, 99), (89, 2, 0, 0, 4), (90, 1, 0, 0, 6), (91, 2, 1, 16, 6), (92, 1, 0, 0, 6), (93, 3, 0, 0, 6), (94, 2, 0, 0, 6), (95, 3, 0, 0, 6), (96, 3, 0, 0, 6), (97, 1, 0, 0, 99), (98, 2, 0, 0, 7), (99, 4, 0, 0, 7), (100, 3, 0, 0, 7), (101, 4, 0, 0, 7), (102, 1, 0, 0, 7), (103, 4, 0, 0, 7), (104, 2, 0, 0, 7), (105, 2, 0, 0, 7), (106, 3, 0, 0, 7), (107, 3, 0, 0, 7), (108, 2, 0, 0, 7), (109, 3, 0, 0, 7), (110, 4, 0, 0, 7), (111, 5, 0, 0, 7), (112, 2, 0, 0, 7), (113, 2, 1, 6, 10), (114, 1, 0, 0, 10), (115, 2, 1, 6, 10), (116, 2, 1, 6, 10), (117, 1, 0, 0, 10), (118, 1, 0, 0, 10), (119, 2, 0, 0, 10), (120, 1, 8, 1094, 10), (121, 4, 4, 24, 10), (122, 4, 5, 30, 10), (123, 3, 3, 18, 10), (124, 3, 2, 12, 10), (125, 2, 2, 12, 10), (126, 5, 3, 18, 10), (127, 2, 2, 12, 10), (128, 3, 2, 12, 10), (129, 2, 0, 0, 10), (130, 2, 1, 6, 10), (131, 1, 1, 6, 99), (132, 1, 1, 6, 99), (133, 2, 1, 6, 99), (134, 2, 5, 84, 10), (135, 3, 3, 18, 10), (136, 4, 7, 98, 10), (137, 4, 5, 30, 10), (138, 3, 4, 24, 10), (139, 2, 2, 12, 10), (140, 2, 3, 18, 10), (141, 1, 24, 384, 10), (142, 2, 1, 6, 10), (143, 3, 2, 12, 10), (144, 2, 2, 12, 10), (145, 4, 4, 24, 10), (146, 3, 3, 18, 10), (147, 1, 0, 0, 10), (148, 2, 1, 6, 10), (149, 2, 1, 6, 10), (150, 2, 1, 6, 10), (151, 2, 1, 6, 99), (152, 1, 1, 6, 99), (153, 1, 1, 6, 99), (154, 4, 0, 0, 10), (155, 4, 0, 0, 10), (156, 3, 0, 0, 10), (157, 2, 0, 0, 10), (158, 2, 0, 0, 10), (159, 2, 0, 0, 10), (160, 2, 0, 0, 10), (161, 4, 0, 0, 10), (162, 5, 0, 0, 10), (163, 2, 0, 0, 10), (164, 5, 0, 0, 99), (165, 2, 0, 0, 10), (166, 1, 0, 0, 10), (167, 4, 2, 12, 10), (168, 2, 1, 6, 10), (169, 2, 1, 6, 10), (170, 2, 1, 6, 10), (171, 2, 1, 6, 10), (172, 3, 3, 18, 10), (173, 2, 2, 12, 10), (174, 1, 1, 6, 10), (175, 1, 0, 0, 10), (176, 3, 0, 0, 10), (177, 1, 0, 0, 10), (178, 3, 0, 0, 10), (179, 4, 0, 0, 10), (180, 1, 0, 0, 99)]
def M_ : mTbl := lookC mL_
def cd_ (y : Nat) : mCode := match lookC kL_ y with
  | some c => c
  | none => []
def sg_ : mSig := fun y => if 500 ≤ y then mPsg y else match lookC sL_ y with
  | some z => z
  | none => (0, 0, 0, 0)
