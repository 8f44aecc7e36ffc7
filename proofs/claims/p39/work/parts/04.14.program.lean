/-! the program of the small machine, made by a program of ours (wip/whole/prog.py) out of the decode rows -/
def pm_X0_answer : sm_M := (yX0_answer, prog_2_method_5_code, 7, (some .boolean), 4, 0, 0, [1169, 13, 1], [
  (0, some [0, 1, 2, 3, 4], 0, [(.aload_n 1, []), (.getfield 46, [10, 15, 165]), (.getfield 52, [8, 0, 90]), (.iload_n 2, []), (.iaload, []), (.istore 5, []), (.aload_n 1, []), (.getfield 46, [10, 15, 165]), (.getfield 57, [8, 1, 93]), (.iload_n 2, []), (.iaload, []), (.istore 6, []), (.aload_n 0, []), (.getfield 25, [0, 0, 482]), (.getfield 81, [2, 0, 357]), (.iload_n 3, []), (.invokevirtual 85, [248, 1, 5, 1170, 905, 906, 0]), (.iload 4, []), (.ifCond .ne 36, [2, 1])]),
  (38, none, 0, [(.aload_n 0, []), (.getfield 25, [0, 0, 482]), (.iload_n 3, []), (.iconst 1, []), (.iadd, []), (.iload 5, []), (.iload 6, []), (.aload_n 1, []), (.getfield 46, [10, 15, 165]), (.getfield 64, [8, 2, 98]), (.iload_n 2, []), (.iaload, []), (.aload_n 1, []), (.getfield 46, [10, 15, 165]), (.getfield 67, [8, 3, 101]), (.iload_n 2, []), (.iaload, []), (.invokevirtual 91, [221, 1, 2, 1171, 851, 852, 0]), (.ireturn, [])]),
  (71, none, 0, [(.iload 4, []), (.iconst 1, []), (.if_icmp .ne 36, [4, 3])]),
  (77, none, 0, [(.aload_n 0, []), (.getfield 25, [0, 0, 482]), (.getfield 81, [2, 0, 357]), (.iload_n 3, []), (.iconst 1, []), (.iadd, []), (.iload 5, []), (.iconst 1, []), (.iadd, []), (.iload 6, []), (.iconst 1, []), (.iadd, []), (.aload_n 1, []), (.getfield 46, [10, 15, 165]), (.getfield 64, [8, 2, 98]), (.iload_n 2, []), (.iaload, []), (.iconst 1, []), (.isub, []), (.invokevirtual 95, [256, 1, 5, 1172, 855, 856, 0]), (.ireturn, [])]),
  (110, none, 0, [(.aload_n 0, []), (.getfield 25, [0, 0, 482]), (.getfield 81, [2, 0, 357]), (.iload_n 3, []), (.iconst 1, []), (.iadd, []), (.iload 6, []), (.iconst 1, []), (.iadd, []), (.iload 5, []), (.iconst 1, []), (.iadd, []), (.aload_n 1, []), (.getfield 46, [10, 15, 165]), (.getfield 67, [8, 3, 101]), (.iload_n 2, []), (.iaload, []), (.ineg, []), (.iconst 1, []), (.isub, []), (.invokevirtual 95, [256, 1, 5, 1172, 855, 856, 0]), (.ireturn, [])])])
def pm_X0_answered : sm_M := (yX0_answered, prog_2_method_2_code, 12, (some .int), 3, 0, 0, [1146, 13, 1], [
  (0, some [0, 1, 2, 3], 1, [(.iconst 0, []), (.istore 4, []), (.iconst 0, []), (.istore 5, [])]),
  (6, some [0, 1, 2, 3, 4, 5], 0, [(.iload 5, []), (.aload_n 0, []), (.getfield 25, [0, 0, 482]), (.getfield 33, [2, 14, 377]), (.if_icmp .ge 184, [18, 2])]),
  (18, none, 3, [(.aload_n 0, []), (.getfield 25, [0, 0, 482]), (.aload_n 0, []), (.getfield 29, [0, 1, 483]), (.iload 5, []), (.invokevirtual 39, [222, 1, 2, 1147, 930, 931, 0]), (.pop, []), (.aload_n 0, []), (.getfield 25, [0, 0, 482]), (.aload_n 0, []), (.getfield 25, [0, 0, 482]), (.getfield 43, [2, 11, 369]), (.aload_n 1, []), (.getfield 46, [10, 15, 165]), (.getfield 52, [8, 0, 90]), (.iload_n 2, []), (.iaload, []), (.aload_n 1, []), (.getfield 46, [10, 15, 165]), (.getfield 57, [8, 1, 93]), (.iload_n 2, []), (.iaload, []), (.iconst 0, []), (.invokevirtual 60, [224, 1, 2, 1148, 959, 960, 0]), (.istore 6, []), (.aload_n 0, []), (.getfield 25, [0, 0, 482]), (.aload_n 0, []), (.getfield 25, [0, 0, 482]), (.getfield 43, [2, 11, 369]), (.aload_n 1, []), (.getfield 46, [10, 15, 165]), (.getfield 52, [8, 0, 90]), (.iload_n 2, []), (.iaload, []), (.aload_n 1, []), (.getfield 46, [10, 15, 165]), (.getfield 57, [8, 1, 93]), (.iload_n 2, []), (.iaload, [])]),
  (96, none, 0, [(.iconst 1, []), (.invokevirtual 60, [224, 1, 2, 1148, 959, 960, 0]), (.istore 7, []), (.aload_n 1, []), (.getfield 46, [10, 15, 165]), (.getfield 64, [8, 2, 98]), (.iload_n 2, []), (.iaload, []), (.istore 8, []), (.aload_n 1, []), (.getfield 46, [10, 15, 165]), (.getfield 67, [8, 3, 101]), (.iload_n 2, []), (.iaload, []), (.istore 9, []), (.iload 8, []), (.iload 9, []), (.if_icmp .gt 21, [7, 4])]),
  (131, none, 0, [(.iload 6, []), (.iload 9, []), (.if_icmp .gt 14, [7, 5])]),
  (138, none, 0, [(.iload 7, []), (.iload 8, []), (.if_icmp .lt 7, [7, 6])]),
  (145, none, 0, [(.iconst 1, []), (.goto 4, [8])]),
  (149, none, 8, [(.iconst 0, [])]),
  (150, some [0, 1, 2, 3, 4, 5, 6, 7, 8, 9], 0, [(.istore 10, []), (.iload 6, []), (.iload 8, []), (.if_icmp .lt 10, [10, 9])]),
  (159, none, 0, [(.iload 7, []), (.iload 9, []), (.if_icmp .le 7, [11, 10])]),
  (166, none, 0, [(.iconst 1, []), (.goto 4, [12])]),
  (170, none, 12, [(.iconst 0, [])]),
  (171, some [0, 1, 2, 3, 4, 5, 10], 0, [(.istore 11, []), (.iload_n 3, []), (.ifCond .eq 11, [15, 13])]),
  (177, none, 0, [(.iload 10, []), (.ifCond .eq 14, [17, 14])]),
  (182, none, 0, [(.goto 8, [16])]),
  (185, none, 0, [(.iload 11, []), (.ifCond .eq 6, [17, 16])]),
  (190, none, 17, [(.iinc 4 1, [])]),
  (193, some [0, 1, 2, 3, 4, 5], 0, [(.iinc 5 1, []), (.goto (-190), [1])]),
  (199, none, 0, [(.iload 4, []), (.ireturn, [])])])
def pm_X0_answersOf : sm_M := (yX0_answersOf, prog_2_method_10_code, 4, (some .int), 2, 0, 0, [1194, 13, 1], [
  (0, some [0, 1], 1, [(.iconst (-1), []), (.istore_n 2, []), (.iconst 0, []), (.istore_n 3, [])]),
  (4, some [0, 1, 2, 3], 0, [(.iload_n 3, []), (.aload_n 0, []), (.getfield 74, [10, 4, 134]), (.if_icmp .ge 45, [7, 2])]),
  (12, none, 0, [(.iload_n 1, []), (.iload_n 3, []), (.ishr, []), (.iconst 1, []), (.iand, []), (.ifCond .eq 11, [4, 3])]),
  (20, none, 4, [(.iload_n 2, []), (.getstatic 122, [1003, 1190]), (.iload_n 3, []), (.iaload, []), (.iand, []), (.istore_n 2, [])]),
  (28, none, 0, [(.iload_n 1, []), (.iconst 5, []), (.iload_n 3, []), (.iadd, []), (.ishr, []), (.iconst 1, []), (.iand, []), (.ifCond .eq 13, [6, 5])]),
  (38, none, 6, [(.iload_n 2, []), (.getstatic 122, [1003, 1190]), (.iload_n 3, []), (.iaload, []), (.iconst (-1), []), (.ixor, []), (.iand, []), (.istore_n 2, [])]),
  (48, none, 0, [(.iinc 3 1, []), (.goto (-47), [1])]),
  (54, none, 0, [(.iload_n 2, []), (.ireturn, [])])])
def pm_X0_countLeft : sm_M := (yX0_countLeft, prog_2_method_11_code, 5, (some .int), 2, 0, 0, [1198, 13, 1], [
  (0, some [0, 1, 2], 1, [(.iconst 0, []), (.istore_n 3, []), (.iconst 0, []), (.istore 4, [])]),
  (5, some [0, 1, 2, 3, 4], 0, [(.iload 4, []), (.iload_n 1, []), (.if_icmp .ge 28, [6, 2])]),
  (11, none, 0, [(.iload_n 2, []), (.ifCond .eq 24, [6, 3])]),
  (15, none, 0, [(.aload_n 0, []), (.getfield 9, [0, 2, 484]), (.iload 4, []), (.iaload, []), (.iload_n 2, []), (.iand, []), (.ifCond .eq 6, [5, 4])]),
  (27, none, 5, [(.iinc 3 1, [])]),
  (30, none, 0, [(.iinc 4 1, []), (.goto (-28), [1])]),
  (36, none, 0, [(.iload_n 3, []), (.ireturn, [])])])
def pm_X0_countStates : sm_M := (yX0_countStates, prog_2_method_9_code, 4, none, 1, 0, 0, [1184, 13, 1], [
  (0, some [0, 1], 0, [(.aload_n 0, []), (.getfield 21, [0, 5, 488]), (.ifCond .eq 4, [2, 1])]),
  (7, none, 0, [(.return_, [])]),
  (8, none, 3, [(.aload_n 0, []), (.iconst 1, []), (.putfield 21, [0, 5, 488]), (.aload_n 0, []), (.getfield 25, [0, 0, 482]), (.getfield 33, [2, 14, 377]), (.bipush 64, []), (.invokestatic 103, [2, 1185, 659]), (.istore_n 2, []), (.iconst 0, []), (.istore_n 3, [])]),
  (28, some [0, 1, 2, 3], 0, [(.iload_n 3, []), (.iload_n 2, []), (.if_icmp .ge 44, [5, 4])]),
  (33, none, 0, [(.aload_n 0, []), (.getfield 25, [0, 0, 482]), (.aload_n 0, []), (.getfield 29, [0, 1, 483]), (.iload_n 3, []), (.invokevirtual 39, [222, 1, 2, 1147, 930, 931, 0]), (.pop, []), (.aload_n 0, []), (.getfield 9, [0, 2, 484]), (.iload_n 3, []), (.iconst 0, []), (.iastore, []), (.aload_n 0, []), (.aload_n 1, []), (.iload_n 3, []), (.iconst 0, []), (.aload_n 0, []), (.getfield 25, [0, 0, 482]), (.getfield 43, [2, 11, 369]), (.iconst (-1), []), (.invokevirtual 111, [10, 1, 0, 1186, 1188, 2830, 0]), (.iinc 3 1, []), (.goto (-43), [3])]),
  (74, none, 6, [(.iconst 0, []), (.istore_n 3, [])]),
  (76, some [0, 1, 2, 3], 0, [(.iload_n 3, []), (.sipush 1024, []), (.if_icmp .ge 25, [8, 7])]),
  (83, none, 0, [(.aload_n 0, []), (.getfield 15, [0, 3, 485]), (.iload_n 3, []), (.aload_n 0, []), (.iload_n 2, []), (.aload_n 1, []), (.iload_n 3, []), (.invokestatic 115, [2, 0, 0, 1192, 1193, 0, 0]), (.invokevirtual 119, [3, 1, 0, 1195, 1197, 2831, 0]), (.iastore, []), (.iinc 3 1, []), (.goto (-26), [6])]),
  (105, none, 0, [(.return_, [])])])
def pm_X0_firstQuestion : sm_M := (yX0_firstQuestion, prog_2_method_8_code, 3, (some .int), 1, 0, 0, [1215, 13, 1], [
  (0, some [0, 1], 1, [(.iconst 0, []), (.istore_n 2, [])]),
  (2, some [0, 1, 2], 0, [(.iload_n 2, []), (.aload_n 1, []), (.getfield 74, [10, 4, 134]), (.if_icmp .ge 35, [6, 2])]),
  (10, none, 0, [(.aload_n 0, []), (.getfield 18, [0, 4, 486]), (.iconst 0, []), (.iaload, []), (.ifCond .le 26, [6, 3])]),
  (19, none, 0, [(.aload_n 0, []), (.iconst 0, []), (.iload_n 2, []), (.invokevirtual 99, [9, 1, 0, 1203, 1205, 3072, 0]), (.aload_n 0, []), (.getfield 18, [0, 4, 486]), (.iconst 0, []), (.iaload, []), (.if_icmp .ne 5, [5, 4])]),
  (34, none, 0, [(.iload_n 2, []), (.ireturn, [])]),
  (36, none, 0, [(.iinc 2 1, []), (.goto (-37), [1])]),
  (42, none, 0, [(.bipush (-2), []), (.ireturn, [])])])
def pm_X0_init : sm_M := (yX0_init, prog_2_method_1_code, 3, none, 2, 3, 2112, [480, 13, 1], [
  (0, some [0, 1, 2], 0, [(.aload_n 0, []), (.invokespecial 3, [481, 24, 25]), (.aload_n 0, []), (.bipush 64, []), (.newarray .int, [0, 56]), (.putfield 9, [0, 2, 484]), (.aload_n 0, []), (.sipush 1024, []), (.newarray .int, [0, 56]), (.putfield 15, [0, 3, 485]), (.aload_n 0, []), (.sipush 1024, []), (.newarray .int, [0, 56]), (.putfield 18, [0, 4, 486]), (.aload_n 0, []), (.iconst 0, []), (.putfield 21, [0, 5, 488]), (.aload_n 0, []), (.aload_n 1, []), (.putfield 25, [0, 0, 482]), (.aload_n 0, []), (.aload_n 2, []), (.putfield 29, [0, 1, 483]), (.return_, [])])])
def pm_X0_isLeft : sm_M := (yX0_isLeft, prog_2_method_4_code, 6, (some .boolean), 5, 0, 0, [1165, 13, 1], [
  (0, some [0, 1, 2, 3, 4, 5], 0, [(.iload_n 2, []), (.aload_n 1, []), (.getfield 74, [10, 4, 134]), (.if_icmp .ge 8, [2, 1])]),
  (8, none, 0, [(.iload_n 2, []), (.iconst 5, []), (.if_icmp .lt 5, [3, 2])]),
  (13, none, 0, [(.iconst 1, []), (.ireturn, [])]),
  (15, none, 0, [(.iload 4, []), (.iload_n 2, []), (.ishr, []), (.iconst 1, []), (.iand, []), (.ifCond .eq 38, [9, 4])]),
  (24, none, 0, [(.aload_n 0, []), (.aload_n 1, []), (.iload_n 2, []), (.iload_n 3, []), (.iconst 0, []), (.invokevirtual 77, [0, 1, 0, 1166, 1168, 2828, 0]), (.ifCond .eq 25, [7, 5])]),
  (35, none, 0, [(.aload_n 0, []), (.aload_n 1, []), (.iload_n 2, []), (.iconst 1, []), (.iadd, []), (.iload_n 3, []), (.iconst 1, []), (.iadd, []), (.iload 4, []), (.iload 5, []), (.invokevirtual 70, [7, 1, 0, 1162, 1164, 2827, 0]), (.ifCond .eq 7, [7, 6])]),
  (53, none, 0, [(.iconst 1, []), (.goto 4, [8])]),
  (57, none, 8, [(.iconst 0, [])]),
  (58, none, 0, [(.ireturn, [])]),
  (59, none, 0, [(.iload 5, []), (.iload_n 2, []), (.ishr, []), (.iconst 1, []), (.iand, []), (.ifCond .ne 17, [11, 10])]),
  (68, none, 0, [(.aload_n 0, []), (.aload_n 1, []), (.iload_n 2, []), (.iconst 1, []), (.iadd, []), (.iload_n 3, []), (.iload 4, []), (.iload 5, []), (.invokevirtual 70, [7, 1, 0, 1162, 1164, 2827, 0]), (.ireturn, [])]),
  (82, none, 0, [(.aload_n 0, []), (.aload_n 1, []), (.iload_n 2, []), (.iload_n 3, []), (.iconst 1, []), (.invokevirtual 77, [0, 1, 0, 1166, 1168, 2828, 0]), (.ifCond .eq 23, [14, 12])]),
  (93, none, 0, [(.aload_n 0, []), (.aload_n 1, []), (.iload_n 2, []), (.iconst 1, []), (.iadd, []), (.iload_n 3, []), (.iconst 1, []), (.iadd, []), (.iload 4, []), (.iload 5, []), (.invokevirtual 70, [7, 1, 0, 1162, 1164, 2827, 0]), (.ifCond .eq 5, [14, 13])]),
  (111, none, 0, [(.iconst 1, []), (.ireturn, [])]),
  (113, some [0, 1, 2, 3, 4, 5], 0, [(.aload_n 0, []), (.aload_n 1, []), (.iload_n 2, []), (.iload_n 3, []), (.iconst 2, []), (.invokevirtual 77, [0, 1, 0, 1166, 1168, 2828, 0]), (.ifCond .eq 25, [17, 15])]),
  (124, none, 0, [(.aload_n 0, []), (.aload_n 1, []), (.iload_n 2, []), (.iconst 1, []), (.iadd, []), (.iload_n 3, []), (.iconst 1, []), (.iadd, []), (.iload 4, []), (.iload 5, []), (.invokevirtual 70, [7, 1, 0, 1162, 1164, 2827, 0]), (.ifCond .eq 7, [17, 16])]),
  (142, none, 0, [(.iconst 1, []), (.goto 4, [18])]),
  (146, none, 18, [(.iconst 0, [])]),
  (147, some [], 0, [(.ireturn, [])])])
def pm_X0_leftWith : sm_M := (yX0_leftWith, prog_2_method_3_code, 6, (some .int), 3, 0, 0, [1161, 13, 1], [
  (0, some [0, 1, 2, 3], 1, [(.iconst 0, []), (.istore 4, []), (.iconst 0, []), (.istore 5, [])]),
  (6, some [0, 1, 2, 3, 4, 5], 0, [(.iload 5, []), (.aload_n 0, []), (.getfield 25, [0, 0, 482]), (.getfield 33, [2, 14, 377]), (.if_icmp .ge 44, [5, 2])]),
  (18, none, 0, [(.aload_n 0, []), (.getfield 25, [0, 0, 482]), (.aload_n 0, []), (.getfield 29, [0, 1, 483]), (.iload 5, []), (.invokevirtual 39, [222, 1, 2, 1147, 930, 931, 0]), (.pop, []), (.aload_n 0, []), (.aload_n 1, []), (.iconst 0, []), (.aload_n 0, []), (.getfield 25, [0, 0, 482]), (.getfield 43, [2, 11, 369]), (.iload_n 2, []), (.iload_n 3, []), (.invokevirtual 70, [7, 1, 0, 1162, 1164, 2827, 0]), (.ifCond .eq 6, [4, 3])]),
  (50, none, 4, [(.iinc 4 1, [])]),
  (53, none, 0, [(.iinc 5 1, []), (.goto (-50), [1])]),
  (59, none, 0, [(.iload 4, []), (.ireturn, [])])])
def pm_X0_neededWith : sm_M := (yX0_neededWith, prog_2_method_7_code, 5, (some .int), 2, 0, 0, [1206, 13, 1], [
  (0, some [0, 1, 2], 0, [(.iconst 1, []), (.iload_n 2, []), (.ishl, []), (.istore_n 3, []), (.iconst 1, []), (.iconst 5, []), (.iload_n 2, []), (.iadd, []), (.ishl, []), (.istore 4, []), (.iload_n 1, []), (.iload_n 3, []), (.iload 4, []), (.ior, []), (.iand, []), (.ifCond .eq 6, [2, 1])]),
  (20, none, 0, [(.bipush 6, []), (.ireturn, [])]),
  (23, none, 0, [(.bipush 6, []), (.iconst 1, []), (.aload_n 0, []), (.getfield 18, [0, 4, 486]), (.iload_n 1, []), (.iload_n 3, []), (.ior, []), (.iaload, []), (.aload_n 0, []), (.getfield 18, [0, 4, 486]), (.iload_n 1, []), (.iload 4, []), (.ior, []), (.iaload, []), (.invokestatic 108, [1, 1207, 888]), (.iadd, []), (.invokestatic 103, [2, 1185, 659]), (.ireturn, [])])])
def pm_X0_spread : sm_M := (yX0_spread, prog_2_method_12_code, 8, none, 5, 0, 0, [1189, 13, 1], [
  (0, some [0, 1, 2, 3, 4, 5], 0, [(.iload 5, []), (.aload_n 0, []), (.getfield 9, [0, 2, 484]), (.iload_n 2, []), (.iaload, []), (.iconst (-1), []), (.ixor, []), (.iand, []), (.ifCond .ne 4, [2, 1])]),
  (14, none, 0, [(.return_, [])]),
  (15, none, 0, [(.iload_n 3, []), (.aload_n 1, []), (.getfield 74, [10, 4, 134]), (.if_icmp .ge 8, [4, 3])]),
  (23, none, 0, [(.iload_n 3, []), (.iconst 5, []), (.if_icmp .lt 15, [5, 4])]),
  (28, none, 0, [(.aload_n 0, []), (.getfield 9, [0, 2, 484]), (.iload_n 2, []), (.dup2, []), (.iaload, []), (.iload 5, []), (.ior, []), (.iastore, []), (.return_, [])]),
  (40, none, 6, [(.iconst 0, []), (.istore 6, [])]),
  (43, some [0, 1, 2, 3, 4, 5, 6], 0, [(.iload 6, []), (.iconst 3, []), (.if_icmp .ge 62, [13, 7])]),
  (49, none, 0, [(.aload_n 0, []), (.aload_n 1, []), (.iload_n 3, []), (.iload 4, []), (.iload 6, []), (.invokevirtual 77, [0, 1, 0, 1166, 1168, 2828, 0]), (.ifCond .eq 43, [12, 8])]),
  (62, none, 0, [(.iload 6, []), (.ifCond .ne 11, [10, 9])]),
  (67, none, 0, [(.getstatic 122, [1003, 1190]), (.iload_n 3, []), (.iaload, []), (.goto 10, [11])]),
  (75, none, 11, [(.getstatic 122, [1003, 1190]), (.iload_n 3, []), (.iaload, []), (.iconst (-1), []), (.ixor, [])]),
  (82, none, 12, [(.istore 7, []), (.aload_n 0, []), (.aload_n 1, []), (.iload_n 2, []), (.iload_n 3, []), (.iconst 1, []), (.iadd, []), (.iload 4, []), (.iconst 1, []), (.iadd, []), (.iload 5, []), (.iload 7, []), (.iand, []), (.invokevirtual 111, [10, 1, 0, 1186, 1188, 2830, 0])]),
  (102, none, 0, [(.iinc 6 1, []), (.goto (-62), [6])]),
  (108, none, 0, [(.return_, [])])])
def pm_X0_workOut : sm_M := (yX0_workOut, prog_2_method_6_code, 6, none, 2, 0, 0, [1202, 13, 1], [
  (0, some [0, 1, 2], 1, [(.sipush 1023, []), (.istore_n 3, [])]),
  (4, some [0, 1, 2, 3], 0, [(.iload_n 3, []), (.ifCond .lt 72, [10, 2])]),
  (8, none, 0, [(.aload_n 0, []), (.getfield 15, [0, 3, 485]), (.iload_n 3, []), (.iaload, []), (.iload_n 2, []), (.if_icmp .gt 7, [4, 3])]),
  (18, none, 0, [(.iconst 0, []), (.goto 5, [5])]),
  (22, none, 5, [(.bipush 6, [])]),
  (24, none, 6, [(.istore 4, []), (.iconst 0, []), (.istore 5, [])]),
  (29, some [0, 1, 2, 3, 4, 5], 0, [(.iload 5, []), (.aload_n 1, []), (.getfield 74, [10, 4, 134]), (.if_icmp .ge 28, [9, 7])]),
  (38, none, 0, [(.iload 4, []), (.ifCond .le 23, [9, 8])]),
  (43, none, 0, [(.iload 4, []), (.aload_n 0, []), (.iload_n 3, []), (.iload 5, []), (.invokevirtual 99, [9, 1, 0, 1203, 1205, 3072, 0]), (.invokestatic 103, [2, 1185, 659]), (.istore 4, []), (.iinc 5 1, []), (.goto (-31), [6])]),
  (63, none, 0, [(.aload_n 0, []), (.getfield 18, [0, 4, 486]), (.iload_n 3, []), (.iload 4, []), (.iastore, []), (.iinc 3 (-1), []), (.goto (-70), [1])]),
  (77, none, 0, [(.return_, [])])])
def pm_X10_addPart : sm_M := (yX10_addPart, prog_12_method_4_code, 4, none, 1, 0, 0, [699, 5, 1], [
  (0, some [0, 1], 0, [(.aload_n 0, []), (.getfield 67, [10, 3, 129]), (.iconst 1, []), (.isub, []), (.istore_n 2, []), (.iload_n 2, []), (.ifCond .lt 9, [2, 1])]),
  (11, none, 0, [(.iload_n 2, []), (.bipush 10, []), (.if_icmp .lt 4, [3, 2])]),
  (17, none, 0, [(.return_, [])]),
  (18, none, 0, [(.iload_n 1, []), (.ifCond .eq 23, [6, 4])]),
  (22, none, 0, [(.aload_n 0, []), (.getfield 33, [10, 12, 156]), (.iload_n 2, []), (.iaload, []), (.iconst 4, []), (.if_icmp .ge 13, [6, 5])]),
  (32, none, 6, [(.aload_n 0, []), (.getfield 33, [10, 12, 156]), (.iload_n 2, []), (.dup2, []), (.iaload, []), (.iconst 1, []), (.iadd, []), (.iastore, [])]),
  (42, some [0, 2], 0, [(.iload_n 2, []), (.iconst 4, []), (.imul, []), (.aload_n 0, []), (.getfield 33, [10, 12, 156]), (.iload_n 2, []), (.iaload, []), (.iadd, []), (.iconst 1, []), (.isub, []), (.istore_n 3, []), (.iload_n 3, []), (.ifCond .lt 32, [10, 7])]),
  (59, none, 0, [(.iload_n 3, []), (.aload_n 0, []), (.getfield 36, [10, 13, 159]), (.arraylength, []), (.if_icmp .ge 23, [10, 8])]),
  (68, none, 0, [(.aload_n 0, []), (.getfield 36, [10, 13, 159]), (.iload_n 3, []), (.iaload, []), (.iconst 3, []), (.if_icmp .ge 13, [10, 9])]),
  (78, none, 10, [(.aload_n 0, []), (.getfield 36, [10, 13, 159]), (.iload_n 3, []), (.dup2, []), (.iaload, []), (.iconst 1, []), (.iadd, []), (.iastore, [])]),
  (88, some [], 0, [(.return_, [])])])
def pm_X10_addPath : sm_M := (yX10_addPath, prog_12_method_14_code, 6, none, 3, 0, 0, [722, 5, 1], [
  (0, some [0, 1, 2, 3], 0, [(.iload_n 1, []), (.ifCond .lt 19, [4, 1])]),
  (4, none, 0, [(.iload_n 1, []), (.bipush 6, []), (.if_icmp .ge 13, [4, 2])]),
  (10, none, 0, [(.iload_n 2, []), (.ifCond .lt 9, [4, 3])]),
  (14, none, 0, [(.iload_n 2, []), (.bipush 6, []), (.if_icmp .lt 4, [5, 4])]),
  (20, none, 0, [(.return_, [])]),
  (21, none, 0, [(.iload_n 1, []), (.bipush 6, []), (.imul, []), (.iload_n 2, []), (.iadd, []), (.istore 4, []), (.aload_n 0, []), (.getfield 9, [10, 7, 143]), (.iload 4, []), (.iaload, []), (.istore 5, []), (.iload 5, []), (.ifCond .lt 9, [7, 6])]),
  (43, none, 0, [(.iload_n 3, []), (.iload 5, []), (.if_icmp .ge 23, [8, 7])]),
  (49, none, 8, [(.aload_n 0, []), (.getfield 9, [10, 7, 143]), (.iload 4, []), (.iload_n 3, []), (.iastore, []), (.aload_n 0, []), (.getfield 9, [10, 7, 143]), (.iload_n 2, []), (.bipush 6, []), (.imul, []), (.iload_n 1, []), (.iadd, []), (.iload_n 3, []), (.iastore, [])]),
  (69, none, 0, [(.return_, [])])])
def pm_X10_addSaying : sm_M := (yX10_addSaying, prog_12_method_3_code, 2, none, 1, 0, 0, [664, 5, 1], [
  (0, some [0, 1], 0, [(.aload_n 0, []), (.getfield 67, [10, 3, 129]), (.bipush 10, []), (.if_icmp .lt 4, [2, 1])]),
  (9, none, 0, [(.return_, [])]),
  (10, none, 0, [(.iload_n 1, []), (.ifCond .eq 18, [4, 3])]),
  (14, none, 4, [(.aload_n 0, []), (.dup, []), (.getfield 76, [10, 6, 141]), (.iconst 1, []), (.aload_n 0, []), (.getfield 67, [10, 3, 129]), (.ishl, []), (.ior, []), (.putfield 76, [10, 6, 141])]),
  (29, none, 0, [(.aload_n 0, []), (.getfield 33, [10, 12, 156]), (.aload_n 0, []), (.getfield 67, [10, 3, 129]), (.iconst 1, []), (.iastore, []), (.aload_n 0, []), (.getfield 36, [10, 13, 159]), (.aload_n 0, []), (.getfield 67, [10, 3, 129]), (.iconst 4, []), (.imul, []), (.iconst 1, []), (.iastore, []), (.aload_n 0, []), (.dup, []), (.getfield 67, [10, 3, 129]), (.iconst 1, []), (.iadd, []), (.putfield 67, [10, 3, 129]), (.return_, [])])])
def pm_X10_allBits : sm_M := (yX10_allBits, prog_12_method_9_code, 1, (some .int), 0, 0, 0, [829, 5, 1], [
  (0, some [0], 0, [(.iconst 1, []), (.aload_n 0, []), (.getfield 67, [10, 3, 129]), (.ishl, []), (.iconst 1, []), (.isub, []), (.ireturn, [])])])
def pm_X10_clear : sm_M := (yX10_clear, prog_12_method_2_code, 2, none, 0, 0, 0, [115, 5, 1], [
  (0, some [0], 1, [(.aload_n 0, []), (.iconst 0, []), (.putfield 57, [10, 0, 119]), (.aload_n 0, []), (.iconst 0, []), (.putfield 61, [10, 1, 122]), (.aload_n 0, []), (.iconst 0, []), (.putfield 64, [10, 2, 125]), (.aload_n 0, []), (.iconst 0, []), (.putfield 67, [10, 3, 129]), (.aload_n 0, []), (.iconst 0, []), (.putfield 70, [10, 4, 133]), (.aload_n 0, []), (.iconst 0, []), (.putfield 73, [10, 5, 137]), (.aload_n 0, []), (.iconst 0, []), (.putfield 76, [10, 6, 141]), (.aload_n 0, []), (.getfield 9, [10, 7, 143]), (.bipush (-2), []), (.invokestatic 79, [306, 0, 0, 116, 117, 0, 0]), (.iconst 0, []), (.istore_n 1, [])]),
  (46, some [0, 1], 0, [(.iload_n 1, []), (.bipush 6, []), (.if_icmp .ge 21, [3, 2])]),
  (52, none, 0, [(.aload_n 0, []), (.getfield 9, [10, 7, 143]), (.iload_n 1, []), (.bipush 6, []), (.imul, []), (.iload_n 1, []), (.iadd, []), (.iconst 0, []), (.iastore, []), (.iinc 1 1, []), (.goto (-21), [1])]),
  (70, none, 0, [(.aload_n 0, []), (.getfield 15, [10, 8, 144]), (.iconst (-1), []), (.invokestatic 79, [306, 0, 0, 116, 117, 0, 0]), (.aload_n 0, []), (.getfield 18, [10, 9, 148]), (.iconst (-1), []), (.invokestatic 79, [306, 0, 0, 116, 117, 0, 0]), (.aload_n 0, []), (.getfield 26, [10, 10, 152]), (.getfield 85, [8, 1, 94]), (.iconst (-1), []), (.invokestatic 79, [306, 0, 0, 116, 117, 0, 0]), (.aload_n 0, []), (.getfield 30, [10, 11, 155]), (.iconst 1, []), (.invokestatic 79, [306, 0, 0, 116, 117, 0, 0]), (.aload_n 0, []), (.getfield 33, [10, 12, 156]), (.iconst 0, []), (.invokestatic 79, [306, 0, 0, 116, 117, 0, 0]), (.aload_n 0, []), (.getfield 36, [10, 13, 159]), (.iconst 0, []), (.invokestatic 79, [306, 0, 0, 116, 117, 0, 0]), (.return_, [])])])
def pm_X10_findMoves : sm_M := (yX10_findMoves, prog_12_method_16_code, 4, none, 0, 0, 0, [779, 5, 1], [
  (0, some [0], 1, [(.aload_n 0, []), (.iconst 0, []), (.putfield 73, [10, 5, 137]), (.iconst 0, []), (.istore_n 1, [])]),
  (7, some [0, 1], 0, [(.iload_n 1, []), (.aload_n 0, []), (.getfield 64, [10, 2, 125]), (.if_icmp .ge 141, [14, 2])]),
  (15, none, 3, [(.iload_n 1, []), (.iconst 1, []), (.iadd, []), (.istore_n 2, [])]),
  (19, some [0, 1, 2], 0, [(.iload_n 2, []), (.aload_n 0, []), (.getfield 64, [10, 2, 125]), (.if_icmp .ge 123, [13, 4])]),
  (27, none, 0, [(.aload_n 0, []), (.getfield 15, [10, 8, 144]), (.iload_n 1, []), (.iaload, []), (.iconst (-1), []), (.if_icmp .eq 22, [7, 5])]),
  (37, none, 0, [(.aload_n 0, []), (.getfield 15, [10, 8, 144]), (.iload_n 1, []), (.iaload, []), (.aload_n 0, []), (.getfield 15, [10, 8, 144]), (.iload_n 2, []), (.iaload, []), (.if_icmp .ne 7, [7, 6])]),
  (52, none, 0, [(.iconst 1, []), (.goto 4, [8])]),
  (56, none, 8, [(.iconst 0, [])]),
  (57, some [0, 1, 2], 0, [(.istore_n 3, []), (.iload_n 3, []), (.ifCond .eq 82, [12, 9])]),
  (62, none, 0, [(.aload_n 0, []), (.getfield 18, [10, 9, 148]), (.iload_n 1, []), (.iaload, []), (.aload_n 0, []), (.getfield 18, [10, 9, 148]), (.iload_n 2, []), (.iaload, []), (.if_icmp .eq 67, [12, 10])]),
  (77, none, 0, [(.aload_n 0, []), (.getfield 73, [10, 5, 137]), (.bipush 45, []), (.if_icmp .ge 58, [12, 11])]),
  (86, none, 12, [(.aload_n 0, []), (.getfield 45, [10, 16, 167]), (.aload_n 0, []), (.getfield 73, [10, 5, 137]), (.iload_n 1, []), (.iastore, []), (.aload_n 0, []), (.getfield 48, [10, 17, 170]), (.aload_n 0, []), (.getfield 73, [10, 5, 137]), (.iload_n 2, []), (.iastore, []), (.aload_n 0, []), (.getfield 51, [10, 18, 173]), (.aload_n 0, []), (.getfield 73, [10, 5, 137]), (.aload_n 0, []), (.aload_n 0, []), (.getfield 18, [10, 9, 148]), (.iload_n 1, []), (.iaload, []), (.aload_n 0, []), (.getfield 18, [10, 9, 148]), (.iload_n 2, []), (.iaload, []), (.invokevirtual 99, [27, 1, 10, 771, 772, 773, 0]), (.iastore, []), (.aload_n 0, []), (.dup, []), (.getfield 73, [10, 5, 137]), (.iconst 1, []), (.iadd, []), (.putfield 73, [10, 5, 137])]),
  (141, some [0, 1, 2], 0, [(.iinc 2 1, []), (.goto (-125), [3])]),
  (147, none, 0, [(.iinc 1 1, []), (.goto (-143), [1])]),
  (153, none, 0, [(.return_, [])])])
def pm_X10_findWalks : sm_M := (yX10_findWalks, prog_12_method_15_code, 6, none, 0, 0, 0, [770, 5, 1], [
  (0, some [0], 1, [(.iconst 0, []), (.istore_n 1, [])]),
  (2, some [0, 1], 0, [(.iload_n 1, []), (.aload_n 0, []), (.getfield 61, [10, 1, 122]), (.if_icmp .ge 75, [12, 2])]),
  (10, none, 3, [(.iconst 0, []), (.istore_n 2, [])]),
  (12, some [0, 1, 2], 0, [(.iload_n 2, []), (.aload_n 0, []), (.getfield 61, [10, 1, 122]), (.if_icmp .ge 59, [11, 4])]),
  (20, none, 5, [(.iconst 0, []), (.istore_n 3, [])]),
  (22, some [0, 1, 2, 3], 0, [(.iload_n 3, []), (.iload_n 2, []), (.if_icmp .ge 46, [10, 6])]),
  (27, none, 0, [(.aload_n 0, []), (.iload_n 2, []), (.iload_n 1, []), (.invokevirtual 99, [27, 1, 10, 771, 772, 773, 0]), (.istore 4, []), (.aload_n 0, []), (.iload_n 1, []), (.iload_n 3, []), (.invokevirtual 99, [27, 1, 10, 771, 772, 773, 0]), (.istore 5, []), (.iload 4, []), (.ifCond .lt 19, [9, 7])]),
  (48, none, 0, [(.iload 5, []), (.ifCond .lt 14, [9, 8])]),
  (53, none, 9, [(.aload_n 0, []), (.iload_n 2, []), (.iload_n 3, []), (.iload 4, []), (.iload 5, []), (.iadd, []), (.invokevirtual 102, [13, 1, 10, 775, 720, 721, 0])]),
  (64, none, 0, [(.iinc 3 1, []), (.goto (-45), [5])]),
  (70, none, 0, [(.iinc 2 1, []), (.goto (-61), [3])]),
  (76, none, 0, [(.iinc 1 1, []), (.goto (-77), [1])]),
  (82, none, 0, [(.return_, [])])])
def pm_X10_firstSpan : sm_M := (yX10_firstSpan, prog_12_method_10_code, 3, (some .int), 2, 0, 0, [746, 5, 1], [
  (0, some [1, 2], 0, [(.iload_n 1, []), (.iconst 4, []), (.imul, []), (.iload_n 2, []), (.iadd, []), (.iconst 3, []), (.imul, []), (.ireturn, [])])])
def pm_X10_init : sm_M := (yX10_init, prog_12_method_1_code, 1, none, 0, 24, 803, [81, 5, 1], [
  (0, some [0], 1, [(.aload_n 0, []), (.invokespecial 3, [82, 24, 25]), (.aload_n 0, []), (.bipush 36, []), (.newarray .int, [0, 56]), (.putfield 9, [10, 7, 143]), (.aload_n 0, []), (.bipush 10, []), (.newarray .int, [0, 56]), (.putfield 15, [10, 8, 144]), (.aload_n 0, []), (.bipush 10, []), (.newarray .int, [0, 56]), (.putfield 18, [10, 9, 148]), (.aload_n 0, []), (.new 21, [8, 83, 84, 6]), (.dup, []), (.bipush 10, []), (.invokespecial 23, [291, 1, 8, 85, 86, 0, 0]), (.putfield 26, [10, 10, 152]), (.aload_n 0, []), (.bipush 10, []), (.newarray .int, [0, 56]), (.putfield 30, [10, 11, 155]), (.aload_n 0, []), (.bipush 10, []), (.newarray .int, [0, 56]), (.putfield 33, [10, 12, 156]), (.aload_n 0, []), (.bipush 40, []), (.newarray .int, [0, 56]), (.putfield 36, [10, 13, 159]), (.aload_n 0, []), (.new 21, [8, 83, 84, 6]), (.dup, []), (.bipush 120, []), (.invokespecial 23, [292, 1, 8, 85, 86, 0, 0]), (.putfield 39, [10, 14, 160]), (.aload_n 0, []), (.new 21, [8, 83, 84, 6])]),
  (82, none, 0, [(.dup, []), (.iconst 5, []), (.invokespecial 23, [289, 1, 8, 85, 86, 0, 0]), (.putfield 42, [10, 15, 164]), (.aload_n 0, []), (.bipush 45, []), (.newarray .int, [0, 56]), (.putfield 45, [10, 16, 167]), (.aload_n 0, []), (.bipush 45, []), (.newarray .int, [0, 56]), (.putfield 48, [10, 17, 170]), (.aload_n 0, []), (.bipush 45, []), (.newarray .int, [0, 56]), (.putfield 51, [10, 18, 173]), (.aload_n 0, []), (.invokevirtual 54, [16, 1, 10, 112, 113, 114, 0]), (.return_, [])])])
def pm_X10_isOpen : sm_M := (yX10_isOpen, prog_12_method_8_code, 2, (some .boolean), 1, 0, 0, [688, 5, 1], [
  (0, some [0, 1], 0, [(.aload_n 0, []), (.getfield 26, [10, 10, 152]), (.getfield 85, [8, 1, 94]), (.iload_n 1, []), (.iconst (-1), []), (.invokestatic 88, [89, 0, 0, 4, 690, 0, 1]), (.iconst (-1), []), (.if_icmp .eq 7, [2, 1])]),
  (16, none, 0, [(.iconst 1, []), (.goto 4, [3])]),
  (20, none, 3, [(.iconst 0, [])]),
  (21, none, 0, [(.ireturn, [])])])
def pm_X10_lastSpan : sm_M := (yX10_lastSpan, prog_12_method_5_code, 3, (some .int), 0, 0, 0, [742, 5, 1], [
  (0, some [0], 0, [(.aload_n 0, []), (.getfield 67, [10, 3, 129]), (.iconst 1, []), (.isub, []), (.istore_n 1, []), (.aload_n 0, []), (.getfield 33, [10, 12, 156]), (.iload_n 1, []), (.iconst 0, []), (.invokestatic 88, [89, 0, 0, 4, 690, 0, 1]), (.iconst 1, []), (.isub, []), (.istore_n 2, []), (.aload_n 0, []), (.iload_n 1, []), (.iload_n 2, []), (.invokevirtual 92, [19, 1, 10, 743, 744, 745, 0]), (.aload_n 0, []), (.iload_n 1, []), (.iload_n 2, []), (.invokevirtual 96, [23, 1, 10, 747, 748, 749, 0]), (.iadd, []), (.iconst 1, []), (.isub, []), (.ireturn, [])])])
def pm_X10_partsOf : sm_M := (yX10_partsOf, prog_12_method_11_code, 4, (some .int), 2, 0, 0, [750, 5, 1], [
  (0, some [0, 1, 2], 0, [(.iload_n 1, []), (.iconst 4, []), (.imul, []), (.iload_n 2, []), (.iadd, []), (.istore_n 3, []), (.iload_n 3, []), (.ifCond .lt 21, [3, 1])]),
  (10, none, 0, [(.iload_n 3, []), (.aload_n 0, []), (.getfield 36, [10, 13, 159]), (.arraylength, []), (.if_icmp .ge 12, [3, 2])]),
  (19, none, 0, [(.aload_n 0, []), (.getfield 36, [10, 13, 159]), (.iload_n 3, []), (.iaload, []), (.goto 4, [4])]),
  (28, none, 4, [(.iconst 0, [])]),
  (29, none, 0, [(.ireturn, [])])])
def pm_X10_putLastTime : sm_M := (yX10_putLastTime, prog_12_method_7_code, 3, none, 2, 0, 0, [680, 5, 1], [
  (0, some [0, 1, 2], 0, [(.aload_n 0, []), (.getfield 64, [10, 2, 125]), (.ifCond .le 21, [3, 1])]),
  (7, none, 0, [(.aload_n 0, []), (.getfield 64, [10, 2, 125]), (.aload_n 1, []), (.arraylength, []), (.if_icmp .gt 12, [3, 2])]),
  (16, none, 3, [(.aload_n 1, []), (.aload_n 0, []), (.getfield 64, [10, 2, 125]), (.iconst 1, []), (.isub, []), (.iload_n 2, []), (.iastore, [])]),
  (25, none, 0, [(.return_, [])])])
def pm_X10_trustLast : sm_M := (yX10_trustLast, prog_12_method_6_code, 2, none, 1, 0, 0, [707, 5, 1], [
  (0, some [0, 1], 0, [(.aload_n 0, []), (.getfield 67, [10, 3, 129]), (.ifCond .le 24, [3, 1])]),
  (7, none, 0, [(.aload_n 0, []), (.getfield 67, [10, 3, 129]), (.bipush 10, []), (.if_icmp .gt 15, [3, 2])]),
  (16, none, 3, [(.aload_n 0, []), (.getfield 30, [10, 11, 155]), (.aload_n 0, []), (.getfield 67, [10, 3, 129]), (.iconst 1, []), (.isub, []), (.iload_n 1, []), (.iastore, [])]),
  (28, none, 0, [(.return_, [])])])
def pm_X10_trustOf : sm_M := (yX10_trustOf, prog_12_method_13_code, 4, (some .int), 1, 0, 0, [1081, 5, 1], [
  (0, some [0, 1], 1, [(.iconst 0, []), (.istore_n 2, []), (.iconst 0, []), (.istore_n 3, [])]),
  (4, some [0, 1, 2, 3], 0, [(.iload_n 3, []), (.aload_n 0, []), (.getfield 67, [10, 3, 129]), (.if_icmp .ge 24, [3, 2])]),
  (12, none, 0, [(.iload_n 2, []), (.iload_n 1, []), (.iload_n 3, []), (.ishr, []), (.iconst 1, []), (.iand, []), (.aload_n 0, []), (.getfield 30, [10, 11, 155]), (.iload_n 3, []), (.iaload, []), (.imul, []), (.iadd, []), (.istore_n 2, []), (.iinc 3 1, []), (.goto (-26), [1])]),
  (33, none, 0, [(.iload_n 2, []), (.ireturn, [])])])
def pm_X10_walkBetween : sm_M := (yX10_walkBetween, prog_12_method_12_code, 3, (some .int), 2, 0, 0, [774, 5, 1], [
  (0, some [0, 1, 2], 0, [(.iload_n 1, []), (.ifCond .lt 19, [4, 1])]),
  (4, none, 0, [(.iload_n 1, []), (.bipush 6, []), (.if_icmp .ge 13, [4, 2])]),
  (10, none, 0, [(.iload_n 2, []), (.ifCond .lt 9, [4, 3])]),
  (14, none, 0, [(.iload_n 2, []), (.bipush 6, []), (.if_icmp .lt 6, [5, 4])]),
  (20, none, 0, [(.bipush (-2), []), (.ireturn, [])]),
  (23, none, 0, [(.aload_n 0, []), (.getfield 9, [10, 7, 143]), (.iload_n 1, []), (.bipush 6, []), (.imul, []), (.iload_n 2, []), (.iadd, []), (.iaload, []), (.ireturn, [])])])
def pm_X11_alone : sm_M := (yX11_alone, prog_1_method_59_code, 2, (some .int), 1, 0, 0, [1293, 1, 1], [
  (0, some [0, 1], 0, [(.aload_n 0, []), (.iload_n 1, []), (.invokevirtual 114, [61, 1, 11, 797, 799, 2563, 0]), (.ifCond .eq 11, [2, 1])]),
  (8, none, 0, [(.aload_n 0, []), (.iload_n 1, []), (.invokevirtual 195, [55, 1, 11, 937, 939, 2817, 0]), (.ifCond .eq 5, [3, 2])]),
  (16, none, 0, [(.iconst (-1), []), (.ireturn, [])]),
  (18, none, 0, [(.aload_n 0, []), (.iconst 1, []), (.iload_n 1, []), (.ishl, []), (.invokevirtual 367, [66, 1, 11, 1282, 1284, 3074, 0]), (.ireturn, [])])])
def pm_X11_ask : sm_M := (yX11_ask, prog_1_method_45_code, 3, (some .int), 2, 0, 0, [1142, 1, 1], [
  (0, some [0, 1, 2], 0, [(.iload_n 1, []), (.ifCond .lt 14, [2, 1])]),
  (4, none, 0, [(.iload_n 1, []), (.aload_n 0, []), (.getfield 37, [11, 9, 528]), (.getfield 297, [10, 4, 136]), (.if_icmp .lt 5, [3, 2])]),
  (15, none, 0, [(.iconst (-1), []), (.ireturn, [])]),
  (17, none, 0, [(.aload_n 0, []), (.invokevirtual 177, [56, 1, 11, 822, 824, 2566, 0]), (.ifCond .eq 19, [5, 4])]),
  (24, none, 0, [(.aload_n 0, []), (.getfield 84, [11, 8, 527]), (.aload_n 0, []), (.getfield 37, [11, 9, 528]), (.iload_n 1, []), (.iload_n 2, []), (.invokevirtual 300, [1, 1, 0, 1143, 1144, 1145, 0]), (.goto 5, [6])]),
  (40, none, 6, [(.bipush (-3), [])]),
  (42, none, 0, [(.ireturn, [])])])
def pm_X11_back : sm_M := (yX11_back, prog_1_method_4_code, 2, (some .int), 1, 0, 0, [573, 1, 1], [
  (0, some [0, 1], 0, [(.iload_n 1, []), (.ifCond .lt 11, [2, 1])]),
  (4, none, 0, [(.iload_n 1, []), (.aload_n 0, []), (.getfield 41, [11, 10, 529]), (.if_icmp .le 5, [3, 2])]),
  (12, none, 0, [(.iconst (-1), []), (.ireturn, [])]),
  (14, none, 0, [(.aload_n 0, []), (.dup, []), (.getfield 41, [11, 10, 529]), (.iload_n 1, []), (.isub, []), (.putfield 41, [11, 10, 529]), (.aload_n 0, []), (.getfield 41, [11, 10, 529]), (.ireturn, [])])])
def pm_X11_bears : sm_M := (yX11_bears, prog_1_method_30_code, 7, (some .int), 1, 0, 0, [989, 1, 1], [
  (0, some [0, 1], 0, [(.aload_n 0, []), (.iload_n 1, []), (.invokevirtual 128, [62, 1, 11, 801, 803, 2564, 0]), (.ifCond .ne 5, [2, 1])]),
  (8, none, 0, [(.iconst (-1), []), (.ireturn, [])]),
  (10, none, 3, [(.bipush (-2), []), (.istore_n 2, []), (.aload_n 0, []), (.getfield 37, [11, 9, 528]), (.getfield 218, [10, 12, 158]), (.iload_n 1, []), (.iaload, []), (.iconst 1, []), (.isub, []), (.istore_n 3, [])]),
  (25, some [0, 1, 2, 3], 0, [(.iload_n 3, []), (.ifCond .lt 116, [16, 4])]),
  (29, none, 5, [(.aload_n 0, []), (.getfield 37, [11, 9, 528]), (.iload_n 1, []), (.iload_n 3, []), (.invokevirtual 221, [19, 1, 10, 990, 744, 745, 0]), (.istore 4, []), (.iconst 1, []), (.istore 5, []), (.iload 4, []), (.istore 6, [])]),
  (47, some [0, 1, 2, 3, 4, 5, 6], 0, [(.iload 6, []), (.iload 4, []), (.aload_n 0, []), (.getfield 37, [11, 9, 528]), (.iload_n 1, []), (.iload_n 3, []), (.invokevirtual 224, [23, 1, 10, 991, 748, 749, 0]), (.iadd, []), (.if_icmp .ge 68, [13, 6])]),
  (64, none, 0, [(.aload_n 0, []), (.getfield 37, [11, 9, 528]), (.getfield 227, [10, 14, 163]), (.iload 6, []), (.aload_n 0, []), (.getfield 23, [11, 2, 521]), (.getfield 215, [4, 2, 289]), (.invokevirtual 231, [293, 1, 8, 992, 993, 994, 0]), (.ifCond .ne 6, [8, 7])]),
  (86, none, 0, [(.bipush (-4), []), (.ireturn, [])]),
  (89, none, 0, [(.iload 5, []), (.ifCond .eq 29, [11, 9])]),
  (94, none, 0, [(.aload_n 0, []), (.getfield 37, [11, 9, 528]), (.getfield 227, [10, 14, 163]), (.iload 6, []), (.aload_n 0, []), (.getfield 23, [11, 2, 521]), (.getfield 215, [4, 2, 289]), (.invokevirtual 237, [288, 1, 8, 997, 998, 999, 0]), (.ifCond .eq 7, [11, 10])]),
  (116, none, 0, [(.iconst 1, []), (.goto 4, [12])]),
  (120, none, 12, [(.iconst 0, [])]),
  (121, none, 0, [(.istore 5, []), (.iinc 6 1, []), (.goto (-79), [5])]),
  (129, none, 0, [(.iload 5, []), (.ifCond .eq 5, [15, 14])]),
  (134, none, 15, [(.iload_n 3, []), (.istore_n 2, [])]),
  (136, none, 0, [(.iinc 3 (-1), []), (.goto (-114), [3])]),
  (142, none, 0, [(.iload_n 2, []), (.ireturn, [])])])
def pm_X11_been : sm_M := (yX11_been, prog_1_method_44_code, 4, (some .int), 3, 0, 0, [1138, 1, 1], [
  (0, some [0, 1, 2, 3], 0, [(.aload_n 0, []), (.iload_n 1, []), (.invokevirtual 281, [59, 1, 11, 1123, 1125, 2825, 0]), (.ifCond .eq 11, [2, 1])]),
  (8, none, 0, [(.aload_n 0, []), (.iload_n 2, []), (.invokevirtual 143, [60, 1, 11, 809, 811, 2565, 0]), (.ifCond .ne 5, [3, 2])]),
  (16, none, 0, [(.iconst (-1), []), (.ireturn, [])]),
  (18, none, 0, [(.aload_n 0, []), (.iload_n 1, []), (.iload_n 2, []), (.iconst 0, []), (.sipush 1440, []), (.invokevirtual 284, [50, 1, 11, 1127, 1129, 2826, 0]), (.aload_n 0, []), (.getfield 67, [11, 6, 525]), (.getfield 174, [2, 15, 382]), (.ifCond .eq 6, [5, 4])]),
  (38, none, 0, [(.bipush (-3), []), (.ireturn, [])]),
  (41, none, 0, [(.aload_n 0, []), (.getfield 67, [11, 6, 525]), (.getfield 181, [2, 14, 379]), (.ifCond .ne 6, [7, 6])]),
  (51, none, 0, [(.bipush (-2), []), (.ireturn, [])]),
  (54, none, 0, [(.iload_n 3, []), (.ifCond .eq 13, [9, 8])]),
  (58, none, 0, [(.aload_n 0, []), (.getfield 67, [11, 6, 525]), (.getfield 291, [2, 17, 386]), (.goto 10, [10])]),
  (68, none, 10, [(.aload_n 0, []), (.getfield 67, [11, 6, 525]), (.getfield 294, [2, 16, 384])]),
  (75, none, 0, [(.ireturn, [])])])
def pm_X11_breaks : sm_M := (yX11_breaks, prog_1_method_31_code, 5, (some .int), 0, 0, 0, [1004, 1, 1], [
  (0, some [0], 1, [(.iconst 0, []), (.istore_n 1, [])]),
  (2, some [0, 1], 0, [(.iload_n 1, []), (.aload_n 0, []), (.getfield 37, [11, 9, 528]), (.getfield 150, [10, 5, 139]), (.if_icmp .ge 93, [9, 2])]),
  (13, none, 0, [(.aload_n 0, []), (.getfield 23, [11, 2, 521]), (.getfield 215, [4, 2, 289]), (.aload_n 0, []), (.getfield 37, [11, 9, 528]), (.getfield 153, [10, 16, 169]), (.iload_n 1, []), (.iaload, []), (.iconst (-1), []), (.invokestatic 240, [89, 0, 0, 1005, 690, 0, 0]), (.istore_n 2, []), (.aload_n 0, []), (.getfield 23, [11, 2, 521]), (.getfield 215, [4, 2, 289]), (.aload_n 0, []), (.getfield 37, [11, 9, 528]), (.getfield 156, [10, 17, 172]), (.iload_n 1, []), (.iaload, []), (.iconst (-1), []), (.invokestatic 240, [89, 0, 0, 1005, 690, 0, 0]), (.istore_n 3, []), (.aload_n 0, []), (.getfield 37, [11, 9, 528]), (.getfield 159, [10, 18, 175]), (.iload_n 1, []), (.iaload, []), (.istore 4, []), (.iload_n 2, []), (.iconst (-1), []), (.if_icmp .eq 29, [8, 3])]),
  (71, none, 0, [(.iload_n 3, []), (.iconst (-1), []), (.if_icmp .ne 6, [5, 4])]),
  (76, none, 0, [(.goto 21, [8])]),
  (79, none, 0, [(.iload 4, []), (.ifCond .lt 14, [7, 6])]),
  (84, none, 0, [(.iload_n 3, []), (.iload_n 2, []), (.isub, []), (.invokestatic 244, [3, 1006, 1007]), (.iload 4, []), (.if_icmp .ge 5, [8, 7])]),
  (95, none, 0, [(.iload_n 1, []), (.ireturn, [])]),
  (97, none, 0, [(.iinc 1 1, []), (.goto (-98), [1])]),
  (103, none, 0, [(.bipush (-2), []), (.ireturn, [])])])
def pm_X11_can : sm_M := (yX11_can, prog_1_method_27_code, 6, (some .int), 2, 0, 0, [974, 1, 1], [
  (0, some [0, 1, 2], 0, [(.aload_n 0, []), (.iload_n 1, []), (.invokevirtual 201, [63, 1, 11, 950, 952, 2818, 0]), (.ifCond .eq 10, [2, 1])]),
  (8, none, 0, [(.iload_n 2, []), (.invokestatic 212, [58, 0, 0, 975, 976, 0, 0]), (.ifCond .ne 5, [3, 2])]),
  (15, none, 0, [(.iconst (-1), []), (.ireturn, [])]),
  (17, none, 0, [(.aload_n 0, []), (.invokevirtual 177, [56, 1, 11, 822, 824, 2566, 0]), (.ifCond .ne 6, [5, 4])]),
  (24, none, 0, [(.bipush (-3), []), (.ireturn, [])]),
  (27, none, 6, [(.iconst 0, []), (.istore_n 3, []), (.iconst 0, []), (.istore 4, [])]),
  (32, some [0, 1, 2, 3, 4], 0, [(.iload 4, []), (.aload_n 0, []), (.getfield 60, [11, 4, 523]), (.getfield 181, [2, 14, 379]), (.if_icmp .ge 50, [11, 7])]),
  (44, none, 0, [(.aload_n 0, []), (.iload 4, []), (.invokevirtual 191, [68, 1, 11, 925, 927, 2816, 0]), (.istore 5, []), (.aload_n 0, []), (.getfield 60, [11, 4, 523]), (.iload 5, []), (.iload_n 1, []), (.iconst 0, []), (.invokevirtual 204, [231, 1, 2, 954, 955, 956, 0]), (.iload_n 2, []), (.if_icmp .gt 21, [10, 8])]),
  (67, none, 0, [(.iload_n 2, []), (.aload_n 0, []), (.getfield 60, [11, 4, 523]), (.iload 5, []), (.iload_n 1, []), (.iconst 1, []), (.invokevirtual 204, [231, 1, 2, 954, 955, 956, 0]), (.if_icmp .gt 6, [10, 9])]),
  (82, none, 10, [(.iinc 3 1, [])]),
  (85, none, 0, [(.iinc 4 1, []), (.goto (-56), [6])]),
  (91, none, 0, [(.iload_n 3, []), (.ireturn, [])])])
def pm_X11_cheapest : sm_M := (yX11_cheapest, prog_1_method_36_code, 2, (some .int), 0, 0, 0, [1073, 1, 1], [
  (0, some [0], 0, [(.aload_n 0, []), (.getfield 75, [11, 7, 526]), (.aload_n 0, []), (.getfield 37, [11, 9, 528]), (.aload_n 0, []), (.getfield 23, [11, 2, 521]), (.invokevirtual 249, [263, 1, 6, 1029, 1030, 1031, 0]), (.ifCond .ne 6, [2, 1])]),
  (18, none, 0, [(.bipush (-3), []), (.ireturn, [])]),
  (21, none, 0, [(.aload_n 0, []), (.getfield 75, [11, 7, 526]), (.aload_n 0, []), (.getfield 37, [11, 9, 528]), (.invokevirtual 265, [258, 1, 6, 1074, 1075, 1076, 0]), (.istore_n 1, []), (.iload_n 1, []), (.ifCond .ge 8, [4, 3])]),
  (37, none, 0, [(.bipush (-2), []), (.goto 12, [5])]),
  (42, none, 5, [(.aload_n 0, []), (.getfield 75, [11, 7, 526]), (.getfield 262, [6, 3, 435]), (.iload_n 1, []), (.iaload, [])]),
  (51, none, 0, [(.ireturn, [])])])
def pm_X11_choice : sm_M := (yX11_choice, prog_1_method_22_code, 4, (some .int), 2, 0, 0, [924, 1, 1], [
  (0, some [0, 1, 2], 0, [(.aload_n 0, []), (.iload_n 2, []), (.invokevirtual 128, [62, 1, 11, 801, 803, 2564, 0]), (.ifCond .ne 5, [2, 1])]),
  (8, none, 0, [(.iconst (-1), []), (.ireturn, [])]),
  (10, none, 0, [(.aload_n 0, []), (.iload_n 1, []), (.invokevirtual 191, [68, 1, 11, 925, 927, 2816, 0]), (.istore_n 3, []), (.iload_n 3, []), (.ifCond .ge 5, [4, 3])]),
  (20, none, 0, [(.iload_n 3, []), (.ireturn, [])]),
  (22, none, 0, [(.aload_n 0, []), (.iload_n 2, []), (.invokevirtual 195, [55, 1, 11, 937, 939, 2817, 0]), (.ifCond .eq 8, [6, 5])]),
  (30, none, 0, [(.bipush (-2), []), (.goto 12, [7])]),
  (35, none, 7, [(.aload_n 0, []), (.getfield 30, [11, 3, 522]), (.iload_n 1, []), (.iload_n 2, []), (.invokevirtual 198, [216, 1, 1, 941, 934, 935, 0])]),
  (44, none, 0, [(.ireturn, [])])])
def pm_X11_could : sm_M := (yX11_could, prog_1_method_42_code, 5, (some .int), 4, 0, 0, [1122, 1, 1], [
  (0, some [0, 1, 2, 3, 4], 0, [(.aload_n 0, []), (.iload_n 1, []), (.invokevirtual 281, [59, 1, 11, 1123, 1125, 2825, 0]), (.ifCond .eq 26, [4, 1])]),
  (8, none, 0, [(.aload_n 0, []), (.iload_n 2, []), (.invokevirtual 143, [60, 1, 11, 809, 811, 2565, 0]), (.ifCond .eq 18, [4, 2])]),
  (16, none, 0, [(.iload_n 3, []), (.invokestatic 212, [58, 0, 0, 975, 976, 0, 0]), (.ifCond .eq 11, [4, 3])]),
  (23, none, 0, [(.iload 4, []), (.invokestatic 212, [58, 0, 0, 975, 976, 0, 0]), (.ifCond .ne 5, [5, 4])]),
  (31, none, 0, [(.iconst (-1), []), (.ireturn, [])]),
  (33, none, 0, [(.iload_n 3, []), (.iload 4, []), (.if_icmp .le 5, [7, 6])]),
  (39, none, 0, [(.iconst 0, []), (.ireturn, [])]),
  (41, none, 0, [(.aload_n 0, []), (.iload_n 1, []), (.iload_n 2, []), (.iload_n 3, []), (.iload 4, []), (.invokevirtual 284, [50, 1, 11, 1127, 1129, 2826, 0]), (.aload_n 0, []), (.getfield 67, [11, 6, 525]), (.getfield 174, [2, 15, 382]), (.ifCond .eq 6, [9, 8])]),
  (60, none, 0, [(.bipush (-3), []), (.ireturn, [])]),
  (63, none, 0, [(.aload_n 0, []), (.getfield 67, [11, 6, 525]), (.getfield 181, [2, 14, 379]), (.ifCond .le 7, [11, 10])]),
  (73, none, 0, [(.iconst 1, []), (.goto 4, [12])]),
  (77, none, 12, [(.iconst 0, [])]),
  (78, none, 0, [(.ireturn, [])])])
def pm_X11_count : sm_M := (yX11_count, prog_1_method_65_code, 2, (some .int), 1, 0, 0, [1314, 1, 1], [
  (0, some [0, 1], 0, [(.iload_n 1, []), (.tableswitch 113 0 7 #[47, 55, 63, 71, 79, 87, 95, 108], [9, 1, 2, 3, 4, 5, 6, 7, 8])]),
  (48, none, 0, [(.aload_n 0, []), (.getfield 37, [11, 9, 528]), (.getfield 140, [10, 0, 121]), (.ireturn, [])]),
  (56, none, 0, [(.aload_n 0, []), (.getfield 37, [11, 9, 528]), (.getfield 137, [10, 1, 124]), (.ireturn, [])]),
  (64, none, 0, [(.aload_n 0, []), (.getfield 37, [11, 9, 528]), (.getfield 134, [10, 2, 128]), (.ireturn, [])]),
  (72, none, 0, [(.aload_n 0, []), (.getfield 37, [11, 9, 528]), (.getfield 125, [10, 3, 132]), (.ireturn, [])]),
  (80, none, 0, [(.aload_n 0, []), (.getfield 37, [11, 9, 528]), (.getfield 297, [10, 4, 136]), (.ireturn, [])]),
  (88, none, 0, [(.aload_n 0, []), (.getfield 37, [11, 9, 528]), (.getfield 150, [10, 5, 139]), (.ireturn, [])]),
  (96, none, 0, [(.aload_n 0, []), (.invokevirtual 177, [56, 1, 11, 822, 824, 2566, 0]), (.pop, []), (.aload_n 0, []), (.getfield 60, [11, 4, 523]), (.getfield 344, [2, 13, 375]), (.ireturn, [])]),
  (109, none, 0, [(.aload_n 0, []), (.getfield 41, [11, 10, 529]), (.ireturn, [])]),
  (114, none, 0, [(.iload_n 1, []), (.bipush 10, []), (.if_icmp .lt 29, [12, 10])]),
  (120, none, 0, [(.aload_n 0, []), (.iload_n 1, []), (.bipush 10, []), (.isub, []), (.invokevirtual 128, [62, 1, 11, 801, 803, 2564, 0]), (.ifCond .eq 18, [12, 11])]),
  (131, none, 0, [(.aload_n 0, []), (.getfield 37, [11, 9, 528]), (.getfield 218, [10, 12, 158]), (.iload_n 1, []), (.bipush 10, []), (.isub, []), (.iaload, []), (.goto 4, [13])]),
  (146, none, 13, [(.iconst (-1), [])]),
  (147, none, 0, [(.ireturn, [])])])
def pm_X11_doubt : sm_M := (yX11_doubt, prog_1_method_8_code, 4, (some .boolean), 2, 0, 0, [796, 1, 1], [
  (0, some [0, 1, 2], 0, [(.aload_n 0, []), (.iload_n 1, []), (.invokevirtual 114, [61, 1, 11, 797, 799, 2563, 0]), (.ifCond .ne 5, [2, 1])]),
  (8, none, 0, [(.iconst 0, []), (.ireturn, [])]),
  (10, none, 0, [(.iconst 1, []), (.iload_n 1, []), (.ishl, []), (.istore_n 3, []), (.iload_n 2, []), (.ifCond .eq 29, [4, 3])]),
  (18, none, 0, [(.aload_n 0, []), (.getfield 23, [11, 2, 521]), (.dup, []), (.getfield 118, [4, 0, 284]), (.iload_n 3, []), (.ior, []), (.putfield 118, [4, 0, 284]), (.aload_n 0, []), (.getfield 23, [11, 2, 521]), (.getfield 121, [4, 3, 292]), (.iload_n 1, []), (.iconst (-1), []), (.iastore, []), (.goto 18, [5])]),
  (44, none, 5, [(.aload_n 0, []), (.getfield 23, [11, 2, 521]), (.dup, []), (.getfield 118, [4, 0, 284]), (.iload_n 3, []), (.iconst (-1), []), (.ixor, []), (.iand, []), (.putfield 118, [4, 0, 284])]),
  (59, none, 0, [(.aload_n 0, []), (.invokevirtual 104, [86, 1, 11, 785, 787, 2562, 0]), (.iconst 1, []), (.ireturn, [])])])
def pm_X11_drawn : sm_M := (yX11_drawn, prog_1_method_56_code, 5, (some .int), 3, 0, 0, [1257, 1, 1], [
  (0, some [0, 1, 2, 3], 0, [(.aload_n 0, []), (.iload_n 2, []), (.invokevirtual 281, [59, 1, 11, 1123, 1125, 2825, 0]), (.ifCond .eq 10, [2, 1])]),
  (8, none, 0, [(.iload_n 3, []), (.invokestatic 212, [58, 0, 0, 975, 976, 0, 0]), (.ifCond .ne 5, [3, 2])]),
  (15, none, 0, [(.iconst (-1), []), (.ireturn, [])]),
  (17, none, 0, [(.aload_n 0, []), (.iload_n 1, []), (.invokevirtual 191, [68, 1, 11, 925, 927, 2816, 0]), (.istore 4, []), (.iload 4, []), (.ifCond .ge 8, [5, 4])]),
  (29, none, 0, [(.iload 4, []), (.goto 11, [6])]),
  (34, none, 6, [(.aload_n 0, []), (.iload 4, []), (.iload_n 2, []), (.iload_n 3, []), (.invokevirtual 357, [92, 1, 11, 1258, 1260, 3073, 0])]),
  (42, none, 0, [(.ireturn, [])])])
def pm_X11_ends : sm_M := (yX11_ends, prog_1_method_26_code, 6, (some .int), 2, 0, 0, [970, 1, 1], [
  (0, some [0, 1, 2], 0, [(.aload_n 0, []), (.iload_n 1, []), (.invokevirtual 201, [63, 1, 11, 950, 952, 2818, 0]), (.ifCond .ne 5, [2, 1])]),
  (8, none, 0, [(.iconst (-1), []), (.ireturn, [])]),
  (10, none, 0, [(.aload_n 0, []), (.invokevirtual 177, [56, 1, 11, 822, 824, 2566, 0]), (.ifCond .ne 6, [4, 3])]),
  (17, none, 0, [(.bipush (-3), []), (.ireturn, [])]),
  (20, none, 5, [(.bipush (-2), []), (.istore_n 3, []), (.iconst 0, []), (.istore 4, [])]),
  (26, some [0, 1, 2, 3, 4], 0, [(.iload 4, []), (.aload_n 0, []), (.getfield 60, [11, 4, 523]), (.getfield 181, [2, 14, 379]), (.if_icmp .ge 54, [13, 6])]),
  (38, none, 0, [(.aload_n 0, []), (.getfield 60, [11, 4, 523]), (.aload_n 0, []), (.iload 4, []), (.invokevirtual 191, [68, 1, 11, 925, 927, 2816, 0]), (.iload_n 1, []), (.iload_n 2, []), (.invokevirtual 204, [231, 1, 2, 954, 955, 956, 0]), (.istore 5, []), (.iload_n 3, []), (.bipush (-2), []), (.if_icmp .eq 22, [11, 7])]),
  (61, none, 0, [(.iload_n 2, []), (.ifCond .eq 12, [10, 8])]),
  (65, none, 0, [(.iload 5, []), (.iload_n 3, []), (.if_icmp .le 15, [12, 9])]),
  (71, none, 0, [(.goto 9, [11])]),
  (74, none, 0, [(.iload 5, []), (.iload_n 3, []), (.if_icmp .ge 6, [12, 11])]),
  (80, none, 12, [(.iload 5, []), (.istore_n 3, [])]),
  (83, none, 0, [(.iinc 4 1, []), (.goto (-60), [5])]),
  (89, none, 0, [(.iload_n 3, []), (.ireturn, [])])])
def pm_X11_feed : sm_M := (yX11_feed, prog_1_method_2_code, 6, (some .int), 5, 0, 0, [565, 1, 1], [
  (0, some [0, 1, 2, 3, 4, 5], 0, [(.aload_n 0, []), (.getfield 41, [11, 10, 529]), (.bipush 20, []), (.iadd, []), (.sipush 2000, []), (.if_icmp .le 5, [2, 1])]),
  (13, none, 0, [(.iconst (-1), []), (.ireturn, [])]),
  (15, none, 0, [(.aload_n 0, []), (.iload_n 1, []), (.invokevirtual 88, [77, 1, 11, 566, 568, 2304, 0]), (.aload_n 0, []), (.iload_n 2, []), (.invokevirtual 88, [77, 1, 11, 566, 568, 2304, 0]), (.aload_n 0, []), (.iload_n 3, []), (.invokevirtual 88, [77, 1, 11, 566, 568, 2304, 0]), (.aload_n 0, []), (.iload 4, []), (.invokevirtual 88, [77, 1, 11, 566, 568, 2304, 0]), (.aload_n 0, []), (.iload 5, []), (.invokevirtual 88, [77, 1, 11, 566, 568, 2304, 0]), (.aload_n 0, []), (.getfield 41, [11, 10, 529]), (.ireturn, [])])])
def pm_X11_fewer : sm_M := (yX11_fewer, prog_1_method_52_code, 1, (some .int), 0, 0, 0, [1226, 1, 1], [
  (0, some [0], 0, [(.aload_n 0, []), (.getfield 23, [11, 2, 521]), (.getfield 331, [4, 1, 287]), (.ifCond .gt 5, [2, 1])]),
  (10, none, 0, [(.iconst (-1), []), (.ireturn, [])]),
  (12, none, 0, [(.aload_n 0, []), (.getfield 23, [11, 2, 521]), (.dup, []), (.getfield 331, [4, 1, 287]), (.iconst 1, []), (.isub, []), (.putfield 331, [4, 1, 287]), (.aload_n 0, []), (.invokevirtual 104, [86, 1, 11, 785, 787, 2562, 0]), (.aload_n 0, []), (.getfield 23, [11, 2, 521]), (.getfield 331, [4, 1, 287]), (.ireturn, [])])])
def pm_X11_first : sm_M := (yX11_first, prog_1_method_50_code, 3, (some .int), 1, 0, 0, [1211, 1, 1], [
  (0, some [0, 1], 0, [(.aload_n 0, []), (.iload_n 1, []), (.invokevirtual 322, [75, 1, 11, 1177, 1179, 2829, 0]), (.istore_n 2, []), (.iload_n 2, []), (.ifCond .ge 7, [2, 1])]),
  (10, none, 0, [(.iload_n 2, []), (.goto 14, [3])]),
  (14, none, 3, [(.aload_n 0, []), (.getfield 84, [11, 8, 527]), (.aload_n 0, []), (.getfield 37, [11, 9, 528]), (.invokevirtual 325, [5, 1, 0, 1212, 1213, 1214, 0])]),
  (25, none, 0, [(.ireturn, [])])])
def pm_X11_forced : sm_M := (yX11_forced, prog_1_method_28_code, 5, (some .int), 1, 0, 0, [981, 1, 1], [
  (0, some [0, 1], 0, [(.aload_n 0, []), (.iload_n 1, []), (.invokevirtual 128, [62, 1, 11, 801, 803, 2564, 0]), (.ifCond .eq 11, [2, 1])]),
  (8, none, 0, [(.aload_n 0, []), (.iload_n 1, []), (.invokevirtual 195, [55, 1, 11, 937, 939, 2817, 0]), (.ifCond .eq 5, [3, 2])]),
  (16, none, 0, [(.iconst (-1), []), (.ireturn, [])]),
  (18, none, 0, [(.aload_n 0, []), (.invokevirtual 177, [56, 1, 11, 822, 824, 2566, 0]), (.ifCond .ne 6, [5, 4])]),
  (25, none, 0, [(.bipush (-3), []), (.ireturn, [])]),
  (28, none, 6, [(.bipush (-2), []), (.istore_n 2, []), (.iconst 0, []), (.istore_n 3, [])]),
  (33, some [0, 1, 2, 3], 0, [(.iload_n 3, []), (.aload_n 0, []), (.getfield 60, [11, 4, 523]), (.getfield 181, [2, 14, 379]), (.if_icmp .ge 36, [11, 7])]),
  (44, none, 0, [(.aload_n 0, []), (.getfield 30, [11, 3, 522]), (.iload_n 3, []), (.iload_n 1, []), (.invokevirtual 198, [216, 1, 1, 941, 934, 935, 0]), (.istore 4, []), (.iload_n 3, []), (.ifCond .le 12, [10, 8])]),
  (59, none, 0, [(.iload 4, []), (.iload_n 2, []), (.if_icmp .eq 6, [10, 9])]),
  (65, none, 0, [(.bipush (-2), []), (.ireturn, [])]),
  (68, none, 0, [(.iload 4, []), (.istore_n 2, []), (.iinc 3 1, []), (.goto (-41), [6])]),
  (77, none, 0, [(.iload_n 2, []), (.ireturn, [])])])
def pm_X11_gap : sm_M := (yX11_gap, prog_1_method_25_code, 6, (some .int), 4, 0, 0, [965, 1, 1], [
  (0, some [0, 1, 2, 3, 4], 0, [(.aload_n 0, []), (.iload_n 2, []), (.invokevirtual 201, [63, 1, 11, 950, 952, 2818, 0]), (.ifCond .eq 11, [2, 1])]),
  (8, none, 0, [(.aload_n 0, []), (.iload_n 3, []), (.invokevirtual 201, [63, 1, 11, 950, 952, 2818, 0]), (.ifCond .ne 7, [3, 2])]),
  (16, none, 0, [(.sipush (-10000), []), (.ireturn, [])]),
  (20, none, 0, [(.aload_n 0, []), (.iload_n 1, []), (.invokevirtual 191, [68, 1, 11, 925, 927, 2816, 0]), (.istore 5, []), (.iload 5, []), (.ifCond .ge 9, [5, 4])]),
  (32, none, 0, [(.sipush (-10000), []), (.goto 16, [6])]),
  (38, none, 6, [(.aload_n 0, []), (.getfield 60, [11, 4, 523]), (.iload 5, []), (.iload_n 2, []), (.iload_n 3, []), (.iload 4, []), (.invokevirtual 208, [224, 1, 2, 966, 959, 960, 0])]),
  (51, none, 0, [(.ireturn, [])])])
def pm_X11_give : sm_M := (yX11_give, prog_1_method_58_code, 1, (some .int), 0, 0, 0, [1281, 1, 1], [
  (0, some [0], 0, [(.aload_n 0, []), (.aload_n 0, []), (.getfield 37, [11, 9, 528]), (.invokevirtual 162, [15, 1, 10, 826, 827, 828, 0]), (.aload_n 0, []), (.getfield 37, [11, 9, 528]), (.getfield 131, [10, 6, 142]), (.iconst (-1), []), (.ixor, []), (.iand, []), (.aload_n 0, []), (.getfield 23, [11, 2, 521]), (.getfield 118, [4, 0, 284]), (.iconst (-1), []), (.ixor, []), (.iand, []), (.invokevirtual 367, [66, 1, 11, 1282, 1284, 3074, 0]), (.ireturn, [])])])
def pm_X11_givingUp : sm_M := (yX11_givingUp, prog_1_method_35_code, 2, (some .int), 1, 0, 0, [1069, 1, 1], [
  (0, some [0, 1], 0, [(.iload_n 1, []), (.ifCond .ge 5, [2, 1])]),
  (4, none, 0, [(.iconst (-1), []), (.ireturn, [])]),
  (6, none, 0, [(.aload_n 0, []), (.getfield 75, [11, 7, 526]), (.aload_n 0, []), (.getfield 37, [11, 9, 528]), (.aload_n 0, []), (.getfield 23, [11, 2, 521]), (.invokevirtual 249, [263, 1, 6, 1029, 1030, 1031, 0]), (.ifCond .ne 6, [4, 3])]),
  (24, none, 0, [(.bipush (-3), []), (.ireturn, [])]),
  (27, none, 0, [(.iload_n 1, []), (.aload_n 0, []), (.getfield 75, [11, 7, 526]), (.getfield 259, [6, 5, 439]), (.if_icmp .ge 15, [6, 5])]),
  (38, none, 0, [(.aload_n 0, []), (.getfield 75, [11, 7, 526]), (.getfield 262, [6, 3, 435]), (.iload_n 1, []), (.iaload, []), (.goto 4, [7])]),
  (50, none, 7, [(.iconst (-1), [])]),
  (51, none, 0, [(.ireturn, [])])])
def pm_X11_givingUps : sm_M := (yX11_givingUps, prog_1_method_34_code, 1, (some .int), 0, 0, 0, [1065, 1, 1], [
  (0, some [0], 0, [(.aload_n 0, []), (.getfield 75, [11, 7, 526]), (.aload_n 0, []), (.getfield 37, [11, 9, 528]), (.aload_n 0, []), (.getfield 23, [11, 2, 521]), (.invokevirtual 249, [263, 1, 6, 1029, 1030, 1031, 0]), (.ifCond .eq 13, [2, 1])]),
  (18, none, 0, [(.aload_n 0, []), (.getfield 75, [11, 7, 526]), (.getfield 259, [6, 5, 439]), (.goto 5, [3])]),
  (28, none, 3, [(.bipush (-3), [])]),
  (30, none, 0, [(.ireturn, [])])])
def pm_X11_goWithGuest : sm_M := (yX11_goWithGuest, prog_1_method_43_code, 5, none, 4, 0, 0, [1130, 1, 1], [
  (0, some [0, 1, 2, 3, 4], 0, [(.aload_n 0, []), (.getfield 67, [11, 6, 525]), (.aload_n 0, []), (.getfield 37, [11, 9, 528]), (.aload_n 0, []), (.getfield 23, [11, 2, 521]), (.aload_n 0, []), (.getfield 37, [11, 9, 528]), (.invokevirtual 162, [15, 1, 10, 826, 827, 828, 0]), (.aload_n 0, []), (.getfield 23, [11, 2, 521]), (.getfield 118, [4, 0, 284]), (.iconst (-1), []), (.ixor, []), (.iand, []), (.iconst 1, []), (.invokevirtual 166, [220, 1, 2, 830, 831, 832, 0]), (.aload_n 0, []), (.getfield 67, [11, 6, 525]), (.iload_n 1, []), (.iload_n 2, []), (.iload_n 3, []), (.iload 4, []), (.invokevirtual 288, [226, 1, 2, 1131, 1132, 1133, 0]), (.aload_n 0, []), (.getfield 67, [11, 6, 525]), (.aconst_null, []), (.iconst 0, []), (.invokevirtual 170, [225, 1, 2, 866, 867, 868, 0]), (.return_, [])])])
def pm_X11_goes : sm_M := (yX11_goes, prog_1_method_23_code, 4, (some .int), 2, 0, 0, [945, 1, 1], [
  (0, some [0, 1, 2], 0, [(.iload_n 2, []), (.ifCond .lt 14, [2, 1])]),
  (4, none, 0, [(.iload_n 2, []), (.aload_n 0, []), (.getfield 37, [11, 9, 528]), (.getfield 150, [10, 5, 139]), (.if_icmp .lt 5, [3, 2])]),
  (15, none, 0, [(.iconst (-1), []), (.ireturn, [])]),
  (17, none, 0, [(.aload_n 0, []), (.iload_n 1, []), (.invokevirtual 191, [68, 1, 11, 925, 927, 2816, 0]), (.istore_n 3, []), (.iload_n 3, []), (.ifCond .ge 7, [5, 4])]),
  (27, none, 0, [(.iload_n 3, []), (.goto 15, [6])]),
  (31, none, 6, [(.aload_n 0, []), (.getfield 30, [11, 3, 522]), (.iload_n 1, []), (.bipush 100, []), (.iload_n 2, []), (.iadd, []), (.invokevirtual 198, [216, 1, 1, 941, 934, 935, 0])]),
  (43, none, 0, [(.ireturn, [])])])
def pm_X11_hand : sm_M := (yX11_hand, prog_1_method_64_code, 4, (some .int), 2, 0, 0, [1309, 1, 1], [
  (0, some [0, 1, 2], 0, [(.aload_n 0, []), (.iload_n 2, []), (.invokevirtual 201, [63, 1, 11, 950, 952, 2818, 0]), (.ifCond .ne 5, [2, 1])]),
  (8, none, 0, [(.iconst (-1), []), (.ireturn, [])]),
  (10, none, 0, [(.aload_n 0, []), (.iload_n 1, []), (.invokevirtual 191, [68, 1, 11, 925, 927, 2816, 0]), (.istore_n 3, []), (.iload_n 3, []), (.ifCond .ge 5, [4, 3])]),
  (20, none, 0, [(.iload_n 3, []), (.ireturn, [])]),
  (22, none, 0, [(.aload_n 0, []), (.iload_n 1, []), (.invokevirtual 377, [57, 1, 11, 1298, 1300, 3075, 0]), (.ifCond .ne 5, [6, 5])]),
  (30, none, 0, [(.iconst (-1), []), (.ireturn, [])]),
  (32, none, 0, [(.aload_n 0, []), (.getfield 37, [11, 9, 528]), (.iload_n 2, []), (.invokevirtual 380, [21, 1, 10, 1310, 686, 687, 0]), (.ifCond .eq 8, [8, 7])]),
  (43, none, 0, [(.bipush (-2), []), (.goto 19, [9])]),
  (48, none, 9, [(.aload_n 0, []), (.getfield 64, [11, 5, 524]), (.aload_n 0, []), (.getfield 64, [11, 5, 524]), (.getfield 188, [2, 11, 370]), (.iload_n 2, []), (.iconst 0, []), (.invokevirtual 204, [231, 1, 2, 954, 955, 956, 0])]),
  (64, none, 0, [(.ireturn, [])])])
def pm_X11_hour : sm_M := (yX11_hour, prog_1_method_24_code, 5, (some .int), 3, 0, 0, [949, 1, 1], [
  (0, some [0, 1, 2, 3], 0, [(.aload_n 0, []), (.iload_n 2, []), (.invokevirtual 201, [63, 1, 11, 950, 952, 2818, 0]), (.ifCond .ne 5, [2, 1])]),
  (8, none, 0, [(.iconst (-1), []), (.ireturn, [])]),
  (10, none, 0, [(.aload_n 0, []), (.iload_n 1, []), (.invokevirtual 191, [68, 1, 11, 925, 927, 2816, 0]), (.istore 4, []), (.iload 4, []), (.ifCond .ge 8, [4, 3])]),
  (22, none, 0, [(.iload 4, []), (.goto 14, [5])]),
  (27, none, 5, [(.aload_n 0, []), (.getfield 60, [11, 4, 523]), (.iload 4, []), (.iload_n 2, []), (.iload_n 3, []), (.invokevirtual 204, [231, 1, 2, 954, 955, 956, 0])]),
  (38, none, 0, [(.ireturn, [])])])
def pm_X11_init : sm_M := (yX11_init, prog_1_method_1_code, 1, none, 0, 106, 36299, [22, 1, 1], [
  (0, some [0], 1, [(.aload_n 0, []), (.invokespecial 3, [23, 24, 25]), (.aload_n 0, []), (.sipush 2000, []), (.newarray .byte, [1, 55]), (.putfield 9, [11, 0, 519]), (.aload_n 0, []), (.new 13, [7, 26, 27, 2]), (.dup, []), (.invokespecial 15, [273, 1, 7, 0, 29, 0, 1]), (.putfield 16, [11, 1, 520]), (.aload_n 0, []), (.new 20, [4, 269, 270, 8]), (.dup, []), (.invokespecial 22, [246, 1, 4, 271, 272, 0, 0]), (.putfield 23, [11, 2, 521]), (.aload_n 0, []), (.new 27, [1, 307, 308, 9]), (.dup, []), (.invokespecial 29, [217, 1, 1, 3, 310, 0, 1]), (.putfield 30, [11, 3, 522]), (.aload_n 0, []), (.new 34, [10, 323, 78, 5]), (.dup, []), (.invokespecial 36, [20, 1, 10, 324, 80, 0, 0]), (.putfield 37, [11, 9, 528]), (.aload_n 0, []), (.iconst 0, []), (.putfield 41, [11, 10, 529]), (.aload_n 0, []), (.iconst (-1), []), (.putfield 45, [11, 11, 530]), (.aload_n 0, []), (.iconst 0, []), (.putfield 48, [11, 12, 531]), (.aload_n 0, []), (.iconst 0, []), (.putfield 52, [11, 13, 532]), (.aload_n 0, []), (.new 55, [2, 325, 326, 10])]),
  (81, none, 2, [(.dup, []), (.bipush 60, []), (.bipush 10, []), (.iconst 0, []), (.aload_n 0, []), (.getfield 37, [11, 9, 528]), (.aload_n 0, []), (.getfield 23, [11, 2, 521]), (.invokespecial 57, [228, 1, 2, 327, 328, 0, 0]), (.putfield 60, [11, 4, 523]), (.aload_n 0, []), (.new 55, [2, 325, 326, 10]), (.dup, []), (.bipush 55, []), (.bipush 10, []), (.iconst 1, []), (.aload_n 0, []), (.getfield 37, [11, 9, 528]), (.aload_n 0, []), (.getfield 23, [11, 2, 521]), (.invokespecial 57, [227, 1, 2, 327, 328, 0, 0]), (.putfield 64, [11, 5, 524]), (.aload_n 0, []), (.new 55, [2, 325, 326, 10]), (.dup, []), (.bipush 65, []), (.bipush 11, []), (.iconst 0, []), (.aload_n 0, []), (.getfield 37, [11, 9, 528]), (.aload_n 0, []), (.getfield 23, [11, 2, 521]), (.invokespecial 57, [229, 1, 2, 327, 328, 0, 0]), (.putfield 67, [11, 6, 525]), (.aload_n 0, []), (.new 70, [6, 424, 425, 12]), (.dup, []), (.aload_n 0, []), (.getfield 67, [11, 6, 525]), (.invokespecial 72, [261, 1, 6, 426, 427, 0, 0])]),
  (161, none, 0, [(.putfield 75, [11, 7, 526]), (.aload_n 0, []), (.new 79, [0, 476, 477, 13]), (.dup, []), (.aload_n 0, []), (.getfield 60, [11, 4, 523]), (.aload_n 0, []), (.getfield 30, [11, 3, 522]), (.invokespecial 81, [6, 1, 0, 478, 479, 0, 0]), (.putfield 84, [11, 8, 527]), (.return_, [])])])
def pm_X11_isDoubted : sm_M := (yX11_isDoubted, prog_1_method_11_code, 2, (some .boolean), 1, 0, 0, [940, 1, 1], [
  (0, some [0, 1], 0, [(.aload_n 0, []), (.getfield 23, [11, 2, 521]), (.getfield 118, [4, 0, 284]), (.iload_n 1, []), (.ishr, []), (.iconst 1, []), (.iand, []), (.ifCond .eq 7, [2, 1])]),
  (14, none, 0, [(.iconst 1, []), (.goto 4, [3])]),
  (18, none, 3, [(.iconst 0, [])]),
  (19, none, 0, [(.ireturn, [])])])
def pm_X11_isGoneThrough : sm_M := (yX11_isGoneThrough, prog_1_method_19_code, 1, (some .boolean), 0, 0, 0, [825, 1, 1], [
  (0, some [0], 0, [(.aload_n 0, []), (.getfield 48, [11, 12, 531]), (.ifCond .ne 53, [2, 1])]),
  (7, none, 2, [(.aload_n 0, []), (.getfield 60, [11, 4, 523]), (.aload_n 0, []), (.getfield 37, [11, 9, 528]), (.aload_n 0, []), (.getfield 23, [11, 2, 521]), (.aload_n 0, []), (.getfield 37, [11, 9, 528]), (.invokevirtual 162, [15, 1, 10, 826, 827, 828, 0]), (.aload_n 0, []), (.getfield 23, [11, 2, 521]), (.getfield 118, [4, 0, 284]), (.iconst (-1), []), (.ixor, []), (.iand, []), (.iconst 0, []), (.invokevirtual 166, [220, 1, 2, 830, 831, 832, 0]), (.aload_n 0, []), (.getfield 60, [11, 4, 523]), (.aload_n 0, []), (.getfield 30, [11, 3, 522]), (.iconst 0, []), (.invokevirtual 170, [225, 1, 2, 866, 867, 868, 0]), (.aload_n 0, []), (.iconst 1, []), (.putfield 48, [11, 12, 531])]),
  (57, none, 0, [(.aload_n 0, []), (.getfield 60, [11, 4, 523]), (.getfield 174, [2, 15, 382]), (.ifCond .ne 7, [4, 3])]),
  (67, none, 0, [(.iconst 1, []), (.goto 4, [5])]),
  (71, none, 5, [(.iconst 0, [])]),
  (72, none, 0, [(.ireturn, [])])])
def pm_X11_isKept : sm_M := (yX11_isKept, prog_1_method_61_code, 2, (some .boolean), 1, 0, 0, [1301, 1, 1], [
  (0, some [0, 1], 0, [(.aload_n 0, []), (.getfield 52, [11, 13, 532]), (.ifCond .ne 41, [2, 1])]),
  (7, none, 2, [(.aload_n 0, []), (.getfield 64, [11, 5, 524]), (.aload_n 0, []), (.getfield 37, [11, 9, 528]), (.aload_n 0, []), (.getfield 23, [11, 2, 521]), (.aload_n 0, []), (.getfield 37, [11, 9, 528]), (.invokevirtual 162, [15, 1, 10, 826, 827, 828, 0]), (.aload_n 0, []), (.getfield 23, [11, 2, 521]), (.getfield 118, [4, 0, 284]), (.iconst (-1), []), (.ixor, []), (.iand, []), (.iconst 0, []), (.invokevirtual 166, [220, 1, 2, 830, 831, 832, 0]), (.aload_n 0, []), (.iconst 1, []), (.putfield 52, [11, 13, 532])]),
  (45, none, 0, [(.aload_n 0, []), (.getfield 64, [11, 5, 524]), (.getfield 374, [2, 12, 373]), (.ifCond .eq 22, [5, 3])]),
  (55, none, 0, [(.aload_n 0, []), (.getfield 64, [11, 5, 524]), (.aload_n 0, []), (.getfield 30, [11, 3, 522]), (.iload_n 1, []), (.invokevirtual 184, [222, 1, 2, 929, 930, 931, 0]), (.ifCond .eq 7, [5, 4])]),
  (70, none, 0, [(.iconst 1, []), (.goto 4, [6])]),
  (74, none, 6, [(.iconst 0, [])]),
  (75, none, 0, [(.ireturn, [])])])
def pm_X11_isMinute : sm_M := (yX11_isMinute, prog_1_method_15_code, 1, (some .boolean), 1, 0, 0, [977, 1, 1], [
  (0, some [0], 0, [(.iload_n 0, []), (.ifCond .lt 14, [3, 1])]),
  (4, none, 0, [(.iload_n 0, []), (.sipush 1440, []), (.if_icmp .gt 7, [3, 2])]),
  (11, none, 0, [(.iconst 1, []), (.goto 4, [4])]),
  (15, none, 4, [(.iconst 0, [])]),
  (16, none, 0, [(.ireturn, [])])])
def pm_X11_isPerson : sm_M := (yX11_isPerson, prog_1_method_14_code, 2, (some .boolean), 1, 0, 0, [1126, 1, 1], [
  (0, some [0, 1], 0, [(.iload_n 1, []), (.ifCond .lt 18, [3, 1])]),
  (4, none, 0, [(.iload_n 1, []), (.aload_n 0, []), (.getfield 37, [11, 9, 528]), (.getfield 140, [10, 0, 121]), (.if_icmp .ge 7, [3, 2])]),
  (15, none, 0, [(.iconst 1, []), (.goto 4, [4])]),
  (19, none, 4, [(.iconst 0, [])]),
  (20, none, 0, [(.ireturn, [])])])
def pm_X11_isPlace : sm_M := (yX11_isPlace, prog_1_method_13_code, 2, (some .boolean), 1, 0, 0, [812, 1, 1], [
  (0, some [0, 1], 0, [(.iload_n 1, []), (.ifCond .lt 18, [3, 1])]),
  (4, none, 0, [(.iload_n 1, []), (.aload_n 0, []), (.getfield 37, [11, 9, 528]), (.getfield 137, [10, 1, 124]), (.if_icmp .ge 7, [3, 2])]),
  (15, none, 0, [(.iconst 1, []), (.goto 4, [4])]),
  (19, none, 4, [(.iconst 0, [])]),
  (20, none, 0, [(.ireturn, [])])])
def pm_X11_isSay : sm_M := (yX11_isSay, prog_1_method_10_code, 2, (some .boolean), 1, 0, 0, [800, 1, 1], [
  (0, some [0, 1], 0, [(.aload_n 0, []), (.iload_n 1, []), (.invokevirtual 128, [62, 1, 11, 801, 803, 2564, 0]), (.ifCond .eq 21, [3, 1])]),
  (8, none, 0, [(.aload_n 0, []), (.getfield 37, [11, 9, 528]), (.getfield 131, [10, 6, 142]), (.iload_n 1, []), (.ishr, []), (.iconst 1, []), (.iand, []), (.ifCond .ne 7, [3, 2])]),
  (22, none, 0, [(.iconst 1, []), (.goto 4, [4])]),
  (26, none, 4, [(.iconst 0, [])]),
  (27, none, 0, [(.ireturn, [])])])
def pm_X11_isSaying : sm_M := (yX11_isSaying, prog_1_method_9_code, 2, (some .boolean), 1, 0, 0, [804, 1, 1], [
  (0, some [0, 1], 0, [(.iload_n 1, []), (.ifCond .lt 18, [3, 1])]),
  (4, none, 0, [(.iload_n 1, []), (.aload_n 0, []), (.getfield 37, [11, 9, 528]), (.getfield 125, [10, 3, 132]), (.if_icmp .ge 7, [3, 2])]),
  (15, none, 0, [(.iconst 1, []), (.goto 4, [4])]),
  (19, none, 4, [(.iconst 0, [])]),
  (20, none, 0, [(.ireturn, [])])])
def pm_X11_isTime : sm_M := (yX11_isTime, prog_1_method_12_code, 2, (some .boolean), 1, 0, 0, [953, 1, 1], [
  (0, some [0, 1], 0, [(.iload_n 1, []), (.ifCond .lt 18, [3, 1])]),
  (4, none, 0, [(.iload_n 1, []), (.aload_n 0, []), (.getfield 37, [11, 9, 528]), (.getfield 134, [10, 2, 128]), (.if_icmp .ge 7, [3, 2])]),
  (15, none, 0, [(.iconst 1, []), (.goto 4, [4])]),
  (19, none, 4, [(.iconst 0, [])]),
  (20, none, 0, [(.ireturn, [])])])
def pm_X11_keep : sm_M := (yX11_keep, prog_1_method_63_code, 2, (some .int), 0, 0, 0, [1305, 1, 1], [
  (0, some [0], 0, [(.aload_n 0, []), (.invokevirtual 177, [56, 1, 11, 822, 824, 2566, 0]), (.ifCond .ne 6, [2, 1])]),
  (7, none, 0, [(.bipush (-3), []), (.ireturn, [])]),
  (10, none, 3, [(.iconst 0, []), (.istore_n 1, [])]),
  (12, some [0, 1], 0, [(.iload_n 1, []), (.aload_n 0, []), (.getfield 60, [11, 4, 523]), (.getfield 181, [2, 14, 379]), (.if_icmp .ge 19, [7, 4])]),
  (23, none, 0, [(.aload_n 0, []), (.iload_n 1, []), (.invokevirtual 377, [57, 1, 11, 1298, 1300, 3075, 0]), (.ifCond .eq 5, [6, 5])]),
  (31, none, 0, [(.iload_n 1, []), (.ireturn, [])]),
  (33, none, 0, [(.iinc 1 1, []), (.goto (-24), [3])]),
  (39, none, 0, [(.bipush (-2), []), (.ireturn, [])])])
def pm_X11_kept : sm_M := (yX11_kept, prog_1_method_62_code, 3, (some .int), 1, 0, 0, [1297, 1, 1], [
  (0, some [0, 1], 0, [(.aload_n 0, []), (.iload_n 1, []), (.invokevirtual 191, [68, 1, 11, 925, 927, 2816, 0]), (.istore_n 2, []), (.iload_n 2, []), (.ifCond .ge 5, [2, 1])]),
  (10, none, 0, [(.iload_n 2, []), (.ireturn, [])]),
  (12, none, 0, [(.aload_n 0, []), (.iload_n 1, []), (.invokevirtual 377, [57, 1, 11, 1298, 1300, 3075, 0]), (.ifCond .eq 7, [4, 3])]),
  (20, none, 0, [(.iconst 1, []), (.goto 4, [5])]),
  (24, none, 5, [(.iconst 0, [])]),
  (25, none, 0, [(.ireturn, [])])])
def pm_X11_leastGive : sm_M := (yX11_leastGive, prog_1_method_60_code, 6, (some .int), 1, 0, 0, [1285, 1, 1], [
  (0, some [0, 1], 1, [(.iconst 0, []), (.istore_n 2, []), (.sipush 1441, []), (.istore_n 3, []), (.iconst 0, []), (.istore 4, [])]),
  (9, some [0, 1, 2, 3, 4], 0, [(.iload 4, []), (.sipush 1441, []), (.if_icmp .ge 107, [9, 2])]),
  (17, none, 0, [(.iload_n 2, []), (.iload_n 3, []), (.if_icmp .ge 102, [9, 3])]),
  (22, none, 0, [(.iload_n 2, []), (.iload_n 3, []), (.iadd, []), (.iconst 2, []), (.idiv, []), (.istore 5, []), (.aload_n 0, []), (.getfield 67, [11, 6, 525]), (.aload_n 0, []), (.getfield 37, [11, 9, 528]), (.aload_n 0, []), (.getfield 23, [11, 2, 521]), (.aload_n 0, []), (.getfield 37, [11, 9, 528]), (.invokevirtual 162, [15, 1, 10, 826, 827, 828, 0]), (.aload_n 0, []), (.getfield 23, [11, 2, 521]), (.getfield 118, [4, 0, 284]), (.iconst (-1), []), (.ixor, []), (.iand, []), (.iconst 0, []), (.invokevirtual 166, [220, 1, 2, 830, 831, 832, 0]), (.aload_n 0, []), (.getfield 67, [11, 6, 525]), (.iload_n 1, []), (.iload 5, []), (.invokevirtual 370, [238, 1, 2, 1286, 1287, 1288, 0]), (.aload_n 0, []), (.getfield 67, [11, 6, 525]), (.aconst_null, []), (.iconst 1, []), (.invokevirtual 170, [225, 1, 2, 866, 867, 868, 0]), (.aload_n 0, []), (.getfield 67, [11, 6, 525]), (.getfield 174, [2, 15, 382]), (.ifCond .eq 6, [5, 4])]),
  (91, none, 0, [(.bipush (-3), []), (.ireturn, [])]),
  (94, none, 0, [(.aload_n 0, []), (.getfield 67, [11, 6, 525]), (.getfield 181, [2, 14, 379]), (.ifCond .le 9, [7, 6])]),
  (104, none, 0, [(.iload 5, []), (.istore_n 3, []), (.goto 8, [8])]),
  (110, none, 8, [(.iload 5, []), (.iconst 1, []), (.iadd, []), (.istore_n 2, [])]),
  (115, none, 0, [(.iinc 4 1, []), (.goto (-109), [1])]),
  (121, none, 0, [(.iload_n 2, []), (.ireturn, [])])])
def pm_X11_left : sm_M := (yX11_left, prog_1_method_47_code, 4, (some .int), 2, 0, 0, [1157, 1, 1], [
  (0, some [0, 1, 2], 0, [(.iconst (-1), []), (.aload_n 0, []), (.getfield 37, [11, 9, 528]), (.getfield 297, [10, 4, 136]), (.ishl, []), (.istore_n 3, []), (.iload_n 1, []), (.iload_n 2, []), (.ior, []), (.iload_n 3, []), (.iand, []), (.ifCond .ne 9, [2, 1])]),
  (18, none, 0, [(.iload_n 1, []), (.iload_n 2, []), (.iand, []), (.ifCond .eq 5, [3, 2])]),
  (24, none, 0, [(.iconst (-1), []), (.ireturn, [])]),
  (26, none, 0, [(.aload_n 0, []), (.invokevirtual 177, [56, 1, 11, 822, 824, 2566, 0]), (.ifCond .eq 19, [5, 4])]),
  (33, none, 0, [(.aload_n 0, []), (.getfield 84, [11, 8, 527]), (.aload_n 0, []), (.getfield 37, [11, 9, 528]), (.iload_n 1, []), (.iload_n 2, []), (.invokevirtual 307, [8, 1, 0, 1158, 1159, 1160, 0]), (.goto 5, [6])]),
  (49, none, 6, [(.bipush (-3), [])]),
  (51, none, 0, [(.ireturn, [])])])
def pm_X11_levelOf : sm_M := (yX11_levelOf, prog_1_method_20_code, 2, (some .int), 1, 0, 0, [928, 1, 1], [
  (0, some [0, 1], 0, [(.iload_n 1, []), (.ifCond .ge 5, [2, 1])]),
  (4, none, 0, [(.iconst (-1), []), (.ireturn, [])]),
  (6, none, 0, [(.aload_n 0, []), (.invokevirtual 177, [56, 1, 11, 822, 824, 2566, 0]), (.ifCond .ne 6, [4, 3])]),
  (13, none, 0, [(.bipush (-3), []), (.ireturn, [])]),
  (16, none, 0, [(.iload_n 1, []), (.aload_n 0, []), (.getfield 60, [11, 4, 523]), (.getfield 181, [2, 14, 379]), (.if_icmp .lt 5, [6, 5])]),
  (27, none, 0, [(.iconst (-1), []), (.ireturn, [])]),
  (29, none, 0, [(.aload_n 0, []), (.getfield 60, [11, 4, 523]), (.aload_n 0, []), (.getfield 30, [11, 3, 522]), (.iload_n 1, []), (.invokevirtual 184, [222, 1, 2, 929, 930, 931, 0]), (.pop, []), (.aload_n 0, []), (.getfield 60, [11, 4, 523]), (.getfield 188, [2, 11, 370]), (.ireturn, [])])])
def pm_X11_more : sm_M := (yX11_more, prog_1_method_51_code, 6, (some .int), 4, 0, 0, [1219, 1, 1], [
  (0, some [0, 1, 2, 3, 4], 0, [(.aload_n 0, []), (.iload_n 1, []), (.invokevirtual 201, [63, 1, 11, 950, 952, 2818, 0]), (.ifCond .eq 20, [4, 1])]),
  (8, none, 0, [(.iload_n 2, []), (.iconst (-1), []), (.if_icmp .eq 11, [3, 2])]),
  (13, none, 0, [(.aload_n 0, []), (.iload_n 2, []), (.invokevirtual 201, [63, 1, 11, 950, 952, 2818, 0]), (.ifCond .eq 7, [4, 3])]),
  (21, none, 0, [(.iconst 1, []), (.goto 4, [5])]),
  (25, none, 5, [(.iconst 0, [])]),
  (26, some [0, 1, 2, 3, 4], 0, [(.istore 5, []), (.iload 5, []), (.ifCond .eq 27, [8, 6])]),
  (33, none, 0, [(.iload_n 3, []), (.iload 4, []), (.invokestatic 328, [2, 1220, 659]), (.sipush (-1440), []), (.if_icmp .lt 15, [8, 7])]),
  (45, none, 0, [(.iload_n 3, []), (.iload 4, []), (.invokestatic 304, [1, 1153, 888]), (.sipush 1440, []), (.if_icmp .le 5, [9, 8])]),
  (57, none, 0, [(.iconst (-1), []), (.ireturn, [])]),
  (59, none, 0, [(.aload_n 0, []), (.getfield 23, [11, 2, 521]), (.getfield 331, [4, 1, 287]), (.bipush 6, []), (.if_icmp .lt 5, [11, 10])]),
  (71, none, 0, [(.iconst (-1), []), (.ireturn, [])]),
  (73, none, 0, [(.aload_n 0, []), (.getfield 23, [11, 2, 521]), (.getfield 334, [4, 4, 295]), (.aload_n 0, []), (.getfield 23, [11, 2, 521]), (.getfield 331, [4, 1, 287]), (.iload_n 1, []), (.iload_n 2, []), (.invokevirtual 337, [294, 1, 8, 1221, 724, 725, 0]), (.aload_n 0, []), (.getfield 23, [11, 2, 521]), (.getfield 334, [4, 4, 295]), (.aload_n 0, []), (.getfield 23, [11, 2, 521]), (.getfield 331, [4, 1, 287]), (.iload_n 3, []), (.iload 4, []), (.invokevirtual 341, [286, 1, 8, 1222, 732, 733, 0]), (.aload_n 0, []), (.getfield 23, [11, 2, 521]), (.dup, []), (.getfield 331, [4, 1, 287]), (.iconst 1, []), (.iadd, []), (.putfield 331, [4, 1, 287]), (.aload_n 0, []), (.invokevirtual 104, [86, 1, 11, 785, 787, 2562, 0]), (.aload_n 0, []), (.getfield 23, [11, 2, 521]), (.getfield 331, [4, 1, 287]), (.ireturn, [])])])
def pm_X11_move : sm_M := (yX11_move, prog_1_method_18_code, 3, (some .int), 2, 0, 0, [817, 1, 1], [
  (0, some [0, 1, 2], 0, [(.iload_n 1, []), (.ifCond .lt 14, [2, 1])]),
  (4, none, 0, [(.iload_n 1, []), (.aload_n 0, []), (.getfield 37, [11, 9, 528]), (.getfield 150, [10, 5, 139]), (.if_icmp .lt 5, [3, 2])]),
  (15, none, 0, [(.iconst (-1), []), (.ireturn, [])]),
  (17, none, 0, [(.iload_n 2, []), (.tableswitch 56 0 2 #[26, 36, 46], [7, 4, 5, 6])]),
  (44, none, 0, [(.aload_n 0, []), (.getfield 37, [11, 9, 528]), (.getfield 153, [10, 16, 169]), (.iload_n 1, []), (.iaload, []), (.ireturn, [])]),
  (54, none, 0, [(.aload_n 0, []), (.getfield 37, [11, 9, 528]), (.getfield 156, [10, 17, 172]), (.iload_n 1, []), (.iaload, []), (.ireturn, [])]),
  (64, none, 0, [(.aload_n 0, []), (.getfield 37, [11, 9, 528]), (.getfield 159, [10, 18, 175]), (.iload_n 1, []), (.iaload, []), (.ireturn, [])]),
  (74, none, 0, [(.iconst (-1), []), (.ireturn, [])])])
def pm_X11_next : sm_M := (yX11_next, prog_1_method_46_code, 5, (some .int), 0, 0, 0, [1152, 1, 1], [
  (0, some [0], 0, [(.aload_n 0, []), (.getfield 37, [11, 9, 528]), (.getfield 297, [10, 4, 136]), (.ifCond .ne 6, [2, 1])]),
  (10, none, 0, [(.bipush (-2), []), (.ireturn, [])]),
  (13, none, 0, [(.aload_n 0, []), (.invokevirtual 177, [56, 1, 11, 822, 824, 2566, 0]), (.ifCond .ne 6, [4, 3])]),
  (20, none, 0, [(.bipush (-3), []), (.ireturn, [])]),
  (23, none, 5, [(.iconst (-1), []), (.istore_n 1, []), (.iconst 0, []), (.istore_n 2, []), (.iconst 0, []), (.istore_n 3, [])]),
  (29, some [0, 1, 2, 3], 0, [(.iload_n 3, []), (.aload_n 0, []), (.getfield 37, [11, 9, 528]), (.getfield 297, [10, 4, 136]), (.if_icmp .ge 56, [10, 6])]),
  (40, none, 0, [(.aload_n 0, []), (.getfield 84, [11, 8, 527]), (.aload_n 0, []), (.getfield 37, [11, 9, 528]), (.iload_n 3, []), (.iconst 1, []), (.invokevirtual 300, [1, 1, 0, 1143, 1144, 1145, 0]), (.aload_n 0, []), (.getfield 84, [11, 8, 527]), (.aload_n 0, []), (.getfield 37, [11, 9, 528]), (.iload_n 3, []), (.iconst 0, []), (.invokevirtual 300, [1, 1, 0, 1143, 1144, 1145, 0]), (.invokestatic 304, [1, 1153, 888]), (.istore 4, []), (.iload_n 1, []), (.iconst (-1), []), (.if_icmp .eq 9, [8, 7])]),
  (76, none, 0, [(.iload 4, []), (.iload_n 2, []), (.if_icmp .ge 8, [9, 8])]),
  (82, none, 9, [(.iload_n 3, []), (.istore_n 1, []), (.iload 4, []), (.istore_n 2, [])]),
  (87, none, 0, [(.iinc 3 1, []), (.goto (-61), [5])]),
  (93, none, 0, [(.iload_n 1, []), (.ireturn, [])])])
def pm_X11_pick : sm_M := (yX11_pick, prog_1_method_38_code, 5, (some .boolean), 2, 0, 0, [1090, 1, 1], [
  (0, some [0, 1, 2], 0, [(.aload_n 0, []), (.iload_n 1, []), (.invokevirtual 128, [62, 1, 11, 801, 803, 2564, 0]), (.ifCond .eq 27, [3, 1])]),
  (8, none, 0, [(.aload_n 0, []), (.iload_n 1, []), (.invokevirtual 195, [55, 1, 11, 937, 939, 2817, 0]), (.ifCond .ne 19, [3, 2])]),
  (16, none, 0, [(.iload_n 1, []), (.istore_n 3, []), (.aload_n 0, []), (.getfield 37, [11, 9, 528]), (.getfield 218, [10, 12, 158]), (.iload_n 1, []), (.iaload, []), (.istore 4, []), (.goto 58, [10])]),
  (32, none, 0, [(.iload_n 1, []), (.bipush 100, []), (.if_icmp .lt 50, [9, 4])]),
  (38, none, 0, [(.iload_n 1, []), (.bipush 100, []), (.isub, []), (.aload_n 0, []), (.getfield 37, [11, 9, 528]), (.getfield 150, [10, 5, 139]), (.if_icmp .ge 36, [9, 5])]),
  (52, none, 0, [(.bipush 10, []), (.iload_n 1, []), (.iadd, []), (.bipush 100, []), (.isub, []), (.istore_n 3, []), (.aload_n 0, []), (.getfield 37, [11, 9, 528]), (.getfield 159, [10, 18, 175]), (.iload_n 1, []), (.bipush 100, []), (.isub, []), (.iaload, []), (.ifCond .ge 7, [7, 6])]),
  (75, none, 0, [(.iconst 0, []), (.goto 4, [8])]),
  (79, none, 8, [(.iconst 2, [])]),
  (80, none, 0, [(.istore 4, []), (.goto 5, [10])]),
  (85, none, 0, [(.iconst 0, []), (.ireturn, [])]),
  (87, some [0, 2, 3, 4], 0, [(.iload_n 2, []), (.iconst (-1), []), (.if_icmp .lt 9, [12, 11])]),
  (92, none, 0, [(.iload_n 2, []), (.iload 4, []), (.if_icmp .lt 5, [13, 12])]),
  (98, none, 0, [(.iconst 0, []), (.ireturn, [])]),
  (100, none, 0, [(.aload_n 0, []), (.getfield 23, [11, 2, 521]), (.getfield 121, [4, 3, 292]), (.iload_n 3, []), (.iload_n 2, []), (.iastore, []), (.aload_n 0, []), (.getfield 75, [11, 7, 526]), (.iconst 0, []), (.putfield 111, [6, 9, 447]), (.iconst 1, []), (.ireturn, [])])])
def pm_X11_place : sm_M := (yX11_place, prog_1_method_7_code, 1, (some .int), 0, 0, 0, [792, 1, 1], [
  (0, some [0], 0, [(.aload_n 0, []), (.getfield 45, [11, 11, 530]), (.ireturn, [])])])
def pm_X11_plan : sm_M := (yX11_plan, prog_1_method_49_code, 3, (some .int), 1, 0, 0, [1176, 1, 1], [
  (0, some [0, 1], 0, [(.aload_n 0, []), (.iload_n 1, []), (.invokevirtual 322, [75, 1, 11, 1177, 1179, 2829, 0]), (.istore_n 2, []), (.iload_n 2, []), (.ifCond .ge 7, [2, 1])]),
  (10, none, 0, [(.iload_n 2, []), (.goto 12, [3])]),
  (14, none, 3, [(.aload_n 0, []), (.getfield 84, [11, 8, 527]), (.getfield 319, [0, 4, 487]), (.iconst 0, []), (.iaload, [])]),
  (23, none, 0, [(.ireturn, [])])])
def pm_X11_planTo : sm_M := (yX11_planTo, prog_1_method_48_code, 2, (some .int), 1, 0, 0, [1180, 1, 1], [
  (0, some [0, 1], 0, [(.iload_n 1, []), (.ifCond .lt 10, [2, 1])]),
  (4, none, 0, [(.iload_n 1, []), (.sipush 1000, []), (.if_icmp .le 5, [3, 2])]),
  (11, none, 0, [(.iconst (-1), []), (.ireturn, [])]),
  (13, none, 0, [(.aload_n 0, []), (.invokevirtual 177, [56, 1, 11, 822, 824, 2566, 0]), (.ifCond .eq 15, [5, 4])]),
  (20, none, 0, [(.aload_n 0, []), (.getfield 60, [11, 4, 523]), (.getfield 181, [2, 14, 379]), (.bipush 64, []), (.if_icmp .le 6, [6, 5])]),
  (32, none, 0, [(.bipush (-3), []), (.ireturn, [])]),
  (35, none, 0, [(.aload_n 0, []), (.getfield 84, [11, 8, 527]), (.aload_n 0, []), (.getfield 37, [11, 9, 528]), (.invokevirtual 311, [4, 1, 0, 1181, 1182, 1183, 0]), (.aload_n 0, []), (.getfield 84, [11, 8, 527]), (.aload_n 0, []), (.getfield 37, [11, 9, 528]), (.iload_n 1, []), (.invokevirtual 315, [11, 1, 0, 1199, 1200, 1201, 0]), (.aload_n 0, []), (.getfield 84, [11, 8, 527]), (.getfield 319, [0, 4, 487]), (.iconst 0, []), (.iaload, []), (.iconst 5, []), (.if_icmp .le 8, [8, 7])]),
  (71, none, 0, [(.bipush (-2), []), (.goto 4, [9])]),
  (76, none, 9, [(.iconst 0, [])]),
  (77, none, 0, [(.ireturn, [])])])
def pm_X11_price : sm_M := (yX11_price, prog_1_method_37_code, 2, (some .int), 0, 0, 0, [1085, 1, 1], [
  (0, some [0], 0, [(.aload_n 0, []), (.getfield 75, [11, 7, 526]), (.aload_n 0, []), (.getfield 37, [11, 9, 528]), (.aload_n 0, []), (.getfield 23, [11, 2, 521]), (.invokevirtual 249, [263, 1, 6, 1029, 1030, 1031, 0]), (.ifCond .ne 6, [2, 1])]),
  (18, none, 0, [(.bipush (-3), []), (.ireturn, [])]),
  (21, none, 0, [(.aload_n 0, []), (.getfield 75, [11, 7, 526]), (.aload_n 0, []), (.getfield 37, [11, 9, 528]), (.invokevirtual 265, [258, 1, 6, 1074, 1075, 1076, 0]), (.istore_n 1, []), (.iload_n 1, []), (.ifCond .ge 8, [4, 3])]),
  (37, none, 0, [(.bipush (-2), []), (.goto 19, [5])]),
  (42, none, 5, [(.aload_n 0, []), (.getfield 37, [11, 9, 528]), (.aload_n 0, []), (.getfield 75, [11, 7, 526]), (.getfield 262, [6, 3, 435]), (.iload_n 1, []), (.iaload, []), (.invokevirtual 269, [26, 1, 10, 1086, 1079, 1080, 0])]),
  (58, none, 0, [(.ireturn, [])])])
def pm_X11_putFour : sm_M := (yX11_putFour, prog_1_method_3_code, 3, none, 1, 0, 0, [569, 1, 1], [
  (0, some [0, 1], 1, [(.bipush 24, []), (.istore_n 2, [])]),
  (3, some [0, 1, 2], 0, [(.iload_n 2, []), (.ifCond .lt 42, [5, 2])]),
  (7, none, 0, [(.aload_n 0, []), (.getfield 41, [11, 10, 529]), (.sipush 2000, []), (.if_icmp .ge 26, [4, 3])]),
  (17, none, 4, [(.aload_n 0, []), (.getfield 9, [11, 0, 519]), (.aload_n 0, []), (.getfield 41, [11, 10, 529]), (.iload_n 1, []), (.iload_n 2, []), (.iushr, []), (.i2b, []), (.bastore, []), (.aload_n 0, []), (.dup, []), (.getfield 41, [11, 10, 529]), (.iconst 1, []), (.iadd, []), (.putfield 41, [11, 10, 529])]),
  (40, none, 0, [(.iinc 2 (-8), []), (.goto (-40), [1])]),
  (46, none, 0, [(.return_, [])])])
def pm_X11_quarrel : sm_M := (yX11_quarrel, prog_1_method_33_code, 2, (some .int), 1, 0, 0, [1061, 1, 1], [
  (0, some [0, 1], 0, [(.iload_n 1, []), (.ifCond .ge 5, [2, 1])]),
  (4, none, 0, [(.iconst (-1), []), (.ireturn, [])]),
  (6, none, 0, [(.aload_n 0, []), (.getfield 75, [11, 7, 526]), (.aload_n 0, []), (.getfield 37, [11, 9, 528]), (.aload_n 0, []), (.getfield 23, [11, 2, 521]), (.invokevirtual 249, [263, 1, 6, 1029, 1030, 1031, 0]), (.ifCond .ne 6, [4, 3])]),
  (24, none, 0, [(.bipush (-3), []), (.ireturn, [])]),
  (27, none, 0, [(.iload_n 1, []), (.aload_n 0, []), (.getfield 75, [11, 7, 526]), (.getfield 253, [6, 4, 437]), (.if_icmp .ge 15, [6, 5])]),
  (38, none, 0, [(.aload_n 0, []), (.getfield 75, [11, 7, 526]), (.getfield 256, [6, 2, 433]), (.iload_n 1, []), (.iaload, []), (.goto 4, [7])]),
  (50, none, 7, [(.iconst (-1), [])]),
  (51, none, 0, [(.ireturn, [])])])
def pm_X11_quarrels : sm_M := (yX11_quarrels, prog_1_method_32_code, 1, (some .int), 0, 0, 0, [1028, 1, 1], [
  (0, some [0], 0, [(.aload_n 0, []), (.getfield 75, [11, 7, 526]), (.aload_n 0, []), (.getfield 37, [11, 9, 528]), (.aload_n 0, []), (.getfield 23, [11, 2, 521]), (.invokevirtual 249, [263, 1, 6, 1029, 1030, 1031, 0]), (.ifCond .eq 13, [2, 1])]),
  (18, none, 0, [(.aload_n 0, []), (.getfield 75, [11, 7, 526]), (.getfield 253, [6, 4, 437]), (.goto 5, [3])]),
  (28, none, 3, [(.bipush (-3), [])]),
  (30, none, 0, [(.ireturn, [])])])
def pm_X11_read : sm_M := (yX11_read, prog_1_method_5_code, 2, (some .int), 0, 0, 0, [577, 1, 1], [
  (0, some [0], 0, [(.aload_n 0, []), (.getfield 16, [11, 1, 520]), (.aload_n 0, []), (.getfield 9, [11, 0, 519]), (.aload_n 0, []), (.getfield 41, [11, 10, 529]), (.invokevirtual 92, [276, 1, 7, 578, 579, 580, 0]), (.istore_n 1, []), (.aload_n 0, []), (.iconst 0, []), (.putfield 41, [11, 10, 529]), (.aload_n 0, []), (.iload_n 1, []), (.ifCond .ne 7, [2, 1])]),
  (26, none, 0, [(.iconst (-1), []), (.goto 10, [3])]),
  (30, none, 3, [(.aload_n 0, []), (.getfield 16, [11, 1, 520]), (.getfield 96, [7, 11, 227])]),
  (37, none, 0, [(.putfield 45, [11, 11, 530]), (.iload_n 1, []), (.ifCond .ne 29, [5, 4])]),
  (44, none, 5, [(.aload_n 0, []), (.aload_n 0, []), (.getfield 16, [11, 1, 520]), (.aload_n 0, []), (.getfield 37, [11, 9, 528]), (.invokevirtual 97, [269, 1, 7, 780, 781, 782, 0]), (.putfield 37, [11, 9, 528]), (.aload_n 0, []), (.getfield 23, [11, 2, 521]), (.invokevirtual 101, [245, 1, 4, 784, 278, 279, 0]), (.aload_n 0, []), (.invokevirtual 104, [86, 1, 11, 785, 787, 2562, 0])]),
  (70, none, 0, [(.iload_n 1, []), (.ireturn, [])])])
def pm_X11_ring : sm_M := (yX11_ring, prog_1_method_40_code, 1, (some .int), 0, 0, 0, [1114, 1, 1], [
  (0, some [0], 0, [(.aload_n 0, []), (.getfield 75, [11, 7, 526]), (.aload_n 0, []), (.getfield 37, [11, 9, 528]), (.aload_n 0, []), (.getfield 23, [11, 2, 521]), (.invokevirtual 272, [265, 1, 6, 1095, 1096, 1097, 0]), (.ifCond .eq 13, [2, 1])]),
  (18, none, 0, [(.aload_n 0, []), (.getfield 75, [11, 7, 526]), (.getfield 275, [6, 7, 443]), (.goto 5, [3])]),
  (28, none, 3, [(.bipush (-2), [])]),
  (30, none, 0, [(.ireturn, [])])])
def pm_X11_ringAt : sm_M := (yX11_ringAt, prog_1_method_41_code, 2, (some .int), 1, 0, 0, [1118, 1, 1], [
  (0, some [0, 1], 0, [(.aload_n 0, []), (.getfield 75, [11, 7, 526]), (.aload_n 0, []), (.getfield 37, [11, 9, 528]), (.aload_n 0, []), (.getfield 23, [11, 2, 521]), (.invokevirtual 272, [265, 1, 6, 1095, 1096, 1097, 0]), (.ifCond .eq 30, [4, 1])]),
  (18, none, 0, [(.iload_n 1, []), (.ifCond .lt 26, [4, 2])]),
  (22, none, 0, [(.iload_n 1, []), (.aload_n 0, []), (.getfield 75, [11, 7, 526]), (.getfield 275, [6, 7, 443]), (.if_icmp .ge 15, [4, 3])]),
  (33, none, 0, [(.aload_n 0, []), (.getfield 75, [11, 7, 526]), (.getfield 278, [6, 6, 441]), (.iload_n 1, []), (.iaload, []), (.goto 4, [5])]),
  (45, none, 5, [(.iconst (-1), [])]),
  (46, none, 0, [(.ireturn, [])])])
def pm_X11_set : sm_M := (yX11_set, prog_1_method_29_code, 3, (some .boolean), 2, 0, 0, [985, 1, 1], [
  (0, some [0, 1, 2], 0, [(.aload_n 0, []), (.iload_n 1, []), (.invokevirtual 201, [63, 1, 11, 950, 952, 2818, 0]), (.ifCond .eq 15, [3, 1])]),
  (8, none, 0, [(.iload_n 2, []), (.iconst (-1), []), (.if_icmp .eq 12, [4, 2])]),
  (13, none, 0, [(.iload_n 2, []), (.invokestatic 212, [58, 0, 0, 975, 976, 0, 0]), (.ifCond .ne 5, [4, 3])]),
  (20, none, 0, [(.iconst 0, []), (.ireturn, [])]),
  (22, none, 0, [(.aload_n 0, []), (.getfield 23, [11, 2, 521]), (.getfield 215, [4, 2, 289]), (.iload_n 1, []), (.iload_n 2, []), (.iastore, []), (.iconst 1, []), (.ireturn, [])])])
def pm_X11_setWays : sm_M := (yX11_setWays, prog_1_method_54_code, 3, (some .int), 0, 0, 0, [1239, 1, 1], [
  (0, some [0], 0, [(.aload_n 0, []), (.invokevirtual 177, [56, 1, 11, 822, 824, 2566, 0]), (.ifCond .ne 6, [2, 1])]),
  (7, none, 0, [(.bipush (-3), []), (.ireturn, [])]),
  (10, none, 3, [(.iconst 0, []), (.istore_n 1, []), (.iconst 0, []), (.istore_n 2, [])]),
  (14, some [0, 1, 2], 0, [(.iload_n 2, []), (.aload_n 0, []), (.getfield 60, [11, 4, 523]), (.getfield 181, [2, 14, 379]), (.if_icmp .ge 34, [7, 4])]),
  (25, none, 0, [(.aload_n 0, []), (.getfield 60, [11, 4, 523]), (.aload_n 0, []), (.iload_n 2, []), (.invokevirtual 191, [68, 1, 11, 925, 927, 2816, 0]), (.aload_n 0, []), (.getfield 23, [11, 2, 521]), (.getfield 215, [4, 2, 289]), (.invokevirtual 350, [236, 1, 2, 1240, 1241, 1242, 0]), (.ifCond .eq 6, [6, 5])]),
  (47, none, 6, [(.iinc 1 1, [])]),
  (50, none, 0, [(.iinc 2 1, []), (.goto (-39), [3])]),
  (56, none, 0, [(.iload_n 1, []), (.ireturn, [])])])
def pm_X11_slack : sm_M := (yX11_slack, prog_1_method_55_code, 5, (some .int), 3, 0, 0, [1252, 1, 1], [
  (0, some [0, 1, 2, 3], 0, [(.aload_n 0, []), (.iload_n 2, []), (.invokevirtual 201, [63, 1, 11, 950, 952, 2818, 0]), (.ifCond .ne 5, [2, 1])]),
  (8, none, 0, [(.iconst (-1), []), (.ireturn, [])]),
  (10, none, 0, [(.aload_n 0, []), (.iload_n 1, []), (.invokevirtual 191, [68, 1, 11, 925, 927, 2816, 0]), (.istore 4, []), (.iload 4, []), (.ifCond .ge 6, [4, 3])]),
  (22, none, 0, [(.iload 4, []), (.ireturn, [])]),
  (25, none, 0, [(.aload_n 0, []), (.getfield 60, [11, 4, 523]), (.iload 4, []), (.aload_n 0, []), (.getfield 23, [11, 2, 521]), (.getfield 215, [4, 2, 289]), (.invokevirtual 350, [236, 1, 2, 1240, 1241, 1242, 0]), (.ifCond .eq 24, [6, 5])]),
  (44, none, 0, [(.aload_n 0, []), (.getfield 60, [11, 4, 523]), (.iload 4, []), (.iload_n 2, []), (.aload_n 0, []), (.getfield 23, [11, 2, 521]), (.getfield 215, [4, 2, 289]), (.iload_n 3, []), (.invokevirtual 353, [232, 1, 2, 1253, 1245, 1246, 0]), (.goto 5, [7])]),
  (65, none, 7, [(.bipush (-2), [])]),
  (67, none, 0, [(.ireturn, [])])])
def pm_X11_stale : sm_M := (yX11_stale, prog_1_method_6_code, 1, none, 0, 0, 0, [788, 1, 1], [
  (0, some [0], 0, [(.aload_n 0, []), (.iconst 0, []), (.putfield 48, [11, 12, 531]), (.aload_n 0, []), (.iconst 0, []), (.putfield 52, [11, 13, 532]), (.aload_n 0, []), (.getfield 75, [11, 7, 526]), (.iconst 0, []), (.putfield 107, [6, 8, 445]), (.aload_n 0, []), (.getfield 84, [11, 8, 527]), (.iconst 0, []), (.putfield 110, [0, 5, 489]), (.aload_n 0, []), (.getfield 75, [11, 7, 526]), (.iconst 0, []), (.putfield 111, [6, 9, 447]), (.return_, [])])])
def pm_X11_stands : sm_M := (yX11_stands, prog_1_method_39_code, 1, (some .int), 0, 0, 0, [1094, 1, 1], [
  (0, some [0], 0, [(.aload_n 0, []), (.getfield 75, [11, 7, 526]), (.aload_n 0, []), (.getfield 37, [11, 9, 528]), (.aload_n 0, []), (.getfield 23, [11, 2, 521]), (.invokevirtual 272, [265, 1, 6, 1095, 1096, 1097, 0]), (.ifCond .eq 7, [2, 1])]),
  (18, none, 0, [(.iconst 0, []), (.goto 4, [3])]),
  (22, none, 3, [(.iconst 1, [])]),
  (23, none, 0, [(.ireturn, [])])])
def pm_X11_tried : sm_M := (yX11_tried, prog_1_method_53_code, 3, (some .int), 2, 0, 0, [1230, 1, 1], [
  (0, some [0, 1, 2], 0, [(.aload_n 0, []), (.invokevirtual 177, [56, 1, 11, 822, 824, 2566, 0]), (.pop, []), (.iload_n 1, []), (.ifCond .lt 20, [2, 1])]),
  (9, none, 0, [(.iload_n 1, []), (.aload_n 0, []), (.getfield 60, [11, 4, 523]), (.getfield 344, [2, 13, 375]), (.sipush 1000, []), (.invokestatic 328, [2, 1220, 659]), (.if_icmp .lt 5, [3, 2])]),
  (26, none, 0, [(.iconst (-1), []), (.ireturn, [])]),
  (28, none, 0, [(.aload_n 0, []), (.getfield 30, [11, 3, 522]), (.iload_n 1, []), (.iload_n 2, []), (.invokevirtual 347, [218, 1, 1, 1231, 1232, 1233, 0]), (.ireturn, [])])])
def pm_X11_valueAt : sm_M := (yX11_valueAt, prog_1_method_16_code, 3, (some .int), 3, 0, 0, [691, 1, 1], [
  (0, some [0, 1, 2], 0, [(.iload_n 1, []), (.ifCond .lt 15, [3, 1])]),
  (4, none, 0, [(.iload_n 1, []), (.aload_n 0, []), (.arraylength, []), (.if_icmp .ge 9, [3, 2])]),
  (10, none, 0, [(.aload_n 0, []), (.iload_n 1, []), (.iaload, []), (.goto 4, [4])]),
  (16, none, 4, [(.iload_n 2, [])]),
  (17, none, 0, [(.ireturn, [])])])
def pm_X11_walk : sm_M := (yX11_walk, prog_1_method_17_code, 3, (some .int), 2, 0, 0, [808, 1, 1], [
  (0, some [0, 1, 2], 0, [(.aload_n 0, []), (.iload_n 1, []), (.invokevirtual 143, [60, 1, 11, 809, 811, 2565, 0]), (.ifCond .eq 23, [3, 1])]),
  (8, none, 0, [(.aload_n 0, []), (.iload_n 2, []), (.invokevirtual 143, [60, 1, 11, 809, 811, 2565, 0]), (.ifCond .eq 15, [3, 2])]),
  (16, none, 0, [(.aload_n 0, []), (.getfield 37, [11, 9, 528]), (.iload_n 1, []), (.iload_n 2, []), (.invokevirtual 146, [27, 1, 10, 813, 772, 773, 0]), (.goto 4, [4])]),
  (28, none, 4, [(.iconst (-1), [])]),
  (29, none, 0, [(.ireturn, [])])])
def pm_X11_ways : sm_M := (yX11_ways, prog_1_method_21_code, 1, (some .int), 0, 0, 0, [821, 1, 1], [
  (0, some [0], 0, [(.aload_n 0, []), (.invokevirtual 177, [56, 1, 11, 822, 824, 2566, 0]), (.ifCond .eq 13, [2, 1])]),
  (7, none, 0, [(.aload_n 0, []), (.getfield 60, [11, 4, 523]), (.getfield 181, [2, 14, 379]), (.goto 5, [3])]),
  (17, none, 3, [(.bipush (-3), [])]),
  (19, none, 0, [(.ireturn, [])])])
def pm_X11_whereAt : sm_M := (yX11_whereAt, prog_1_method_57_code, 10, (some .int), 3, 0, 0, [1261, 1, 1], [
  (0, some [0, 1, 2, 3], 1, [(.iconst (-1), []), (.istore 4, []), (.iconst (-1), []), (.istore 5, []), (.iconst (-1), []), (.istore 6, []), (.iconst (-1), []), (.istore 7, []), (.iconst 0, []), (.istore 8, [])]),
  (15, some [0, 1, 2, 3, 4, 5, 6, 7, 8], 0, [(.iload 8, []), (.aload_n 0, []), (.getfield 37, [11, 9, 528]), (.getfield 134, [10, 2, 128]), (.if_icmp .ge 104, [14, 2])]),
  (27, none, 0, [(.aload_n 0, []), (.getfield 37, [11, 9, 528]), (.getfield 361, [10, 8, 147]), (.iload 8, []), (.iaload, []), (.iload_n 2, []), (.if_icmp .eq 6, [4, 3])]),
  (41, none, 0, [(.goto 81, [13])]),
  (44, none, 0, [(.aload_n 0, []), (.getfield 60, [11, 4, 523]), (.iload_n 1, []), (.iload 8, []), (.iconst 0, []), (.invokevirtual 204, [231, 1, 2, 954, 955, 956, 0]), (.istore 9, []), (.iload 9, []), (.iload_n 3, []), (.if_icmp .ne 14, [6, 5])]),
  (63, none, 0, [(.aload_n 0, []), (.getfield 37, [11, 9, 528]), (.getfield 364, [10, 9, 151]), (.iload 8, []), (.iaload, []), (.ireturn, [])]),
  (74, none, 0, [(.iload 9, []), (.iload_n 3, []), (.if_icmp .ge 18, [9, 7])]),
  (80, none, 0, [(.iload 9, []), (.iload 6, []), (.if_icmp .le 11, [9, 8])]),
  (87, none, 9, [(.iload 8, []), (.istore 4, []), (.iload 9, []), (.istore 6, [])]),
  (95, some [0, 1, 2, 3, 4, 5, 6, 7, 8, 9], 0, [(.iload 9, []), (.iload_n 3, []), (.if_icmp .le 24, [13, 10])]),
  (101, none, 0, [(.iload 5, []), (.iconst (-1), []), (.if_icmp .eq 10, [12, 11])]),
  (107, none, 0, [(.iload 9, []), (.iload 7, []), (.if_icmp .ge 11, [13, 12])]),
  (114, none, 13, [(.iload 8, []), (.istore 5, []), (.iload 9, []), (.istore 7, [])]),
  (122, some [0, 1, 2, 3, 4, 5, 6, 7, 8], 0, [(.iinc 8 1, []), (.goto (-110), [1])]),
  (128, none, 0, [(.iload 4, []), (.iconst (-1), []), (.if_icmp .ne 6, [16, 15])]),
  (134, none, 0, [(.bipush (-2), []), (.ireturn, [])]),
  (137, none, 0, [(.iload 5, []), (.iconst (-1), []), (.if_icmp .ne 14, [18, 17])]),
  (143, none, 0, [(.aload_n 0, []), (.getfield 37, [11, 9, 528]), (.getfield 364, [10, 9, 151]), (.iload 4, []), (.iaload, []), (.ireturn, [])]),
  (154, none, 0, [(.aload_n 0, []), (.getfield 37, [11, 9, 528]), (.aload_n 0, []), (.getfield 37, [11, 9, 528]), (.getfield 364, [10, 9, 151]), (.iload 4, []), (.iaload, []), (.aload_n 0, []), (.getfield 37, [11, 9, 528]), (.getfield 364, [10, 9, 151]), (.iload 5, []), (.iaload, []), (.invokevirtual 146, [27, 1, 10, 813, 772, 773, 0]), (.istore 8, []), (.iload 8, []), (.ifCond .lt 25, [21, 19])]),
  (188, none, 0, [(.iload_n 3, []), (.iload 7, []), (.iload 8, []), (.isub, []), (.if_icmp .gt 16, [21, 20])]),
  (197, none, 0, [(.aload_n 0, []), (.getfield 37, [11, 9, 528]), (.getfield 364, [10, 9, 151]), (.iload 4, []), (.iaload, []), (.goto 5, [22])]),
  (210, none, 22, [(.bipush (-4), [])]),
  (212, none, 0, [(.ireturn, [])])])
def pm_X12_alone : sm_M := (yX12_alone, prog_14_method_118_code, 2, (some .int), 1, 0, 0, [2118, 14, 1], [
  (0, some [0, 1], 0, [(.aload_n 0, []), (.iload_n 1, []), (.invokevirtual 431, [149, 1, 12, 1795, 1797, 3342, 0]), (.ifCond .eq 29, [3, 1])]),
  (8, none, 0, [(.aload_n 0, []), (.getfield 73, [12, 32, 1359]), (.bipush 10, []), (.aload_n 0, []), (.getfield 263, [12, 18, 1345]), (.imul, []), (.iload_n 1, []), (.iadd, []), (.baload, []), (.ifCond .ne 12, [3, 2])]),
  (25, none, 0, [(.aload_n 0, []), (.getfield 107, [12, 43, 1370]), (.iload_n 1, []), (.baload, []), (.ifCond .eq 5, [4, 3])]),
  (34, none, 0, [(.iconst (-1), []), (.ireturn, [])]),
  (36, none, 0, [(.aload_n 0, []), (.iconst 1, []), (.iload_n 1, []), (.ishl, []), (.invokevirtual 547, [131, 1, 12, 2111, 2113, 4100, 0]), (.ireturn, [])])])
def pm_X12_answers : sm_M := (yX12_answers, prog_14_method_101_code, 6, (some .boolean), 2, 0, 0, [2062, 14, 1], [
  (0, some [0, 1, 2], 0, [(.sipush 248, []), (.bipush 6, []), (.aload_n 0, []), (.getfield 263, [12, 18, 1345]), (.imul, []), (.iadd, []), (.iload_n 1, []), (.iadd, []), (.istore_n 3, []), (.aload_n 0, []), (.getfield 86, [12, 36, 1363]), (.iload_n 3, []), (.iaload, []), (.iconst 1, []), (.iadd, []), (.istore 4, []), (.aload_n 0, []), (.getfield 89, [12, 37, 1364]), (.iload_n 3, []), (.iaload, []), (.iconst 1, []), (.iadd, []), (.istore 5, []), (.iload_n 2, []), (.ifCond .ne 26, [2, 1])]),
  (38, none, 0, [(.aload_n 0, []), (.iload 4, []), (.iload 5, []), (.aload_n 0, []), (.getfield 92, [12, 38, 1365]), (.iload_n 3, []), (.iaload, []), (.aload_n 0, []), (.getfield 95, [12, 39, 1366]), (.iload_n 3, []), (.iaload, []), (.invokevirtual 362, [104, 1, 12, 1835, 1837, 3589, 0]), (.goto 44, [5])]),
  (61, none, 0, [(.iload_n 2, []), (.iconst 1, []), (.if_icmp .ne 22, [4, 3])]),
  (66, none, 0, [(.aload_n 0, []), (.iload 5, []), (.iload 4, []), (.aload_n 0, []), (.getfield 92, [12, 38, 1365]), (.iload_n 3, []), (.iaload, []), (.iconst 1, []), (.isub, []), (.invokevirtual 352, [106, 1, 12, 1827, 1829, 3587, 0]), (.goto 20, [5])]),
  (85, none, 5, [(.aload_n 0, []), (.iload 4, []), (.iload 5, []), (.aload_n 0, []), (.getfield 95, [12, 39, 1366]), (.iload_n 3, []), (.iaload, []), (.ineg, []), (.iconst 1, []), (.isub, []), (.invokevirtual 352, [106, 1, 12, 1827, 1829, 3587, 0])]),
  (102, none, 0, [(.ireturn, [])])])
def pm_X12_appends : sm_M := (yX12_appends, prog_14_method_9_code, 3, (some .long), 2, 0, 0, [1327, 14, 1], [
  (0, some [0, 2], 0, [(.iload_n 2, []), (.ifCond .ne 7, [2, 1])]),
  (4, none, 0, [(.lload_n 0, []), (.goto 16, [3])]),
  (8, none, 3, [(.ldc2_w 209, [27, 1328]), (.lload_n 0, []), (.lmul, []), (.iload_n 2, []), (.bipush 97, []), (.isub, []), (.iconst 1, []), (.iadd, []), (.i2l, []), (.ladd, [])]),
  (21, none, 0, [(.lreturn, [])])])
def pm_X12_ask : sm_M := (yX12_ask, prog_14_method_104_code, 3, (some .int), 2, 0, 0, [2050, 14, 1], [
  (0, some [0, 1, 2], 0, [(.iload_n 1, []), (.iconst 0, []), (.aload_n 0, []), (.getfield 104, [12, 42, 1369]), (.aload_n 0, []), (.getfield 263, [12, 18, 1345]), (.iaload, []), (.iconst 1, []), (.isub, []), (.invokestatic 373, [141, 0, 0, 1768, 1769, 0, 0]), (.ifCond .ne 5, [2, 1])]),
  (19, none, 0, [(.iconst (-1), []), (.ireturn, [])]),
  (21, none, 0, [(.aload_n 0, []), (.invokevirtual 434, [135, 1, 12, 1811, 1813, 3343, 0]), (.aload_n 0, []), (.getfield 425, [12, 71, 1398]), (.ifCond .eq 8, [4, 3])]),
  (32, none, 0, [(.bipush (-3), []), (.goto 29, [11])]),
  (37, none, 0, [(.aload_n 0, []), (.iload_n 2, []), (.ifCond .eq 9, [6, 5])]),
  (42, none, 0, [(.iconst 1, []), (.iload_n 1, []), (.ishl, []), (.goto 4, [7])]),
  (48, none, 7, [(.iconst 0, [])]),
  (49, none, 0, [(.iload_n 2, []), (.ifCond .eq 7, [9, 8])]),
  (53, none, 0, [(.iconst 0, []), (.goto 6, [10])]),
  (57, none, 10, [(.iconst 1, []), (.iload_n 1, []), (.ishl, [])]),
  (60, none, 11, [(.invokevirtual 531, [159, 1, 12, 2051, 2053, 3854, 0])]),
  (63, none, 0, [(.ireturn, [])])])
def pm_X12_asks : sm_M := (yX12_asks, prog_14_method_63_code, 2, (some .int), 1, 0, 0, [1874, 14, 1], [
  (0, some [0, 1], 0, [(.iload_n 1, []), (.ifCond .ge 5, [2, 1])]),
  (4, none, 0, [(.iconst (-1), []), (.ireturn, [])]),
  (6, none, 0, [(.aload_n 0, []), (.invokevirtual 434, [135, 1, 12, 1811, 1813, 3343, 0]), (.aload_n 0, []), (.getfield 425, [12, 71, 1398]), (.ifCond .eq 8, [4, 3])]),
  (17, none, 0, [(.bipush (-3), []), (.goto 16, [7])]),
  (22, none, 0, [(.iload_n 1, []), (.aload_n 0, []), (.getfield 416, [12, 73, 1400]), (.if_icmp .ge 7, [6, 5])]),
  (30, none, 0, [(.iconst 0, []), (.goto 4, [7])]),
  (34, none, 7, [(.iconst (-1), [])]),
  (35, none, 0, [(.ireturn, [])])])
def pm_X12_atMost : sm_M := (yX12_atMost, prog_14_method_40_code, 7, (some .boolean), 3, 0, 0, [1842, 14, 1], [
  (0, some [0, 1, 2, 3], 0, [(.aload_n 0, []), (.getfield 349, [12, 53, 1380]), (.ifCond .eq 8, [2, 1])]),
  (7, none, 0, [(.iload_n 1, []), (.iload_n 2, []), (.if_icmp .ne 11, [3, 2])]),
  (12, none, 0, [(.aload_n 0, []), (.iload_n 1, []), (.iload_n 2, []), (.iload_n 3, []), (.invokevirtual 352, [106, 1, 12, 1827, 1829, 3587, 0]), (.ireturn, [])]),
  (20, none, 0, [(.aload_n 0, []), (.iload_n 1, []), (.invokevirtual 356, [171, 1, 12, 1843, 1845, 3591, 0]), (.istore 4, []), (.aload_n 0, []), (.iload_n 2, []), (.invokevirtual 356, [171, 1, 12, 1843, 1845, 3591, 0]), (.istore 5, []), (.iload_n 3, []), (.iload 4, []), (.iconst (-1), []), (.if_icmp .ne 7, [5, 4])]),
  (41, none, 0, [(.iconst 0, []), (.goto 10, [6])]),
  (45, none, 6, [(.aload_n 0, []), (.getfield 92, [12, 38, 1365]), (.iload 4, []), (.iaload, [])]),
  (52, none, 0, [(.iadd, []), (.iload 5, []), (.iconst (-1), []), (.if_icmp .ne 7, [8, 7])]),
  (59, none, 0, [(.iconst 0, []), (.goto 10, [9])]),
  (63, none, 9, [(.aload_n 0, []), (.getfield 95, [12, 39, 1366]), (.iload 5, []), (.iaload, [])]),
  (70, none, 0, [(.isub, []), (.istore 6, []), (.aload_n 0, []), (.iload 4, []), (.iconst (-1), []), (.if_icmp .ne 7, [11, 10])]),
  (80, none, 0, [(.iload_n 1, []), (.goto 12, [12])]),
  (84, none, 12, [(.aload_n 0, []), (.getfield 89, [12, 37, 1364]), (.iload 4, []), (.iaload, []), (.iconst 1, []), (.iadd, [])]),
  (93, some [0, 2, 5, 6], 0, [(.iload 5, []), (.iconst (-1), []), (.if_icmp .ne 7, [14, 13])]),
  (99, none, 0, [(.iload_n 2, []), (.goto 12, [15])]),
  (103, none, 15, [(.aload_n 0, []), (.getfield 89, [12, 37, 1364]), (.iload 5, []), (.iaload, []), (.iconst 1, []), (.iadd, [])]),
  (112, some [6], 0, [(.iload 6, []), (.invokevirtual 352, [106, 1, 12, 1827, 1829, 3587, 0]), (.ireturn, [])])])
def pm_X12_back : sm_M := (yX12_back, prog_14_method_5_code, 2, (some .int), 1, 0, 0, [1646, 14, 1], [
  (0, some [0, 1], 0, [(.iload_n 1, []), (.ifCond .lt 11, [2, 1])]),
  (4, none, 0, [(.iload_n 1, []), (.aload_n 0, []), (.getfield 199, [12, 2, 1330]), (.if_icmp .le 5, [3, 2])]),
  (12, none, 0, [(.iconst (-1), []), (.ireturn, [])]),
  (14, none, 0, [(.aload_n 0, []), (.dup, []), (.getfield 199, [12, 2, 1330]), (.iload_n 1, []), (.isub, []), (.putfield 199, [12, 2, 1330]), (.aload_n 0, []), (.getfield 199, [12, 2, 1330]), (.ireturn, [])])])
def pm_X12_bears : sm_M := (yX12_bears, prog_14_method_75_code, 8, (some .int), 1, 0, 0, [1922, 14, 1], [
  (0, some [0, 1], 0, [(.aload_n 0, []), (.iload_n 1, []), (.invokevirtual 431, [149, 1, 12, 1795, 1797, 3342, 0]), (.ifCond .ne 5, [2, 1])]),
  (8, none, 0, [(.iconst (-1), []), (.ireturn, [])]),
  (10, none, 3, [(.bipush 10, []), (.aload_n 0, []), (.getfield 263, [12, 18, 1345]), (.imul, []), (.iload_n 1, []), (.iadd, []), (.istore_n 2, []), (.bipush (-2), []), (.istore_n 3, []), (.iconst 0, []), (.istore 4, [])]),
  (26, some [0, 2, 3, 4], 0, [(.iload 4, []), (.aload_n 0, []), (.getfield 80, [12, 34, 1361]), (.iload_n 2, []), (.iaload, []), (.if_icmp .ge 96, [17, 4])]),
  (37, none, 5, [(.iconst 1, []), (.istore 5, []), (.iconst 0, []), (.istore 6, [])]),
  (43, some [0, 2, 3, 4, 5, 6], 0, [(.iload 6, []), (.aload_n 0, []), (.getfield 83, [12, 35, 1362]), (.iconst 4, []), (.iload_n 2, []), (.imul, []), (.iload 4, []), (.iadd, []), (.iaload, []), (.if_icmp .ge 54, [13, 6])]),
  (59, none, 0, [(.aload_n 0, []), (.iconst 3, []), (.iconst 4, []), (.iload_n 2, []), (.imul, []), (.iload 4, []), (.iadd, []), (.imul, []), (.iload 6, []), (.iadd, []), (.invokevirtual 455, [101, 1, 12, 1923, 1925, 3842, 0]), (.istore 7, []), (.iload 7, []), (.bipush (-4), []), (.if_icmp .ne 6, [8, 7])]),
  (83, none, 0, [(.bipush (-4), []), (.ireturn, [])]),
  (86, none, 0, [(.iload 5, []), (.ifCond .eq 13, [11, 9])]),
  (91, none, 0, [(.iload 7, []), (.iconst 1, []), (.if_icmp .ne 7, [11, 10])]),
  (97, none, 0, [(.iconst 1, []), (.goto 4, [12])]),
  (101, none, 12, [(.iconst 0, [])]),
  (102, none, 0, [(.istore 5, []), (.iinc 6 1, []), (.goto (-64), [5])]),
  (110, none, 0, [(.iload 5, []), (.ifCond .eq 12, [16, 14])]),
  (115, none, 0, [(.iload_n 3, []), (.bipush (-2), []), (.if_icmp .ne 6, [16, 15])]),
  (121, none, 16, [(.iload 4, []), (.istore_n 3, [])]),
  (124, none, 0, [(.iinc 4 1, []), (.goto (-101), [3])]),
  (130, none, 0, [(.iload_n 3, []), (.ireturn, [])])])
def pm_X12_bearsSpan : sm_M := (yX12_bearsSpan, prog_14_method_74_code, 4, (some .int), 1, 0, 0, [1926, 14, 1], [
  (0, some [0, 1], 0, [(.aload_n 0, []), (.getfield 110, [12, 44, 1371]), (.aload_n 0, []), (.getfield 86, [12, 36, 1363]), (.iload_n 1, []), (.iaload, []), (.iaload, []), (.istore_n 2, []), (.aload_n 0, []), (.getfield 89, [12, 37, 1364]), (.iload_n 1, []), (.iaload, []), (.iconst (-1), []), (.if_icmp .ne 7, [2, 1])]),
  (22, none, 0, [(.iconst 0, []), (.goto 14, [3])]),
  (26, none, 3, [(.aload_n 0, []), (.getfield 110, [12, 44, 1371]), (.aload_n 0, []), (.getfield 89, [12, 37, 1364]), (.iload_n 1, []), (.iaload, []), (.iaload, [])]),
  (37, none, 0, [(.istore_n 3, []), (.iload_n 2, []), (.iconst (-1), []), (.if_icmp .eq 8, [5, 4])]),
  (43, none, 0, [(.iload_n 3, []), (.iconst (-1), []), (.if_icmp .ne 6, [6, 5])]),
  (48, none, 0, [(.bipush (-4), []), (.ireturn, [])]),
  (51, none, 0, [(.iload_n 2, []), (.iload_n 3, []), (.isub, []), (.aload_n 0, []), (.getfield 92, [12, 38, 1365]), (.iload_n 1, []), (.iaload, []), (.aload_n 0, []), (.getfield 95, [12, 39, 1366]), (.iload_n 1, []), (.iaload, []), (.invokestatic 373, [141, 0, 0, 1768, 1769, 0, 0]), (.ifCond .eq 7, [8, 7])]),
  (72, none, 0, [(.iconst 1, []), (.goto 4, [9])]),
  (76, none, 9, [(.iconst 0, [])]),
  (77, none, 0, [(.ireturn, [])])])
def pm_X12_been : sm_M := (yX12_been, prog_14_method_98_code, 4, (some .int), 3, 0, 0, [2022, 14, 1], [
  (0, some [0, 1, 2, 3], 0, [(.aload_n 0, []), (.iload_n 1, []), (.invokevirtual 504, [148, 1, 12, 2011, 2013, 3850, 0]), (.ifCond .eq 22, [2, 1])]),
  (8, none, 0, [(.iload_n 2, []), (.iconst 0, []), (.aload_n 0, []), (.getfield 52, [12, 25, 1352]), (.aload_n 0, []), (.getfield 263, [12, 18, 1345]), (.iaload, []), (.iconst 1, []), (.isub, []), (.invokestatic 373, [141, 0, 0, 1768, 1769, 0, 0]), (.ifCond .ne 5, [3, 2])]),
  (27, none, 0, [(.iconst (-1), []), (.ireturn, [])]),
  (29, none, 0, [(.aload_n 0, []), (.iload_n 1, []), (.iload_n 2, []), (.invokevirtual 507, [170, 1, 12, 2015, 2017, 3851, 0]), (.aload_n 0, []), (.iconst 0, []), (.putfield 510, [12, 90, 1417]), (.aload_n 0, []), (.aload_n 0, []), (.getfield 61, [12, 28, 1355]), (.aload_n 0, []), (.getfield 263, [12, 18, 1345]), (.iaload, []), (.iconst 2, []), (.iadd, []), (.invokevirtual 419, [103, 1, 12, 1823, 1825, 3586, 0]), (.ifCond .eq 7, [5, 4])]),
  (58, none, 5, [(.aload_n 0, []), (.invokevirtual 513, [162, 1, 12, 2023, 2025, 3852, 0])]),
  (62, none, 0, [(.aload_n 0, []), (.getfield 391, [12, 64, 1391]), (.ifCond .eq 8, [7, 6])]),
  (69, none, 0, [(.bipush (-3), []), (.goto 30, [12])]),
  (74, none, 0, [(.aload_n 0, []), (.getfield 510, [12, 90, 1417]), (.ifCond .ne 8, [9, 8])]),
  (81, none, 0, [(.bipush (-2), []), (.goto 18, [12])]),
  (86, none, 0, [(.iload_n 3, []), (.ifCond .eq 10, [11, 10])]),
  (90, none, 0, [(.aload_n 0, []), (.getfield 516, [12, 92, 1419]), (.goto 7, [12])]),
  (97, none, 12, [(.aload_n 0, []), (.getfield 519, [12, 91, 1418])]),
  (101, none, 0, [(.ireturn, [])])])
def pm_X12_begins : sm_M := (yX12_begins, prog_14_method_43_code, 4, (some .boolean), 1, 0, 0, [1826, 14, 1], [
  (0, some [0, 1], 1, [(.aload_n 0, []), (.iload_n 1, []), (.putfield 346, [12, 51, 1378]), (.aload_n 0, []), (.iconst 0, []), (.putfield 343, [12, 52, 1379]), (.iconst 0, []), (.istore_n 2, [])]),
  (12, some [0, 2], 0, [(.iload_n 2, []), (.sipush 169, []), (.if_icmp .ge 40, [7, 2])]),
  (19, none, 0, [(.aload_n 0, []), (.getfield 125, [12, 50, 1377]), (.iload_n 2, []), (.iload_n 2, []), (.bipush 13, []), (.idiv, []), (.iload_n 2, []), (.bipush 13, []), (.irem, []), (.if_icmp .eq 10, [4, 3])]),
  (35, none, 0, [(.iload_n 2, []), (.bipush 13, []), (.irem, []), (.ifCond .ne 7, [5, 4])]),
  (42, none, 0, [(.iconst 0, []), (.goto 6, [6])]),
  (46, none, 6, [(.sipush 1440, [])]),
  (49, none, 0, [(.iastore, []), (.iinc 2 1, []), (.goto (-41), [1])]),
  (56, none, 8, [(.iconst 1, []), (.istore_n 2, []), (.sipush 240, []), (.iconst 4, []), (.aload_n 0, []), (.getfield 263, [12, 18, 1345]), (.imul, []), (.iadd, []), (.istore_n 3, [])]),
  (69, some [0, 2, 3], 0, [(.iload_n 3, []), (.sipush 240, []), (.iconst 4, []), (.aload_n 0, []), (.getfield 263, [12, 18, 1345]), (.imul, []), (.iadd, []), (.aload_n 0, []), (.getfield 98, [12, 40, 1367]), (.aload_n 0, []), (.getfield 263, [12, 18, 1345]), (.iaload, []), (.iadd, []), (.if_icmp .ge 84, [18, 9])]),
  (93, none, 0, [(.iload_n 2, []), (.ifCond .eq 80, [18, 10])]),
  (97, none, 0, [(.aload_n 0, []), (.getfield 349, [12, 53, 1380]), (.ifCond .eq 60, [16, 11])]),
  (104, none, 0, [(.aload_n 0, []), (.aload_n 0, []), (.getfield 89, [12, 37, 1364]), (.iload_n 3, []), (.iaload, []), (.iconst 1, []), (.iadd, []), (.iconst 0, []), (.aload_n 0, []), (.getfield 92, [12, 38, 1365]), (.iload_n 3, []), (.iaload, []), (.invokevirtual 352, [106, 1, 12, 1827, 1829, 3587, 0]), (.ifCond .eq 33, [14, 12])]),
  (126, none, 0, [(.aload_n 0, []), (.iconst 0, []), (.aload_n 0, []), (.getfield 89, [12, 37, 1364]), (.iload_n 3, []), (.iaload, []), (.iconst 1, []), (.iadd, []), (.sipush 1440, []), (.aload_n 0, []), (.getfield 95, [12, 39, 1366]), (.iload_n 3, []), (.iaload, []), (.isub, []), (.invokevirtual 352, [106, 1, 12, 1827, 1829, 3587, 0]), (.ifCond .eq 7, [14, 13])]),
  (152, none, 0, [(.iconst 1, []), (.goto 4, [15])]),
  (156, none, 15, [(.iconst 0, [])]),
  (157, none, 0, [(.istore_n 2, []), (.goto 10, [17])]),
  (161, none, 17, [(.aload_n 0, []), (.iload_n 3, []), (.iconst 0, []), (.invokevirtual 366, [139, 1, 12, 1831, 1833, 3588, 0]), (.istore_n 2, [])]),
  (168, none, 0, [(.iinc 3 1, []), (.goto (-102), [8])]),
  (174, none, 19, [(.iconst 0, []), (.istore_n 3, [])]),
  (176, some [0, 2, 3], 0, [(.iload_n 3, []), (.aload_n 0, []), (.getfield 275, [12, 54, 1381]), (.if_icmp .ge 46, [22, 20])]),
  (184, none, 0, [(.iload_n 2, []), (.ifCond .eq 42, [22, 21])]),
  (188, none, 0, [(.aload_n 0, []), (.aload_n 0, []), (.getfield 128, [12, 55, 1382]), (.iload_n 3, []), (.iaload, []), (.iconst 1, []), (.iadd, []), (.aload_n 0, []), (.getfield 131, [12, 56, 1383]), (.iload_n 3, []), (.iaload, []), (.iconst 1, []), (.iadd, []), (.aload_n 0, []), (.getfield 134, [12, 57, 1384]), (.iload_n 3, []), (.iaload, []), (.aload_n 0, []), (.getfield 137, [12, 58, 1385]), (.iload_n 3, []), (.iaload, []), (.invokevirtual 362, [104, 1, 12, 1835, 1837, 3589, 0]), (.istore_n 2, []), (.iinc 3 1, []), (.goto (-48), [19])]),
  (227, none, 0, [(.iload_n 2, []), (.ireturn, [])])])
def pm_X12_between : sm_M := (yX12_between, prog_14_method_41_code, 5, (some .boolean), 4, 0, 0, [1838, 14, 1], [
  (0, some [0, 1, 2, 3, 4], 0, [(.aload_n 0, []), (.iload_n 2, []), (.iload_n 1, []), (.iload 4, []), (.invokevirtual 359, [98, 1, 12, 1839, 1841, 3590, 0]), (.ifCond .eq 18, [3, 1])]),
  (11, none, 0, [(.aload_n 0, []), (.iload_n 1, []), (.iload_n 2, []), (.iload_n 3, []), (.ineg, []), (.invokevirtual 359, [98, 1, 12, 1839, 1841, 3590, 0]), (.ifCond .eq 7, [3, 2])]),
  (22, none, 0, [(.iconst 1, []), (.goto 4, [4])]),
  (26, none, 4, [(.iconst 0, [])]),
  (27, none, 0, [(.ireturn, [])])])
def pm_X12_bits : sm_M := (yX12_bits, prog_14_method_77_code, 3, (some .int), 1, 0, 0, [1949, 14, 1], [
  (0, some [0], 1, [(.iconst 0, []), (.istore_n 1, []), (.iconst 0, []), (.istore_n 2, [])]),
  (4, some [0, 1, 2], 0, [(.iload_n 2, []), (.bipush 10, []), (.if_icmp .ge 17, [3, 2])]),
  (10, none, 0, [(.iload_n 1, []), (.iload_n 0, []), (.iload_n 2, []), (.ishr, []), (.iconst 1, []), (.iand, []), (.iadd, []), (.istore_n 1, []), (.iinc 2 1, []), (.goto (-17), [1])]),
  (24, none, 0, [(.iload_n 1, []), (.ireturn, [])])])
def pm_X12_bound : sm_M := (yX12_bound, prog_14_method_38_code, 8, (some .boolean), 3, 0, 0, [1830, 14, 1], [
  (0, some [0, 1, 2, 3], 0, [(.sipush 169, []), (.aload_n 0, []), (.getfield 343, [12, 52, 1379]), (.imul, []), (.istore 4, []), (.aload_n 0, []), (.getfield 125, [12, 50, 1377]), (.iload 4, []), (.bipush 13, []), (.iload_n 2, []), (.imul, []), (.iadd, []), (.iload_n 1, []), (.iadd, []), (.iaload, []), (.iload_n 3, []), (.iadd, []), (.ifCond .ge 5, [2, 1])]),
  (29, none, 0, [(.iconst 0, []), (.ireturn, [])]),
  (31, none, 0, [(.iload_n 3, []), (.aload_n 0, []), (.getfield 125, [12, 50, 1377]), (.iload 4, []), (.bipush 13, []), (.iload_n 1, []), (.imul, []), (.iadd, []), (.iload_n 2, []), (.iadd, []), (.iaload, []), (.if_icmp .lt 5, [4, 3])]),
  (49, none, 0, [(.iconst 1, []), (.ireturn, [])]),
  (51, none, 5, [(.iconst 0, []), (.istore 5, [])]),
  (54, some [0, 1, 2, 3, 4, 5], 0, [(.iload 5, []), (.aload_n 0, []), (.getfield 346, [12, 51, 1378]), (.if_icmp .ge 101, [12, 6])]),
  (63, none, 7, [(.iconst 0, []), (.istore 6, [])]),
  (66, some [0, 1, 2, 3, 4, 5, 6], 0, [(.iload 6, []), (.aload_n 0, []), (.getfield 346, [12, 51, 1378]), (.if_icmp .ge 83, [11, 8])]),
  (75, none, 0, [(.aload_n 0, []), (.getfield 125, [12, 50, 1377]), (.iload 4, []), (.bipush 13, []), (.iload 5, []), (.imul, []), (.iadd, []), (.iload_n 1, []), (.iadd, []), (.iaload, []), (.iload_n 3, []), (.iadd, []), (.aload_n 0, []), (.getfield 125, [12, 50, 1377]), (.iload 4, []), (.bipush 13, []), (.iload_n 2, []), (.imul, []), (.iadd, []), (.iload 6, []), (.iadd, []), (.iaload, []), (.iadd, []), (.istore 7, []), (.iload 7, []), (.aload_n 0, []), (.getfield 125, [12, 50, 1377]), (.iload 4, []), (.bipush 13, []), (.iload 5, []), (.imul, []), (.iadd, []), (.iload 6, []), (.iadd, []), (.iaload, []), (.if_icmp .ge 21, [10, 9])]),
  (131, none, 10, [(.aload_n 0, []), (.getfield 125, [12, 50, 1377]), (.iload 4, []), (.bipush 13, []), (.iload 5, []), (.imul, []), (.iadd, []), (.iload 6, []), (.iadd, []), (.iload 7, []), (.iastore, [])]),
  (149, none, 0, [(.iinc 6 1, []), (.goto (-86), [7])]),
  (155, none, 0, [(.iinc 5 1, []), (.goto (-104), [5])]),
  (161, none, 0, [(.iconst 1, []), (.ireturn, [])])])
def pm_X12_breaks : sm_M := (yX12_breaks, prog_14_method_76_code, 5, (some .int), 0, 0, 0, [1930, 14, 1], [
  (0, some [0], 1, [(.iconst 0, []), (.istore_n 1, [])]),
  (2, some [0, 1], 0, [(.iload_n 1, []), (.aload_n 0, []), (.getfield 340, [12, 46, 1373]), (.if_icmp .ge 85, [12, 2])]),
  (10, none, 0, [(.aload_n 0, []), (.getfield 110, [12, 44, 1371]), (.aload_n 0, []), (.getfield 116, [12, 47, 1374]), (.iload_n 1, []), (.iaload, []), (.iaload, []), (.istore_n 2, []), (.aload_n 0, []), (.getfield 110, [12, 44, 1371]), (.aload_n 0, []), (.getfield 119, [12, 48, 1375]), (.iload_n 1, []), (.iaload, []), (.iaload, []), (.istore_n 3, []), (.iload_n 2, []), (.iconst (-1), []), (.if_icmp .eq 50, [11, 3])]),
  (39, none, 0, [(.iload_n 3, []), (.iconst (-1), []), (.if_icmp .ne 6, [5, 4])]),
  (44, none, 0, [(.goto 42, [11])]),
  (47, none, 0, [(.iload_n 2, []), (.iload_n 3, []), (.if_icmp .ge 9, [7, 6])]),
  (52, none, 0, [(.iload_n 3, []), (.iload_n 2, []), (.isub, []), (.goto 6, [8])]),
  (58, none, 8, [(.iload_n 2, []), (.iload_n 3, []), (.isub, [])]),
  (61, none, 0, [(.istore 4, []), (.aload_n 0, []), (.getfield 122, [12, 49, 1376]), (.iload_n 1, []), (.iaload, []), (.iconst (-1), []), (.if_icmp .eq 14, [10, 9])]),
  (73, none, 0, [(.iload 4, []), (.aload_n 0, []), (.getfield 122, [12, 49, 1376]), (.iload_n 1, []), (.iaload, []), (.if_icmp .ge 5, [11, 10])]),
  (84, none, 0, [(.iload_n 1, []), (.ireturn, [])]),
  (86, none, 0, [(.iinc 1 1, []), (.goto (-87), [1])]),
  (92, none, 0, [(.bipush (-2), []), (.ireturn, [])])])
def pm_X12_byteAt : sm_M := (yX12_byteAt, prog_14_method_6_code, 2, (some .int), 1, 0, 0, [1658, 14, 1], [
  (0, some [0, 1], 0, [(.iload_n 1, []), (.aload_n 0, []), (.getfield 206, [12, 4, 1332]), (.if_icmp .ge 16, [2, 1])]),
  (8, none, 0, [(.aload_n 0, []), (.getfield 17, [12, 3, 1331]), (.iload_n 1, []), (.baload, []), (.sipush 255, []), (.iand, []), (.goto 4, [3])]),
  (21, none, 3, [(.iconst 0, [])]),
  (22, none, 0, [(.ireturn, [])])])
def pm_X12_can : sm_M := (yX12_can, prog_14_method_71_code, 5, (some .int), 2, 0, 0, [1906, 14, 1], [
  (0, some [0, 1, 2], 0, [(.aload_n 0, []), (.iload_n 1, []), (.invokevirtual 370, [150, 1, 12, 1764, 1766, 3341, 0]), (.ifCond .eq 11, [2, 1])]),
  (8, none, 0, [(.aload_n 0, []), (.iload_n 2, []), (.invokevirtual 452, [147, 1, 12, 1907, 1909, 3841, 0]), (.ifCond .ne 5, [3, 2])]),
  (16, none, 0, [(.iconst (-1), []), (.ireturn, [])]),
  (18, none, 0, [(.aload_n 0, []), (.invokevirtual 434, [135, 1, 12, 1811, 1813, 3343, 0]), (.aload_n 0, []), (.getfield 425, [12, 71, 1398]), (.ifCond .eq 6, [5, 4])]),
  (29, none, 0, [(.bipush (-3), []), (.ireturn, [])]),
  (32, none, 6, [(.iconst 0, []), (.istore_n 3, []), (.iconst 0, []), (.istore 4, [])]),
  (37, some [0, 1, 2, 3, 4], 0, [(.iload 4, []), (.aload_n 0, []), (.getfield 416, [12, 73, 1400]), (.if_icmp .ge 48, [12, 7])]),
  (46, none, 0, [(.aload_n 0, []), (.iload 4, []), (.iconst 0, []), (.invokevirtual 444, [156, 1, 12, 1887, 1889, 3599, 0]), (.ifCond .eq 32, [11, 8])]),
  (56, none, 0, [(.aload_n 0, []), (.iload_n 1, []), (.iconst 1, []), (.iadd, []), (.iconst 0, []), (.iconst 0, []), (.invokevirtual 448, [129, 1, 12, 1891, 1893, 3840, 0]), (.iload_n 2, []), (.if_icmp .gt 19, [11, 9])]),
  (69, none, 0, [(.aload_n 0, []), (.iload_n 1, []), (.iconst 1, []), (.iadd, []), (.iconst 0, []), (.iconst 1, []), (.invokevirtual 448, [129, 1, 12, 1891, 1893, 3840, 0]), (.iload_n 2, []), (.if_icmp .lt 6, [11, 10])]),
  (82, none, 11, [(.iinc 3 1, [])]),
  (85, none, 0, [(.iinc 4 1, []), (.goto (-51), [6])]),
  (91, none, 0, [(.iload_n 3, []), (.ireturn, [])])])
def pm_X12_changes : sm_M := (yX12_changes, prog_14_method_20_code, 1, none, 0, 0, 0, [1755, 14, 1], [
  (0, some [0], 0, [(.aload_n 0, []), (.iconst 0, []), (.putfield 287, [12, 70, 1397]), (.aload_n 0, []), (.iconst 0, []), (.putfield 291, [12, 79, 1406]), (.return_, [])])])
def pm_X12_cheapest : sm_M := (yX12_cheapest, prog_14_method_85_code, 3, (some .int), 0, 0, 0, [1965, 14, 1], [
  (0, some [0], 0, [(.aload_n 0, []), (.invokevirtual 476, [190, 1, 12, 1935, 1937, 3843, 0]), (.aload_n 0, []), (.getfield 458, [12, 80, 1407]), (.ifCond .eq 6, [2, 1])]),
  (11, none, 0, [(.bipush (-3), []), (.ireturn, [])]),
  (14, none, 3, [(.bipush (-2), []), (.istore_n 1, []), (.iconst 0, []), (.istore_n 2, [])]),
  (19, some [0, 1, 2], 0, [(.iload_n 2, []), (.aload_n 0, []), (.getfield 464, [12, 84, 1411]), (.if_icmp .ge 40, [8, 4])]),
  (27, none, 0, [(.iload_n 1, []), (.bipush (-2), []), (.if_icmp .eq 21, [6, 5])]),
  (33, none, 0, [(.aload_n 0, []), (.aload_n 0, []), (.getfield 174, [12, 85, 1412]), (.iload_n 2, []), (.iaload, []), (.invokevirtual 479, [207, 1, 12, 1966, 1968, 3846, 0]), (.aload_n 0, []), (.iload_n 1, []), (.invokevirtual 479, [207, 1, 12, 1966, 1968, 3846, 0]), (.if_icmp .ge 10, [7, 6])]),
  (51, none, 7, [(.aload_n 0, []), (.getfield 174, [12, 85, 1412]), (.iload_n 2, []), (.iaload, []), (.istore_n 1, [])]),
  (58, none, 0, [(.iinc 2 1, []), (.goto (-42), [3])]),
  (64, none, 0, [(.iload_n 1, []), (.ireturn, [])])])
def pm_X12_choice : sm_M := (yX12_choice, prog_14_method_65_code, 4, (some .int), 2, 0, 0, [1870, 14, 1], [
  (0, some [0, 1, 2], 0, [(.aload_n 0, []), (.iload_n 2, []), (.invokevirtual 431, [149, 1, 12, 1795, 1797, 3342, 0]), (.ifCond .ne 5, [2, 1])]),
  (8, none, 0, [(.iconst (-1), []), (.ireturn, [])]),
  (10, none, 0, [(.aload_n 0, []), (.iload_n 1, []), (.invokevirtual 437, [97, 1, 12, 1871, 1873, 3597, 0]), (.istore_n 3, []), (.iload_n 3, []), (.ifCond .eq 5, [4, 3])]),
  (20, none, 0, [(.iload_n 3, []), (.ireturn, [])]),
  (22, none, 0, [(.aload_n 0, []), (.getfield 107, [12, 43, 1370]), (.iload_n 2, []), (.baload, []), (.ifCond .eq 6, [6, 5])]),
  (31, none, 0, [(.bipush (-2), []), (.ireturn, [])]),
  (34, none, 0, [(.aload_n 0, []), (.aload_n 0, []), (.invokevirtual 407, [208, 1, 12, 1815, 1817, 3584, 0]), (.invokevirtual 410, [160, 1, 12, 1819, 1821, 3585, 0]), (.aload_n 0, []), (.iload_n 1, []), (.iload_n 2, []), (.invokevirtual 440, [113, 1, 12, 1875, 1877, 3598, 0]), (.ireturn, [])])])
def pm_X12_choiceOf : sm_M := (yX12_choiceOf, prog_14_method_64_code, 5, (some .int), 2, 0, 0, [1878, 14, 1], [
  (0, some [0, 1, 2], 1, [(.iconst (-1), []), (.istore_n 3, []), (.iconst 0, []), (.istore 4, [])]),
  (5, some [0, 1, 2, 3, 4], 0, [(.iload 4, []), (.aload_n 0, []), (.getfield 382, [12, 59, 1386]), (.if_icmp .ge 33, [5, 2])]),
  (14, none, 0, [(.aload_n 0, []), (.getfield 140, [12, 60, 1387]), (.iload 4, []), (.iaload, []), (.iload_n 2, []), (.if_icmp .ne 16, [4, 3])]),
  (25, none, 4, [(.aload_n 0, []), (.getfield 156, [12, 75, 1402]), (.bipush 55, []), (.iload_n 1, []), (.imul, []), (.iload 4, []), (.iadd, []), (.baload, []), (.istore_n 3, [])]),
  (38, none, 0, [(.iinc 4 1, []), (.goto (-36), [1])]),
  (44, none, 0, [(.iload_n 3, []), (.ireturn, [])])])
def pm_X12_choices : sm_M := (yX12_choices, prog_14_method_46_code, 3, (some .int), 1, 0, 0, [1854, 14, 1], [
  (0, some [0, 1], 0, [(.iload_n 1, []), (.bipush 10, []), (.if_icmp .ge 18, [2, 1])]),
  (6, none, 0, [(.aload_n 0, []), (.getfield 80, [12, 34, 1361]), (.bipush 10, []), (.aload_n 0, []), (.getfield 263, [12, 18, 1345]), (.imul, []), (.iload_n 1, []), (.iadd, []), (.iaload, []), (.ireturn, [])]),
  (21, none, 0, [(.iload_n 1, []), (.bipush 60, []), (.if_icmp .ge 15, [4, 3])]),
  (27, none, 0, [(.aload_n 0, []), (.getfield 122, [12, 49, 1376]), (.iload_n 1, []), (.bipush 10, []), (.isub, []), (.iaload, []), (.goto 12, [5])]),
  (39, none, 5, [(.aload_n 0, []), (.getfield 152, [12, 66, 1393]), (.iload_n 1, []), (.bipush 60, []), (.isub, []), (.iaload, [])]),
  (48, none, 0, [(.istore_n 2, []), (.iload_n 2, []), (.iconst (-1), []), (.if_icmp .ne 7, [7, 6])]),
  (54, none, 0, [(.iconst 0, []), (.goto 4, [8])]),
  (58, none, 8, [(.iconst 2, [])]),
  (59, none, 0, [(.ireturn, [])])])
def pm_X12_chooses : sm_M := (yX12_chooses, prog_14_method_47_code, 6, (some .boolean), 2, 0, 0, [1862, 14, 1], [
  (0, some [0, 1, 2], 0, [(.iload_n 1, []), (.bipush 10, []), (.if_icmp .ge 80, [10, 1])]),
  (6, none, 0, [(.iconst 4, []), (.bipush 10, []), (.aload_n 0, []), (.getfield 263, [12, 18, 1345]), (.imul, []), (.iload_n 1, []), (.iadd, []), (.imul, []), (.iload_n 2, []), (.iadd, []), (.istore_n 3, []), (.aload_n 0, []), (.getfield 376, [12, 68, 1395]), (.iload_n 1, []), (.ishr, []), (.iconst 1, []), (.iand, []), (.iconst 1, []), (.if_icmp .ne 10, [3, 2])]),
  (32, none, 0, [(.aload_n 0, []), (.getfield 379, [12, 69, 1396]), (.goto 4, [4])]),
  (39, none, 4, [(.iconst 0, [])]),
  (40, none, 5, [(.istore 4, []), (.iconst 3, []), (.iload_n 3, []), (.imul, []), (.istore 5, [])]),
  (47, some [0, 3, 4, 5], 0, [(.iload 5, []), (.iconst 3, []), (.iload_n 3, []), (.imul, []), (.aload_n 0, []), (.getfield 83, [12, 35, 1362]), (.iload_n 3, []), (.iaload, []), (.iadd, []), (.if_icmp .ge 22, [9, 6])]),
  (62, none, 0, [(.aload_n 0, []), (.iload 5, []), (.iload 4, []), (.invokevirtual 366, [139, 1, 12, 1831, 1833, 3588, 0]), (.ifCond .ne 5, [8, 7])]),
  (73, none, 0, [(.iconst 0, []), (.ireturn, [])]),
  (75, none, 0, [(.iinc 5 1, []), (.goto (-31), [5])]),
  (81, none, 0, [(.iconst 1, []), (.ireturn, [])]),
  (83, none, 0, [(.iload_n 1, []), (.bipush 60, []), (.if_icmp .ge 15, [12, 11])]),
  (89, none, 0, [(.aload_n 0, []), (.getfield 122, [12, 49, 1376]), (.iload_n 1, []), (.bipush 10, []), (.isub, []), (.iaload, []), (.goto 12, [13])]),
  (101, none, 13, [(.aload_n 0, []), (.getfield 152, [12, 66, 1393]), (.iload_n 1, []), (.bipush 60, []), (.isub, []), (.iaload, [])]),
  (110, none, 0, [(.istore_n 3, []), (.iload_n 1, []), (.bipush 60, []), (.if_icmp .ge 17, [15, 14])]),
  (117, none, 0, [(.aload_n 0, []), (.getfield 116, [12, 47, 1374]), (.iload_n 1, []), (.bipush 10, []), (.isub, []), (.iaload, []), (.iconst 1, []), (.iadd, []), (.goto 14, [16])]),
  (131, none, 16, [(.aload_n 0, []), (.getfield 149, [12, 65, 1392]), (.iload_n 1, []), (.bipush 60, []), (.isub, []), (.iaload, []), (.iconst 1, []), (.iadd, [])]),
  (142, none, 0, [(.istore 4, []), (.iload_n 1, []), (.bipush 60, []), (.if_icmp .ge 17, [18, 17])]),
  (150, none, 0, [(.aload_n 0, []), (.getfield 119, [12, 48, 1375]), (.iload_n 1, []), (.bipush 10, []), (.isub, []), (.iaload, []), (.iconst 1, []), (.iadd, []), (.goto 14, [19])]),
  (164, none, 19, [(.aload_n 0, []), (.getfield 61, [12, 28, 1355]), (.aload_n 0, []), (.getfield 263, [12, 18, 1345]), (.iaload, []), (.iconst 1, []), (.iadd, [])]),
  (175, some [0, 2, 3, 4], 0, [(.istore 5, []), (.iload_n 2, []), (.ifCond .ne 16, [21, 20])]),
  (181, none, 0, [(.aload_n 0, []), (.iload 5, []), (.iload 4, []), (.iload_n 3, []), (.ineg, []), (.invokevirtual 359, [98, 1, 12, 1839, 1841, 3590, 0]), (.goto 13, [22])]),
  (194, none, 22, [(.aload_n 0, []), (.iload 4, []), (.iload 5, []), (.iload_n 3, []), (.ineg, []), (.invokevirtual 359, [98, 1, 12, 1839, 1841, 3590, 0])]),
  (204, some [], 0, [(.ireturn, [])])])
def pm_X12_copies : sm_M := (yX12_copies, prog_14_method_37_code, 4, none, 2, 0, 0, [1858, 14, 1], [
  (0, some [0, 1, 2], 1, [(.iconst 0, []), (.istore_n 3, [])]),
  (2, some [0, 1, 2, 3], 0, [(.iload_n 3, []), (.sipush 169, []), (.if_icmp .ge 33, [3, 2])]),
  (9, none, 0, [(.aload_n 0, []), (.getfield 125, [12, 50, 1377]), (.sipush 169, []), (.iload_n 2, []), (.imul, []), (.iload_n 3, []), (.iadd, []), (.aload_n 0, []), (.getfield 125, [12, 50, 1377]), (.sipush 169, []), (.iload_n 1, []), (.imul, []), (.iload_n 3, []), (.iadd, []), (.iaload, []), (.iastore, []), (.iinc 3 1, []), (.goto (-34), [1])]),
  (39, none, 0, [(.return_, [])])])
def pm_X12_could : sm_M := (yX12_could, prog_14_method_97_code, 7, (some .int), 4, 0, 0, [2010, 14, 1], [
  (0, some [0, 1, 2, 3, 4], 0, [(.aload_n 0, []), (.iload_n 1, []), (.invokevirtual 504, [148, 1, 12, 2011, 2013, 3850, 0]), (.ifCond .eq 39, [4, 1])]),
  (8, none, 0, [(.iload_n 2, []), (.iconst 0, []), (.aload_n 0, []), (.getfield 52, [12, 25, 1352]), (.aload_n 0, []), (.getfield 263, [12, 18, 1345]), (.iaload, []), (.iconst 1, []), (.isub, []), (.invokestatic 373, [141, 0, 0, 1768, 1769, 0, 0]), (.ifCond .eq 20, [4, 2])]),
  (27, none, 0, [(.aload_n 0, []), (.iload_n 3, []), (.invokevirtual 452, [147, 1, 12, 1907, 1909, 3841, 0]), (.ifCond .eq 12, [4, 3])]),
  (35, none, 0, [(.aload_n 0, []), (.iload 4, []), (.invokevirtual 452, [147, 1, 12, 1907, 1909, 3841, 0]), (.ifCond .ne 5, [5, 4])]),
  (44, none, 0, [(.iconst (-1), []), (.ireturn, [])]),
  (46, none, 0, [(.iload_n 3, []), (.iload 4, []), (.if_icmp .le 5, [7, 6])]),
  (52, none, 0, [(.iconst 0, []), (.ireturn, [])]),
  (54, none, 0, [(.aload_n 0, []), (.iload_n 1, []), (.iload_n 2, []), (.invokevirtual 507, [170, 1, 12, 2015, 2017, 3851, 0]), (.aload_n 0, []), (.getfield 61, [12, 28, 1355]), (.aload_n 0, []), (.getfield 263, [12, 18, 1345]), (.iaload, []), (.iconst 1, []), (.iadd, []), (.istore 5, []), (.aload_n 0, []), (.iload 5, []), (.iconst 1, []), (.iadd, []), (.invokevirtual 419, [103, 1, 12, 1823, 1825, 3586, 0]), (.ifCond .eq 28, [11, 8])]),
  (84, none, 0, [(.aload_n 0, []), (.iload 5, []), (.iconst 0, []), (.iload_n 3, []), (.iload 4, []), (.invokevirtual 362, [104, 1, 12, 1835, 1837, 3589, 0]), (.ifCond .eq 15, [11, 9])]),
  (97, none, 0, [(.aload_n 0, []), (.iconst 0, []), (.invokevirtual 422, [186, 1, 12, 1847, 1849, 3592, 0]), (.ifCond .le 7, [11, 10])]),
  (105, none, 0, [(.iconst 1, []), (.goto 4, [12])]),
  (109, none, 12, [(.iconst 0, [])]),
  (110, some [0], 0, [(.istore 6, []), (.aload_n 0, []), (.getfield 391, [12, 64, 1391]), (.ifCond .eq 8, [14, 13])]),
  (119, none, 0, [(.bipush (-3), []), (.goto 13, [17])]),
  (124, none, 0, [(.iload 6, []), (.ifCond .eq 7, [16, 15])]),
  (129, none, 0, [(.iconst 1, []), (.goto 4, [17])]),
  (133, none, 17, [(.iconst 0, [])]),
  (134, some [], 0, [(.ireturn, [])])])
def pm_X12_count : sm_M := (yX12_count, prog_14_method_122_code, 2, (some .int), 1, 0, 0, [2134, 14, 1], [
  (0, some [0, 1], 0, [(.iload_n 1, []), (.tableswitch 116 0 7 #[47, 57, 67, 77, 87, 97, 102, 111], [9, 1, 2, 3, 4, 5, 6, 7, 8])]),
  (48, none, 0, [(.aload_n 0, []), (.getfield 49, [12, 24, 1351]), (.aload_n 0, []), (.getfield 263, [12, 18, 1345]), (.iaload, []), (.ireturn, [])]),
  (58, none, 0, [(.aload_n 0, []), (.getfield 52, [12, 25, 1352]), (.aload_n 0, []), (.getfield 263, [12, 18, 1345]), (.iaload, []), (.ireturn, [])]),
  (68, none, 0, [(.aload_n 0, []), (.getfield 61, [12, 28, 1355]), (.aload_n 0, []), (.getfield 263, [12, 18, 1345]), (.iaload, []), (.ireturn, [])]),
  (78, none, 0, [(.aload_n 0, []), (.getfield 70, [12, 31, 1358]), (.aload_n 0, []), (.getfield 263, [12, 18, 1345]), (.iaload, []), (.ireturn, [])]),
  (88, none, 0, [(.aload_n 0, []), (.getfield 104, [12, 42, 1369]), (.aload_n 0, []), (.getfield 263, [12, 18, 1345]), (.iaload, []), (.ireturn, [])]),
  (98, none, 0, [(.aload_n 0, []), (.getfield 340, [12, 46, 1373]), (.ireturn, [])]),
  (103, none, 0, [(.aload_n 0, []), (.invokevirtual 434, [135, 1, 12, 1811, 1813, 3343, 0]), (.aload_n 0, []), (.getfield 428, [12, 72, 1399]), (.ireturn, [])]),
  (112, none, 0, [(.aload_n 0, []), (.getfield 199, [12, 2, 1330]), (.ireturn, [])]),
  (117, none, 0, [(.aload_n 0, []), (.iload_n 1, []), (.bipush 10, []), (.isub, []), (.invokevirtual 431, [149, 1, 12, 1795, 1797, 3342, 0]), (.ifCond .eq 23, [11, 10])]),
  (128, none, 0, [(.aload_n 0, []), (.getfield 80, [12, 34, 1361]), (.bipush 10, []), (.aload_n 0, []), (.getfield 263, [12, 18, 1345]), (.imul, []), (.iload_n 1, []), (.iadd, []), (.bipush 10, []), (.isub, []), (.iaload, []), (.goto 4, [12])]),
  (148, none, 12, [(.iconst (-1), [])]),
  (149, none, 0, [(.ireturn, [])])])
def pb_X12_cut_0 : sm_B := (0, some [0], 1, [(.aload_n 0, []), (.iconst 0, []), (.putfield 215, [12, 10, 1338]), (.iconst 0, []), (.istore_n 1, [])])
def pb_X12_cut_1 : sm_B := (7, some [0, 1], 0, [(.aload_n 0, []), (.getfield 215, [12, 10, 1338]), (.sipush 500, []), (.if_icmp .gt 278, [37, 2])])
def pb_X12_cut_2 : sm_B := (17, none, 0, [(.aload_n 0, []), (.iload_n 1, []), (.invokevirtual 218, [108, 1, 12, 1655, 1657, 3078, 0]), (.istore_n 2, []), (.iload_n 1, []), (.aload_n 0, []), (.getfield 206, [12, 4, 1332]), (.if_icmp .lt 15, [4, 3])])
def pb_X12_cut_3 : sm_B := (31, none, 0, [(.aload_n 0, []), (.iconst 0, []), (.aload_n 0, []), (.getfield 206, [12, 4, 1332]), (.iconst 0, []), (.lconst 0, []), (.invokevirtual 222, [204, 1, 12, 1659, 1661, 3079, 0]), (.return_, [])])
def pb_X12_cut_4 : sm_B := (43, none, 0, [(.iload_n 2, []), (.bipush 9, []), (.if_icmp .eq 21, [8, 5])])
def pb_X12_cut_5 : sm_B := (49, none, 0, [(.iload_n 2, []), (.bipush 10, []), (.if_icmp .eq 15, [8, 6])])
def pb_X12_cut_6 : sm_B := (55, none, 0, [(.iload_n 2, []), (.bipush 13, []), (.if_icmp .eq 9, [8, 7])])
def pb_X12_cut_7 : sm_B := (61, none, 0, [(.iload_n 2, []), (.bipush 32, []), (.if_icmp .ne 9, [9, 8])])
def pb_X12_cut_8 : sm_B := (67, none, 0, [(.iinc 1 1, []), (.goto 219, [36])])
def pb_X12_cut_9 : sm_B := (73, none, 0, [(.iload_n 2, []), (.invokestatic 226, [146, 0, 0, 1663, 1664, 0, 0]), (.ifCond .eq 119, [25, 10])])
def pb_X12_cut_10 : sm_B := (80, none, 11, [(.iconst 0, []), (.istore_n 3, []), (.lconst 0, []), (.lstore 4, [])])
def pb_X12_cut_11 : sm_B := (85, some [0, 1, 3, 4], 0, [(.aload_n 0, []), (.iload_n 1, []), (.iload_n 3, []), (.iadd, []), (.invokevirtual 218, [108, 1, 12, 1655, 1657, 3078, 0]), (.invokestatic 226, [146, 0, 0, 1663, 1664, 0, 0]), (.ifCond .eq 29, [15, 12])])
def pb_X12_cut_12 : sm_B := (98, none, 0, [(.iload_n 3, []), (.bipush 8, []), (.if_icmp .ge 17, [14, 13])])
def pb_X12_cut_13 : sm_B := (104, none, 14, [(.lload 4, []), (.aload_n 0, []), (.iload_n 1, []), (.iload_n 3, []), (.iadd, []), (.invokevirtual 218, [108, 1, 12, 1655, 1657, 3078, 0]), (.invokestatic 211, [95, 0, 0, 1325, 1326, 0, 0]), (.lstore 4, [])])
def pb_X12_cut_14 : sm_B := (118, none, 0, [(.iinc 3 1, []), (.goto (-36), [11])])
def pb_X12_cut_15 : sm_B := (124, none, 0, [(.iload_n 3, []), (.bipush 8, []), (.if_icmp .le 7, [17, 16])])
def pb_X12_cut_16 : sm_B := (130, none, 0, [(.iconst 3, []), (.goto 4, [18])])
def pb_X12_cut_17 : sm_B := (134, none, 18, [(.iconst 1, [])])
def pb_X12_cut_18 : sm_B := (135, none, 0, [(.istore 6, []), (.iload_n 3, []), (.bipush 7, []), (.if_icmp .gt 39, [24, 19])])
def pb_X12_cut_19 : sm_B := (143, none, 20, [(.iconst 0, []), (.istore 7, [])])
def pb_X12_cut_20 : sm_B := (146, some [0, 1, 3, 4, 6, 7], 0, [(.iload 7, []), (.bipush 15, []), (.if_icmp .ge 29, [24, 21])])
def pb_X12_cut_21 : sm_B := (153, none, 0, [(.aload_n 0, []), (.getfield 34, [12, 9, 1337]), (.iload 7, []), (.laload, []), (.lload 4, []), (.lcmp, []), (.ifCond .ne 10, [23, 22])])
def pb_X12_cut_22 : sm_B := (166, none, 23, [(.bipush 20, []), (.iload 7, []), (.iadd, []), (.istore 6, [])])
def pb_X12_cut_23 : sm_B := (173, none, 0, [(.iinc 7 1, []), (.goto (-30), [20])])
def pb_X12_cut_24 : sm_B := (179, none, 0, [(.aload_n 0, []), (.iload 6, []), (.iload_n 1, []), (.iconst 0, []), (.lload 4, []), (.invokevirtual 222, [204, 1, 12, 1659, 1661, 3079, 0]), (.iload_n 1, []), (.iload_n 3, []), (.iadd, []), (.istore_n 1, []), (.goto 96, [36])])
def pb_X12_cut_25 : sm_B := (196, none, 0, [(.iload_n 2, []), (.invokestatic 230, [144, 0, 0, 1666, 1667, 0, 0]), (.ifCond .eq 75, [35, 26])])
def pb_X12_cut_26 : sm_B := (203, none, 27, [(.iconst 0, []), (.istore_n 3, []), (.iconst 0, []), (.istore 4, [])])
def pb_X12_cut_27 : sm_B := (208, some [0, 1, 3, 4], 0, [(.aload_n 0, []), (.iload_n 1, []), (.iload_n 3, []), (.iadd, []), (.invokevirtual 218, [108, 1, 12, 1655, 1657, 3078, 0]), (.invokestatic 230, [144, 0, 0, 1666, 1667, 0, 0]), (.ifCond .eq 32, [31, 28])])
def pb_X12_cut_28 : sm_B := (221, none, 0, [(.iload_n 3, []), (.iconst 4, []), (.if_icmp .ge 21, [30, 29])])
def pb_X12_cut_29 : sm_B := (226, none, 30, [(.bipush 10, []), (.iload 4, []), (.imul, []), (.aload_n 0, []), (.iload_n 1, []), (.iload_n 3, []), (.iadd, []), (.invokevirtual 218, [108, 1, 12, 1655, 1657, 3078, 0]), (.iadd, []), (.bipush 48, []), (.isub, []), (.istore 4, [])])
def pb_X12_cut_30 : sm_B := (244, none, 0, [(.iinc 3 1, []), (.goto (-39), [27])])
def pb_X12_cut_31 : sm_B := (250, none, 0, [(.aload_n 0, []), (.iload_n 3, []), (.iconst 4, []), (.if_icmp .le 7, [33, 32])])
def pb_X12_cut_32 : sm_B := (256, none, 0, [(.iconst 3, []), (.goto 4, [34])])
def pb_X12_cut_33 : sm_B := (260, none, 34, [(.iconst 2, [])])
def pb_X12_cut_34 : sm_B := (261, none, 0, [(.iload_n 1, []), (.iload 4, []), (.lconst 0, []), (.invokevirtual 222, [204, 1, 12, 1659, 1661, 3079, 0]), (.iload_n 1, []), (.iload_n 3, []), (.iadd, []), (.istore_n 1, []), (.goto 17, [36])])
def pb_X12_cut_35 : sm_B := (275, none, 36, [(.aload_n 0, []), (.iload_n 2, []), (.invokestatic 233, [191, 0, 0, 1669, 1670, 0, 0]), (.iload_n 1, []), (.iconst 0, []), (.lconst 0, []), (.invokevirtual 222, [204, 1, 12, 1659, 1661, 3079, 0]), (.iinc 1 1, [])])
def pb_X12_cut_36 : sm_B := (289, none, 0, [(.goto (-282), [1])])
def pb_X12_cut_37 : sm_B := (292, none, 0, [(.return_, [])])
def pm_X12_cut : sm_M := (yX12_cut, prog_14_method_12_code, 8, none, 0, 0, 0, [1654, 14, 1], [
  pb_X12_cut_0,
  pb_X12_cut_1,
  pb_X12_cut_2,
  pb_X12_cut_3,
  pb_X12_cut_4,
  pb_X12_cut_5,
  pb_X12_cut_6,
  pb_X12_cut_7,
  pb_X12_cut_8,
  pb_X12_cut_9,
  pb_X12_cut_10,
  pb_X12_cut_11,
  pb_X12_cut_12,
  pb_X12_cut_13,
  pb_X12_cut_14,
  pb_X12_cut_15,
  pb_X12_cut_16,
  pb_X12_cut_17,
  pb_X12_cut_18,
  pb_X12_cut_19,
  pb_X12_cut_20,
  pb_X12_cut_21,
  pb_X12_cut_22,
  pb_X12_cut_23,
  pb_X12_cut_24,
  pb_X12_cut_25,
  pb_X12_cut_26,
  pb_X12_cut_27,
  pb_X12_cut_28,
  pb_X12_cut_29,
  pb_X12_cut_30,
  pb_X12_cut_31,
  pb_X12_cut_32,
  pb_X12_cut_33,
  pb_X12_cut_34,
  pb_X12_cut_35,
  pb_X12_cut_36,
  pb_X12_cut_37])
def pm_X12_doubt : sm_M := (yX12_doubt, prog_14_method_59_code, 3, (some .boolean), 2, 0, 0, [1794, 14, 1], [
  (0, some [0, 1, 2], 0, [(.aload_n 0, []), (.iload_n 1, []), (.invokevirtual 431, [149, 1, 12, 1795, 1797, 3342, 0]), (.ifCond .eq 20, [2, 1])]),
  (8, none, 0, [(.aload_n 0, []), (.getfield 73, [12, 32, 1359]), (.bipush 10, []), (.aload_n 0, []), (.getfield 263, [12, 18, 1345]), (.imul, []), (.iload_n 1, []), (.iadd, []), (.baload, []), (.ifCond .eq 5, [3, 2])]),
  (25, none, 0, [(.iconst 0, []), (.ireturn, [])]),
  (27, none, 0, [(.aload_n 0, []), (.getfield 107, [12, 43, 1370]), (.iload_n 1, []), (.iload_n 2, []), (.bastore, []), (.iload_n 2, []), (.ifCond .eq 10, [5, 4])]),
  (38, none, 5, [(.aload_n 0, []), (.getfield 177, [12, 86, 1413]), (.iload_n 1, []), (.iconst (-1), []), (.iastore, [])]),
  (45, none, 0, [(.aload_n 0, []), (.invokevirtual 284, [110, 1, 12, 1752, 1754, 3340, 0]), (.iconst 1, []), (.ireturn, [])])])
def pb_X12_drawn_0 : sm_B := (0, some [0, 1, 2, 3], 0, [(.aload_n 0, []), (.iload_n 2, []), (.invokevirtual 504, [148, 1, 12, 2011, 2013, 3850, 0]), (.ifCond .eq 11, [2, 1])])
def pb_X12_drawn_1 : sm_B := (8, none, 0, [(.aload_n 0, []), (.iload_n 3, []), (.invokevirtual 452, [147, 1, 12, 1907, 1909, 3841, 0]), (.ifCond .ne 5, [3, 2])])
def pb_X12_drawn_2 : sm_B := (16, none, 0, [(.iconst (-1), []), (.ireturn, [])])
def pb_X12_drawn_3 : sm_B := (18, none, 0, [(.aload_n 0, []), (.iload_n 1, []), (.invokevirtual 437, [97, 1, 12, 1871, 1873, 3597, 0]), (.istore 4, []), (.iload 4, []), (.ifCond .eq 6, [5, 4])])
def pb_X12_drawn_4 : sm_B := (30, none, 0, [(.iload 4, []), (.ireturn, [])])
def pb_X12_drawn_5 : sm_B := (33, none, 0, [(.aload_n 0, []), (.iload_n 1, []), (.iconst 0, []), (.invokevirtual 444, [156, 1, 12, 1887, 1889, 3599, 0]), (.ifCond .ne 5, [7, 6])])
def pb_X12_drawn_6 : sm_B := (42, none, 0, [(.iconst (-1), []), (.ireturn, [])])
def pb_X12_drawn_7 : sm_B := (44, none, 8, [(.iconst (-1), []), (.istore 5, []), (.iconst (-1), []), (.istore 6, []), (.iconst 0, []), (.istore 7, [])])
def pb_X12_drawn_8 : sm_B := (53, some [0, 2, 3, 5, 6, 7], 0, [(.iload 7, []), (.aload_n 0, []), (.getfield 61, [12, 28, 1355]), (.aload_n 0, []), (.getfield 263, [12, 18, 1345]), (.iaload, []), (.if_icmp .ge 127, [22, 9])])
def pb_X12_drawn_9 : sm_B := (67, none, 0, [(.aload_n 0, []), (.getfield 64, [12, 29, 1356]), (.bipush 10, []), (.aload_n 0, []), (.getfield 263, [12, 18, 1345]), (.imul, []), (.iload 7, []), (.iadd, []), (.iaload, []), (.iload_n 2, []), (.if_icmp .eq 6, [11, 10])])
def pb_X12_drawn_10 : sm_B := (86, none, 0, [(.goto 99, [21])])
def pb_X12_drawn_11 : sm_B := (89, none, 0, [(.aload_n 0, []), (.iload 7, []), (.iconst 1, []), (.iadd, []), (.iconst 0, []), (.iconst 0, []), (.invokevirtual 448, [129, 1, 12, 1891, 1893, 3840, 0]), (.istore 8, []), (.iload 8, []), (.iload_n 3, []), (.if_icmp .ne 19, [13, 12])])
def pb_X12_drawn_12 : sm_B := (107, none, 0, [(.aload_n 0, []), (.getfield 67, [12, 30, 1357]), (.bipush 10, []), (.aload_n 0, []), (.getfield 263, [12, 18, 1345]), (.imul, []), (.iload 7, []), (.iadd, []), (.iaload, []), (.ireturn, [])])
def pb_X12_drawn_13 : sm_B := (123, none, 0, [(.iload 8, []), (.iload_n 3, []), (.if_icmp .ge 28, [17, 14])])
def pb_X12_drawn_14 : sm_B := (129, none, 0, [(.iload 5, []), (.iconst (-1), []), (.if_icmp .eq 18, [16, 15])])
def pb_X12_drawn_15 : sm_B := (135, none, 0, [(.iload 8, []), (.aload_n 0, []), (.iload 5, []), (.iconst 1, []), (.iadd, []), (.iconst 0, []), (.iconst 0, []), (.invokevirtual 448, [129, 1, 12, 1891, 1893, 3840, 0]), (.if_icmp .le 7, [17, 16])])
def pb_X12_drawn_16 : sm_B := (150, none, 17, [(.iload 7, []), (.istore 5, [])])
def pb_X12_drawn_17 : sm_B := (154, some [0, 2, 3, 5, 6, 7, 8], 0, [(.iload 8, []), (.iload_n 3, []), (.if_icmp .le 28, [21, 18])])
def pb_X12_drawn_18 : sm_B := (160, none, 0, [(.iload 6, []), (.iconst (-1), []), (.if_icmp .eq 18, [20, 19])])
def pb_X12_drawn_19 : sm_B := (166, none, 0, [(.iload 8, []), (.aload_n 0, []), (.iload 6, []), (.iconst 1, []), (.iadd, []), (.iconst 0, []), (.iconst 0, []), (.invokevirtual 448, [129, 1, 12, 1891, 1893, 3840, 0]), (.if_icmp .ge 7, [21, 20])])
def pb_X12_drawn_20 : sm_B := (181, none, 21, [(.iload 7, []), (.istore 6, [])])
def pb_X12_drawn_21 : sm_B := (185, some [0, 2, 3, 5, 6, 7], 0, [(.iinc 7 1, []), (.goto (-135), [8])])
def pb_X12_drawn_22 : sm_B := (191, none, 0, [(.iload 5, []), (.iconst (-1), []), (.if_icmp .ne 6, [24, 23])])
def pb_X12_drawn_23 : sm_B := (197, none, 0, [(.bipush (-2), []), (.ireturn, [])])
def pb_X12_drawn_24 : sm_B := (200, none, 0, [(.aload_n 0, []), (.getfield 67, [12, 30, 1357]), (.bipush 10, []), (.aload_n 0, []), (.getfield 263, [12, 18, 1345]), (.imul, []), (.iload 5, []), (.iadd, []), (.iaload, []), (.istore 7, []), (.iload 6, []), (.iconst (-1), []), (.if_icmp .ne 6, [26, 25])])
def pb_X12_drawn_25 : sm_B := (223, none, 0, [(.iload 7, []), (.ireturn, [])])
def pb_X12_drawn_26 : sm_B := (226, none, 0, [(.aload_n 0, []), (.getfield 113, [12, 45, 1372]), (.bipush 6, []), (.iload 7, []), (.imul, []), (.aload_n 0, []), (.getfield 67, [12, 30, 1357]), (.bipush 10, []), (.aload_n 0, []), (.getfield 263, [12, 18, 1345]), (.imul, []), (.iload 6, []), (.iadd, []), (.iaload, []), (.iadd, []), (.iaload, []), (.istore 8, []), (.iload 8, []), (.iconst (-1), []), (.if_icmp .eq 25, [29, 27])])
def pb_X12_drawn_27 : sm_B := (260, none, 0, [(.iload_n 3, []), (.aload_n 0, []), (.iload 6, []), (.iconst 1, []), (.iadd, []), (.iconst 0, []), (.iconst 0, []), (.invokevirtual 448, [129, 1, 12, 1891, 1893, 3840, 0]), (.iload 8, []), (.isub, []), (.if_icmp .gt 8, [29, 28])])
def pb_X12_drawn_28 : sm_B := (277, none, 0, [(.iload 7, []), (.goto 5, [30])])
def pb_X12_drawn_29 : sm_B := (282, none, 30, [(.bipush (-4), [])])
def pb_X12_drawn_30 : sm_B := (284, none, 0, [(.ireturn, [])])
def pm_X12_drawn : sm_M := (yX12_drawn, prog_14_method_115_code, 9, (some .int), 3, 0, 0, [2106, 14, 1], [
  pb_X12_drawn_0,
  pb_X12_drawn_1,
  pb_X12_drawn_2,
  pb_X12_drawn_3,
  pb_X12_drawn_4,
  pb_X12_drawn_5,
  pb_X12_drawn_6,
  pb_X12_drawn_7,
  pb_X12_drawn_8,
  pb_X12_drawn_9,
  pb_X12_drawn_10,
  pb_X12_drawn_11,
  pb_X12_drawn_12,
  pb_X12_drawn_13,
  pb_X12_drawn_14,
  pb_X12_drawn_15,
  pb_X12_drawn_16,
  pb_X12_drawn_17,
  pb_X12_drawn_18,
  pb_X12_drawn_19,
  pb_X12_drawn_20,
  pb_X12_drawn_21,
  pb_X12_drawn_22,
  pb_X12_drawn_23,
  pb_X12_drawn_24,
  pb_X12_drawn_25,
  pb_X12_drawn_26,
  pb_X12_drawn_27,
  pb_X12_drawn_28,
  pb_X12_drawn_29,
  pb_X12_drawn_30])
def pm_X12_ends : sm_M := (yX12_ends, prog_14_method_70_code, 6, (some .int), 2, 0, 0, [1902, 14, 1], [
  (0, some [0, 1, 2], 0, [(.aload_n 0, []), (.iload_n 1, []), (.invokevirtual 370, [150, 1, 12, 1764, 1766, 3341, 0]), (.ifCond .ne 5, [2, 1])]),
  (8, none, 0, [(.iconst (-1), []), (.ireturn, [])]),
  (10, none, 0, [(.aload_n 0, []), (.invokevirtual 434, [135, 1, 12, 1811, 1813, 3343, 0]), (.aload_n 0, []), (.getfield 425, [12, 71, 1398]), (.ifCond .eq 6, [4, 3])]),
  (21, none, 0, [(.bipush (-3), []), (.ireturn, [])]),
  (24, none, 5, [(.bipush (-2), []), (.istore_n 3, []), (.iconst 0, []), (.istore 4, [])]),
  (30, some [0, 1, 2, 3, 4], 0, [(.iload 4, []), (.aload_n 0, []), (.getfield 416, [12, 73, 1400]), (.if_icmp .ge 61, [15, 6])]),
  (39, none, 0, [(.aload_n 0, []), (.iload 4, []), (.iconst 0, []), (.invokevirtual 444, [156, 1, 12, 1887, 1889, 3599, 0]), (.ifCond .ne 6, [8, 7])]),
  (49, none, 0, [(.goto 42, [14])]),
  (52, none, 0, [(.aload_n 0, []), (.iload_n 1, []), (.iconst 1, []), (.iadd, []), (.iconst 0, []), (.iload_n 2, []), (.invokevirtual 448, [129, 1, 12, 1891, 1893, 3840, 0]), (.istore 5, []), (.iload_n 3, []), (.bipush (-2), []), (.if_icmp .eq 22, [13, 9])]),
  (69, none, 0, [(.iload_n 2, []), (.ifCond .eq 12, [12, 10])]),
  (73, none, 0, [(.iload 5, []), (.iload_n 3, []), (.if_icmp .le 15, [14, 11])]),
  (79, none, 0, [(.goto 9, [13])]),
  (82, none, 0, [(.iload 5, []), (.iload_n 3, []), (.if_icmp .ge 6, [14, 13])]),
  (88, none, 14, [(.iload 5, []), (.istore_n 3, [])]),
  (91, none, 0, [(.iinc 4 1, []), (.goto (-64), [5])]),
  (97, none, 0, [(.iload_n 3, []), (.ireturn, [])])])
def pm_X12_fail : sm_M := (yX12_fail, prog_14_method_15_code, 2, none, 1, 0, 0, [1683, 14, 1], [
  (0, some [0, 1], 0, [(.aload_n 0, []), (.getfield 236, [12, 13, 1340]), (.ifCond .le 4, [2, 1])]),
  (7, none, 0, [(.return_, [])]),
  (8, none, 0, [(.aload_n 0, []), (.iload_n 1, []), (.putfield 236, [12, 13, 1340]), (.aload_n 0, []), (.aload_n 0, []), (.getfield 24, [12, 6, 1334]), (.aload_n 0, []), (.getfield 239, [12, 11, 1339]), (.iaload, []), (.putfield 242, [12, 14, 1341]), (.return_, [])])])
def pm_X12_feed : sm_M := (yX12_feed, prog_14_method_3_code, 6, (some .int), 5, 0, 0, [1638, 14, 1], [
  (0, some [0, 1, 2, 3, 4, 5], 0, [(.aload_n 0, []), (.getfield 199, [12, 2, 1330]), (.bipush 20, []), (.iadd, []), (.sipush 2000, []), (.if_icmp .le 5, [2, 1])]),
  (13, none, 0, [(.iconst (-1), []), (.ireturn, [])]),
  (15, none, 0, [(.aload_n 0, []), (.iload_n 1, []), (.invokevirtual 202, [179, 1, 12, 1639, 1641, 3076, 0]), (.aload_n 0, []), (.iload_n 2, []), (.invokevirtual 202, [179, 1, 12, 1639, 1641, 3076, 0]), (.aload_n 0, []), (.iload_n 3, []), (.invokevirtual 202, [179, 1, 12, 1639, 1641, 3076, 0]), (.aload_n 0, []), (.iload 4, []), (.invokevirtual 202, [179, 1, 12, 1639, 1641, 3076, 0]), (.aload_n 0, []), (.iload 5, []), (.invokevirtual 202, [179, 1, 12, 1639, 1641, 3076, 0]), (.aload_n 0, []), (.getfield 199, [12, 2, 1330]), (.ireturn, [])])])
def pm_X12_fewer : sm_M := (yX12_fewer, prog_14_method_45_code, 1, (some .int), 0, 0, 0, [1774, 14, 1], [
  (0, some [0], 0, [(.aload_n 0, []), (.getfield 275, [12, 54, 1381]), (.ifCond .ne 5, [2, 1])]),
  (7, none, 0, [(.iconst (-1), []), (.ireturn, [])]),
  (9, none, 0, [(.aload_n 0, []), (.dup, []), (.getfield 275, [12, 54, 1381]), (.iconst 1, []), (.isub, []), (.putfield 275, [12, 54, 1381]), (.aload_n 0, []), (.invokevirtual 284, [110, 1, 12, 1752, 1754, 3340, 0]), (.aload_n 0, []), (.getfield 275, [12, 54, 1381]), (.ireturn, [])])])
def pm_X12_first : sm_M := (yX12_first, prog_14_method_110_code, 2, (some .int), 1, 0, 0, [2086, 14, 1], [
  (0, some [0, 1], 0, [(.aload_n 0, []), (.iload_n 1, []), (.iconst 1, []), (.invokevirtual 540, [176, 1, 12, 2075, 2077, 4097, 0]), (.ireturn, [])])])
def pm_X12_forced : sm_M := (yX12_forced, prog_14_method_72_code, 5, (some .int), 1, 0, 0, [1914, 14, 1], [
  (0, some [0, 1], 0, [(.aload_n 0, []), (.iload_n 1, []), (.invokevirtual 431, [149, 1, 12, 1795, 1797, 3342, 0]), (.ifCond .eq 12, [2, 1])]),
  (8, none, 0, [(.aload_n 0, []), (.getfield 107, [12, 43, 1370]), (.iload_n 1, []), (.baload, []), (.ifCond .eq 5, [3, 2])]),
  (17, none, 0, [(.iconst (-1), []), (.ireturn, [])]),
  (19, none, 0, [(.aload_n 0, []), (.invokevirtual 434, [135, 1, 12, 1811, 1813, 3343, 0]), (.aload_n 0, []), (.getfield 425, [12, 71, 1398]), (.ifCond .eq 6, [5, 4])]),
  (30, none, 0, [(.bipush (-3), []), (.ireturn, [])]),
  (33, none, 6, [(.aload_n 0, []), (.iconst 0, []), (.putfield 385, [12, 67, 1394]), (.aload_n 0, []), (.aload_n 0, []), (.invokevirtual 407, [208, 1, 12, 1815, 1817, 3584, 0]), (.invokevirtual 410, [160, 1, 12, 1819, 1821, 3585, 0]), (.bipush (-2), []), (.istore_n 2, []), (.iconst 0, []), (.istore_n 3, [])]),
  (51, some [0, 1, 2, 3], 0, [(.iload_n 3, []), (.aload_n 0, []), (.getfield 416, [12, 73, 1400]), (.if_icmp .ge 33, [11, 7])]),
  (59, none, 0, [(.aload_n 0, []), (.iload_n 3, []), (.iload_n 1, []), (.invokevirtual 440, [113, 1, 12, 1875, 1877, 3598, 0]), (.istore 4, []), (.iload_n 3, []), (.ifCond .le 12, [10, 8])]),
  (71, none, 0, [(.iload 4, []), (.iload_n 2, []), (.if_icmp .eq 6, [10, 9])]),
  (77, none, 0, [(.bipush (-2), []), (.ireturn, [])]),
  (80, none, 0, [(.iload 4, []), (.istore_n 2, []), (.iinc 3 1, []), (.goto (-35), [6])]),
  (89, none, 0, [(.iload_n 2, []), (.ireturn, [])])])
def pm_X12_gap : sm_M := (yX12_gap, prog_14_method_69_code, 5, (some .int), 4, 0, 0, [1898, 14, 1], [
  (0, some [0, 1, 2, 3, 4], 0, [(.aload_n 0, []), (.iload_n 2, []), (.invokevirtual 370, [150, 1, 12, 1764, 1766, 3341, 0]), (.ifCond .eq 28, [4, 1])]),
  (8, none, 0, [(.aload_n 0, []), (.iload_n 3, []), (.invokevirtual 370, [150, 1, 12, 1764, 1766, 3341, 0]), (.ifCond .eq 20, [4, 2])]),
  (16, none, 0, [(.aload_n 0, []), (.iload_n 1, []), (.invokevirtual 437, [97, 1, 12, 1871, 1873, 3597, 0]), (.ifCond .ne 12, [4, 3])]),
  (24, none, 0, [(.aload_n 0, []), (.iload_n 1, []), (.iconst 0, []), (.invokevirtual 444, [156, 1, 12, 1887, 1889, 3599, 0]), (.ifCond .ne 7, [5, 4])]),
  (33, none, 0, [(.sipush (-10000), []), (.ireturn, [])]),
  (37, none, 0, [(.aload_n 0, []), (.iload_n 2, []), (.iconst 1, []), (.iadd, []), (.iload_n 3, []), (.iconst 1, []), (.iadd, []), (.iload 4, []), (.invokevirtual 448, [129, 1, 12, 1891, 1893, 3840, 0]), (.ireturn, [])])])
def pm_X12_gapNow : sm_M := (yX12_gapNow, prog_14_method_67_code, 4, (some .int), 3, 0, 0, [1894, 14, 1], [
  (0, some [0, 1, 2, 3], 0, [(.iload_n 3, []), (.ifCond .eq 21, [2, 1])]),
  (4, none, 0, [(.aload_n 0, []), (.getfield 125, [12, 50, 1377]), (.sipush 169, []), (.bipush 13, []), (.iload_n 2, []), (.imul, []), (.iadd, []), (.iload_n 1, []), (.iadd, []), (.iaload, []), (.goto 19, [3])]),
  (22, none, 3, [(.aload_n 0, []), (.getfield 125, [12, 50, 1377]), (.sipush 169, []), (.bipush 13, []), (.iload_n 1, []), (.imul, []), (.iadd, []), (.iload_n 2, []), (.iadd, []), (.iaload, []), (.ineg, [])]),
  (38, none, 0, [(.ireturn, [])])])
def pm_X12_give : sm_M := (yX12_give, prog_14_method_117_code, 1, (some .int), 0, 0, 0, [2110, 14, 1], [
  (0, some [0], 0, [(.aload_n 0, []), (.aload_n 0, []), (.invokevirtual 407, [208, 1, 12, 1815, 1817, 3584, 0]), (.aload_n 0, []), (.invokevirtual 467, [194, 1, 12, 1939, 1941, 3844, 0]), (.iconst (-1), []), (.ixor, []), (.iand, []), (.invokevirtual 547, [131, 1, 12, 2111, 2113, 4100, 0]), (.ireturn, [])])])
def pm_X12_gives : sm_M := (yX12_gives, prog_14_method_116_code, 6, (some .int), 1, 0, 0, [2114, 14, 1], [
  (0, some [0, 1], 1, [(.aload_n 0, []), (.iload_n 1, []), (.putfield 376, [12, 68, 1395]), (.aload_n 0, []), (.iconst 0, []), (.putfield 385, [12, 67, 1394]), (.iconst 0, []), (.istore_n 2, []), (.sipush 1441, []), (.istore_n 3, [])]),
  (16, some [0, 2, 3], 0, [(.iload_n 2, []), (.iload_n 3, []), (.if_icmp .ge 55, [8, 2])]),
  (21, none, 0, [(.iload_n 2, []), (.iload_n 3, []), (.iadd, []), (.iconst 2, []), (.idiv, []), (.istore 4, []), (.aload_n 0, []), (.iload 4, []), (.putfield 379, [12, 69, 1396]), (.aload_n 0, []), (.aload_n 0, []), (.invokevirtual 407, [208, 1, 12, 1815, 1817, 3584, 0]), (.invokevirtual 470, [138, 1, 12, 1943, 1945, 3845, 0]), (.istore 5, []), (.aload_n 0, []), (.getfield 391, [12, 64, 1391]), (.ifCond .eq 6, [4, 3])]),
  (51, none, 0, [(.bipush (-3), []), (.ireturn, [])]),
  (54, none, 0, [(.iload 5, []), (.ifCond .eq 9, [6, 5])]),
  (59, none, 0, [(.iload 4, []), (.istore_n 3, []), (.goto 8, [7])]),
  (65, none, 7, [(.iload 4, []), (.iconst 1, []), (.iadd, []), (.istore_n 2, [])]),
  (70, none, 0, [(.goto (-54), [1])]),
  (73, none, 0, [(.iload_n 2, []), (.ireturn, [])])])
def pm_X12_givingUp : sm_M := (yX12_givingUp, prog_14_method_83_code, 2, (some .int), 1, 0, 0, [1961, 14, 1], [
  (0, some [0, 1], 0, [(.iload_n 1, []), (.ifCond .ge 5, [2, 1])]),
  (4, none, 0, [(.iconst (-1), []), (.ireturn, [])]),
  (6, none, 0, [(.aload_n 0, []), (.invokevirtual 476, [190, 1, 12, 1935, 1937, 3843, 0]), (.aload_n 0, []), (.getfield 458, [12, 80, 1407]), (.ifCond .eq 8, [4, 3])]),
  (17, none, 0, [(.bipush (-3), []), (.goto 21, [7])]),
  (22, none, 0, [(.iload_n 1, []), (.aload_n 0, []), (.getfield 464, [12, 84, 1411]), (.if_icmp .ge 12, [6, 5])]),
  (30, none, 0, [(.aload_n 0, []), (.getfield 174, [12, 85, 1412]), (.iload_n 1, []), (.iaload, []), (.goto 4, [7])]),
  (39, none, 7, [(.iconst (-1), [])]),
  (40, none, 0, [(.ireturn, [])])])
def pm_X12_givingUps : sm_M := (yX12_givingUps, prog_14_method_82_code, 1, (some .int), 0, 0, 0, [1957, 14, 1], [
  (0, some [0], 0, [(.aload_n 0, []), (.invokevirtual 476, [190, 1, 12, 1935, 1937, 3843, 0]), (.aload_n 0, []), (.getfield 458, [12, 80, 1407]), (.ifCond .eq 8, [2, 1])]),
  (11, none, 0, [(.bipush (-3), []), (.goto 7, [3])]),
  (16, none, 3, [(.aload_n 0, []), (.getfield 464, [12, 84, 1411])]),
  (20, none, 0, [(.ireturn, [])])])
def pm_X12_goes : sm_M := (yX12_goes, prog_14_method_66_code, 4, (some .int), 2, 0, 0, [1882, 14, 1], [
  (0, some [0, 1, 2], 0, [(.iload_n 2, []), (.iconst 0, []), (.aload_n 0, []), (.getfield 340, [12, 46, 1373]), (.iconst 1, []), (.isub, []), (.invokestatic 373, [141, 0, 0, 1768, 1769, 0, 0]), (.ifCond .ne 5, [2, 1])]),
  (14, none, 0, [(.iconst (-1), []), (.ireturn, [])]),
  (16, none, 0, [(.aload_n 0, []), (.iload_n 1, []), (.invokevirtual 437, [97, 1, 12, 1871, 1873, 3597, 0]), (.istore_n 3, []), (.iload_n 3, []), (.ifCond .eq 5, [4, 3])]),
  (26, none, 0, [(.iload_n 3, []), (.ireturn, [])]),
  (28, none, 0, [(.aload_n 0, []), (.iconst 0, []), (.putfield 385, [12, 67, 1394]), (.aload_n 0, []), (.aload_n 0, []), (.invokevirtual 407, [208, 1, 12, 1815, 1817, 3584, 0]), (.invokevirtual 410, [160, 1, 12, 1819, 1821, 3585, 0]), (.aload_n 0, []), (.iload_n 1, []), (.bipush 10, []), (.iload_n 2, []), (.iadd, []), (.invokevirtual 440, [113, 1, 12, 1875, 1877, 3598, 0]), (.ireturn, [])])])
def pm_X12_goesAll : sm_M := (yX12_goesAll, prog_14_method_52_code, 1, none, 0, 0, 0, [1814, 14, 1], [
  (0, some [0], 0, [(.aload_n 0, []), (.getfield 287, [12, 70, 1397]), (.ifCond .eq 4, [2, 1])]),
  (7, none, 0, [(.return_, [])]),
  (8, none, 0, [(.aload_n 0, []), (.iconst 0, []), (.putfield 349, [12, 53, 1380]), (.aload_n 0, []), (.iconst 0, []), (.putfield 376, [12, 68, 1395]), (.aload_n 0, []), (.iconst 0, []), (.putfield 385, [12, 67, 1394]), (.aload_n 0, []), (.aload_n 0, []), (.invokevirtual 407, [208, 1, 12, 1815, 1817, 3584, 0]), (.invokevirtual 410, [160, 1, 12, 1819, 1821, 3585, 0]), (.aload_n 0, []), (.aload_n 0, []), (.getfield 382, [12, 59, 1386]), (.putfield 413, [12, 74, 1401]), (.aload_n 0, []), (.iconst 0, []), (.putfield 416, [12, 73, 1400]), (.aload_n 0, []), (.iconst 0, []), (.putfield 388, [12, 63, 1390]), (.aload_n 0, []), (.iconst 0, []), (.putfield 391, [12, 64, 1391]), (.aload_n 0, []), (.aload_n 0, []), (.getfield 61, [12, 28, 1355]), (.aload_n 0, []), (.getfield 263, [12, 18, 1345]), (.iaload, []), (.iconst 1, []), (.iadd, []), (.invokevirtual 419, [103, 1, 12, 1823, 1825, 3586, 0]), (.ifCond .eq 12, [4, 3])]),
  (72, none, 4, [(.aload_n 0, []), (.aload_n 0, []), (.iconst 1, []), (.invokevirtual 422, [186, 1, 12, 1847, 1849, 3592, 0]), (.putfield 416, [12, 73, 1400])]),
  (81, none, 0, [(.aload_n 0, []), (.aload_n 0, []), (.getfield 391, [12, 64, 1391]), (.putfield 425, [12, 71, 1398]), (.aload_n 0, []), (.aload_n 0, []), (.getfield 388, [12, 63, 1390]), (.putfield 428, [12, 72, 1399]), (.aload_n 0, []), (.iconst 1, []), (.putfield 287, [12, 70, 1397]), (.return_, [])])])
def pm_X12_goesOn : sm_M := (yX12_goesOn, prog_14_method_17_code, 1, none, 0, 0, 0, [1691, 14, 1], [
  (0, some [0], 0, [(.aload_n 0, []), (.getfield 239, [12, 11, 1339]), (.sipush 500, []), (.if_icmp .ne 11, [2, 1])]),
  (10, none, 0, [(.aload_n 0, []), (.iconst 2, []), (.invokevirtual 251, [123, 1, 12, 1680, 1682, 3082, 0]), (.goto 13, [3])]),
  (18, none, 3, [(.aload_n 0, []), (.dup, []), (.getfield 239, [12, 11, 1339]), (.iconst 1, []), (.iadd, []), (.putfield 239, [12, 11, 1339])]),
  (28, none, 0, [(.return_, [])])])
def pm_X12_hand : sm_M := (yX12_hand, prog_14_method_121_code, 4, (some .int), 2, 0, 0, [2130, 14, 1], [
  (0, some [0, 1, 2], 0, [(.aload_n 0, []), (.iload_n 2, []), (.invokevirtual 370, [150, 1, 12, 1764, 1766, 3341, 0]), (.ifCond .ne 5, [2, 1])]),
  (8, none, 0, [(.iconst (-1), []), (.ireturn, [])]),
  (10, none, 0, [(.aload_n 0, []), (.iload_n 1, []), (.invokevirtual 437, [97, 1, 12, 1871, 1873, 3597, 0]), (.istore_n 3, []), (.iload_n 3, []), (.ifCond .eq 5, [4, 3])]),
  (20, none, 0, [(.iload_n 3, []), (.ireturn, [])]),
  (22, none, 0, [(.aload_n 0, []), (.iload_n 1, []), (.iconst 1, []), (.invokevirtual 444, [156, 1, 12, 1887, 1889, 3599, 0]), (.ifCond .ne 5, [6, 5])]),
  (31, none, 0, [(.iconst (-1), []), (.ireturn, [])]),
  (33, none, 0, [(.aload_n 0, []), (.getfield 101, [12, 41, 1368]), (.bipush 10, []), (.aload_n 0, []), (.getfield 263, [12, 18, 1345]), (.imul, []), (.iload_n 2, []), (.iadd, []), (.iaload, []), (.iconst (-1), []), (.if_icmp .eq 8, [8, 7])]),
  (51, none, 0, [(.bipush (-2), []), (.goto 12, [9])]),
  (56, none, 9, [(.aload_n 0, []), (.iload_n 2, []), (.iconst 1, []), (.iadd, []), (.iconst 0, []), (.iconst 0, []), (.invokevirtual 448, [129, 1, 12, 1891, 1893, 3840, 0])]),
  (65, none, 0, [(.ireturn, [])])])
def pm_X12_hasWay : sm_M := (yX12_hasWay, prog_14_method_53_code, 2, (some .boolean), 1, 0, 0, [1946, 14, 1], [
  (0, some [0, 1], 0, [(.aload_n 0, []), (.iconst 0, []), (.putfield 349, [12, 53, 1380]), (.aload_n 0, []), (.iload_n 1, []), (.invokevirtual 410, [160, 1, 12, 1819, 1821, 3585, 0]), (.aload_n 0, []), (.iconst 0, []), (.putfield 388, [12, 63, 1390]), (.aload_n 0, []), (.iconst 0, []), (.putfield 391, [12, 64, 1391]), (.aload_n 0, []), (.aload_n 0, []), (.getfield 61, [12, 28, 1355]), (.aload_n 0, []), (.getfield 263, [12, 18, 1345]), (.iaload, []), (.iconst 1, []), (.iadd, []), (.invokevirtual 419, [103, 1, 12, 1823, 1825, 3586, 0]), (.ifCond .eq 15, [3, 1])]),
  (38, none, 0, [(.aload_n 0, []), (.iconst 0, []), (.invokevirtual 422, [186, 1, 12, 1847, 1849, 3592, 0]), (.ifCond .le 7, [3, 2])]),
  (46, none, 0, [(.iconst 1, []), (.goto 4, [4])]),
  (50, none, 4, [(.iconst 0, [])]),
  (51, none, 0, [(.ireturn, [])])])
def pm_X12_holdsSpan : sm_M := (yX12_holdsSpan, prog_14_method_42_code, 3, (some .boolean), 2, 0, 0, [1834, 14, 1], [
  (0, some [0, 1, 2], 0, [(.aload_n 0, []), (.aload_n 0, []), (.getfield 86, [12, 36, 1363]), (.iload_n 1, []), (.iaload, []), (.iconst 1, []), (.iadd, []), (.aload_n 0, []), (.getfield 89, [12, 37, 1364]), (.iload_n 1, []), (.iaload, []), (.iconst 1, []), (.iadd, []), (.aload_n 0, []), (.getfield 92, [12, 38, 1365]), (.iload_n 1, []), (.iaload, []), (.iload_n 2, []), (.isub, []), (.aload_n 0, []), (.getfield 95, [12, 39, 1366]), (.iload_n 1, []), (.iaload, []), (.iload_n 2, []), (.iadd, []), (.invokevirtual 362, [104, 1, 12, 1835, 1837, 3589, 0]), (.ireturn, [])])])
def pm_X12_hour : sm_M := (yX12_hour, prog_14_method_68_code, 5, (some .int), 3, 0, 0, [1886, 14, 1], [
  (0, some [0, 1, 2, 3], 0, [(.aload_n 0, []), (.iload_n 2, []), (.invokevirtual 370, [150, 1, 12, 1764, 1766, 3341, 0]), (.ifCond .ne 5, [2, 1])]),
  (8, none, 0, [(.iconst (-1), []), (.ireturn, [])]),
  (10, none, 0, [(.aload_n 0, []), (.iload_n 1, []), (.invokevirtual 437, [97, 1, 12, 1871, 1873, 3597, 0]), (.istore 4, []), (.iload 4, []), (.ifCond .eq 6, [4, 3])]),
  (22, none, 0, [(.iload 4, []), (.ireturn, [])]),
  (25, none, 0, [(.aload_n 0, []), (.iload_n 1, []), (.iconst 0, []), (.invokevirtual 444, [156, 1, 12, 1887, 1889, 3599, 0]), (.ifCond .eq 15, [6, 5])]),
  (34, none, 0, [(.aload_n 0, []), (.iload_n 2, []), (.iconst 1, []), (.iadd, []), (.iconst 0, []), (.iload_n 3, []), (.invokevirtual 448, [129, 1, 12, 1891, 1893, 3840, 0]), (.goto 4, [7])]),
  (46, none, 7, [(.iconst (-1), [])]),
  (47, none, 0, [(.ireturn, [])])])
def pm_X12_in : sm_M := (yX12_in, prog_14_method_55_code, 3, (some .boolean), 3, 0, 0, [1770, 14, 1], [
  (0, some [0, 1, 2], 0, [(.iload_n 0, []), (.iload_n 1, []), (.if_icmp .lt 12, [3, 1])]),
  (5, none, 0, [(.iload_n 0, []), (.iload_n 2, []), (.if_icmp .gt 7, [3, 2])]),
  (10, none, 0, [(.iconst 1, []), (.goto 4, [4])]),
  (14, none, 4, [(.iconst 0, [])]),
  (15, none, 0, [(.ireturn, [])])])
def pb_X12_init_0 : sm_B := (0, some [0], 1, [(.aload_n 0, []), (.invokespecial 7, [1320, 24, 25]), (.aload_n 0, []), (.sipush 2000, []), (.newarray .byte, [1, 55]), (.putfield 13, [12, 1, 1329]), (.aload_n 0, []), (.sipush 2000, []), (.newarray .byte, [1, 55]), (.putfield 17, [12, 3, 1331]), (.aload_n 0, []), (.sipush 503, []), (.newarray .int, [0, 56]), (.putfield 20, [12, 5, 1333]), (.aload_n 0, []), (.sipush 503, []), (.newarray .int, [0, 56]), (.putfield 24, [12, 6, 1334]), (.aload_n 0, []), (.sipush 503, []), (.newarray .int, [0, 56]), (.putfield 27, [12, 7, 1335]), (.aload_n 0, []), (.sipush 503, []), (.newarray .long, [3, 57]), (.putfield 30, [12, 8, 1336]), (.aload_n 0, []), (.bipush 15, []), (.newarray .long, [3, 57]), (.putfield 34, [12, 9, 1337]), (.aload_n 0, []), (.iconst (-1), []), (.putfield 37, [12, 17, 1344]), (.aload_n 0, []), (.bipush 50, []), (.newarray .long, [3, 57]), (.putfield 40, [12, 21, 1348]), (.aload_n 0, []), (.bipush 50, []), (.newarray .int, [0, 56])])
def pb_X12_init_1 : sm_B := (84, none, 2, [(.putfield 43, [12, 22, 1349]), (.aload_n 0, []), (.bipush 50, []), (.newarray .int, [0, 56]), (.putfield 46, [12, 23, 1350]), (.aload_n 0, []), (.iconst 2, []), (.newarray .int, [0, 56]), (.putfield 49, [12, 24, 1351]), (.aload_n 0, []), (.iconst 2, []), (.newarray .int, [0, 56]), (.putfield 52, [12, 25, 1352]), (.aload_n 0, []), (.iconst 2, []), (.newarray .int, [0, 56]), (.putfield 55, [12, 26, 1353]), (.aload_n 0, []), (.bipush 72, []), (.newarray .int, [0, 56]), (.putfield 58, [12, 27, 1354]), (.aload_n 0, []), (.iconst 2, []), (.newarray .int, [0, 56]), (.putfield 61, [12, 28, 1355]), (.aload_n 0, []), (.bipush 20, []), (.newarray .int, [0, 56]), (.putfield 64, [12, 29, 1356]), (.aload_n 0, []), (.bipush 20, []), (.newarray .int, [0, 56]), (.putfield 67, [12, 30, 1357]), (.aload_n 0, []), (.iconst 2, []), (.newarray .int, [0, 56]), (.putfield 70, [12, 31, 1358]), (.aload_n 0, []), (.bipush 20, []), (.newarray .boolean, [2, 475])])
def pb_X12_init_2 : sm_B := (159, none, 3, [(.putfield 73, [12, 32, 1359]), (.aload_n 0, []), (.bipush 20, []), (.newarray .int, [0, 56]), (.putfield 77, [12, 33, 1360]), (.aload_n 0, []), (.bipush 20, []), (.newarray .int, [0, 56]), (.putfield 80, [12, 34, 1361]), (.aload_n 0, []), (.bipush 80, []), (.newarray .int, [0, 56]), (.putfield 83, [12, 35, 1362]), (.aload_n 0, []), (.sipush 260, []), (.newarray .int, [0, 56]), (.putfield 86, [12, 36, 1363]), (.aload_n 0, []), (.sipush 260, []), (.newarray .int, [0, 56]), (.putfield 89, [12, 37, 1364]), (.aload_n 0, []), (.sipush 260, []), (.newarray .int, [0, 56]), (.putfield 92, [12, 38, 1365]), (.aload_n 0, []), (.sipush 260, []), (.newarray .int, [0, 56]), (.putfield 95, [12, 39, 1366]), (.aload_n 0, []), (.iconst 2, []), (.newarray .int, [0, 56]), (.putfield 98, [12, 40, 1367]), (.aload_n 0, []), (.bipush 20, []), (.newarray .int, [0, 56]), (.putfield 101, [12, 41, 1368]), (.aload_n 0, []), (.iconst 2, []), (.newarray .int, [0, 56])])
def pb_X12_init_3 : sm_B := (241, none, 4, [(.putfield 104, [12, 42, 1369]), (.aload_n 0, []), (.bipush 10, []), (.newarray .boolean, [2, 475]), (.putfield 107, [12, 43, 1370]), (.aload_n 0, []), (.bipush 10, []), (.newarray .int, [0, 56]), (.putfield 110, [12, 44, 1371]), (.aload_n 0, []), (.bipush 36, []), (.newarray .int, [0, 56]), (.putfield 113, [12, 45, 1372]), (.aload_n 0, []), (.bipush 45, []), (.newarray .int, [0, 56]), (.putfield 116, [12, 47, 1374]), (.aload_n 0, []), (.bipush 45, []), (.newarray .int, [0, 56]), (.putfield 119, [12, 48, 1375]), (.aload_n 0, []), (.bipush 45, []), (.newarray .int, [0, 56]), (.putfield 122, [12, 49, 1376]), (.aload_n 0, []), (.sipush 12000, []), (.newarray .int, [0, 56]), (.putfield 125, [12, 50, 1377]), (.aload_n 0, []), (.bipush 6, []), (.newarray .int, [0, 56]), (.putfield 128, [12, 55, 1382]), (.aload_n 0, []), (.bipush 6, []), (.newarray .int, [0, 56]), (.putfield 131, [12, 56, 1383]), (.aload_n 0, []), (.bipush 6, []), (.newarray .int, [0, 56])])
def pb_X12_init_4 : sm_B := (322, none, 5, [(.putfield 134, [12, 57, 1384]), (.aload_n 0, []), (.bipush 6, []), (.newarray .int, [0, 56]), (.putfield 137, [12, 58, 1385]), (.aload_n 0, []), (.bipush 70, []), (.newarray .int, [0, 56]), (.putfield 140, [12, 60, 1387]), (.aload_n 0, []), (.bipush 70, []), (.newarray .int, [0, 56]), (.putfield 143, [12, 61, 1388]), (.aload_n 0, []), (.bipush 70, []), (.newarray .int, [0, 56]), (.putfield 146, [12, 62, 1389]), (.aload_n 0, []), (.bipush 10, []), (.newarray .int, [0, 56]), (.putfield 149, [12, 65, 1392]), (.aload_n 0, []), (.bipush 10, []), (.newarray .int, [0, 56]), (.putfield 152, [12, 66, 1393]), (.aload_n 0, []), (.ldc 155, [55100, 1321]), (.newarray .byte, [1, 55]), (.putfield 156, [12, 75, 1402]), (.aload_n 0, []), (.sipush 1000, []), (.newarray .byte, [1, 55]), (.putfield 159, [12, 76, 1403]), (.aload_n 0, []), (.sipush 1000, []), (.newarray .byte, [1, 55]), (.putfield 162, [12, 77, 1404]), (.aload_n 0, []), (.sipush 1000, []), (.newarray .boolean, [2, 475])])
def pb_X12_init_5 : sm_B := (405, none, 6, [(.putfield 165, [12, 78, 1405]), (.aload_n 0, []), (.sipush 1024, []), (.newarray .boolean, [2, 475]), (.putfield 168, [12, 81, 1408]), (.aload_n 0, []), (.sipush 1024, []), (.newarray .int, [0, 56]), (.putfield 171, [12, 83, 1410]), (.aload_n 0, []), (.sipush 1024, []), (.newarray .int, [0, 56]), (.putfield 174, [12, 85, 1412]), (.aload_n 0, []), (.bipush 60, []), (.newarray .int, [0, 56]), (.putfield 177, [12, 86, 1413]), (.aload_n 0, []), (.bipush 60, []), (.newarray .int, [0, 56]), (.putfield 180, [12, 88, 1415]), (.aload_n 0, []), (.bipush 60, []), (.newarray .boolean, [2, 475]), (.putfield 183, [12, 89, 1416]), (.aload_n 0, []), (.sipush 243, []), (.newarray .int, [0, 56]), (.putfield 186, [12, 93, 1420]), (.aload_n 0, []), (.sipush 243, []), (.newarray .int, [0, 56]), (.putfield 189, [12, 94, 1421]), (.aload_n 0, []), (.bipush 6, []), (.newarray .int, [0, 56]), (.dup, []), (.iconst 0, []), (.iconst 1, []), (.iastore, [])])
def pb_X12_init_6 : sm_B := (486, none, 7, [(.dup, []), (.iconst 1, []), (.iconst 3, []), (.iastore, []), (.dup, []), (.iconst 2, []), (.bipush 9, []), (.iastore, []), (.dup, []), (.iconst 3, []), (.bipush 27, []), (.iastore, []), (.dup, []), (.iconst 4, []), (.bipush 81, []), (.iastore, []), (.dup, []), (.iconst 5, []), (.sipush 243, []), (.iastore, []), (.putfield 192, [12, 95, 1422]), (.aload_n 0, []), (.getfield 34, [12, 9, 1337]), (.iconst 0, []), (.bipush 119, []), (.bipush 104, []), (.bipush 111, []), (.iconst 0, []), (.iconst 0, []), (.iconst 0, []), (.iconst 0, []), (.invokestatic 195, [212, 0, 0, 1322, 1323, 0, 0]), (.lastore, []), (.aload_n 0, []), (.getfield 34, [12, 9, 1337]), (.iconst 1, []), (.bipush 112, []), (.bipush 108, []), (.bipush 97, []), (.bipush 99, [])])
def pb_X12_init_7 : sm_B := (546, none, 8, [(.bipush 101, []), (.iconst 0, []), (.iconst 0, []), (.invokestatic 195, [212, 0, 0, 1322, 1323, 0, 0]), (.lastore, []), (.aload_n 0, []), (.getfield 34, [12, 9, 1337]), (.iconst 2, []), (.bipush 119, []), (.bipush 97, []), (.bipush 121, []), (.iconst 0, []), (.iconst 0, []), (.iconst 0, []), (.iconst 0, []), (.invokestatic 195, [212, 0, 0, 1322, 1323, 0, 0]), (.lastore, []), (.aload_n 0, []), (.getfield 34, [12, 9, 1337]), (.iconst 3, []), (.bipush 116, []), (.bipush 105, []), (.bipush 109, []), (.bipush 101, []), (.iconst 0, []), (.iconst 0, []), (.iconst 0, []), (.invokestatic 195, [212, 0, 0, 1322, 1323, 0, 0]), (.lastore, []), (.aload_n 0, []), (.getfield 34, [12, 9, 1337]), (.iconst 4, []), (.bipush 111, []), (.bipush 102, []), (.iconst 0, []), (.iconst 0, []), (.iconst 0, []), (.iconst 0, []), (.iconst 0, []), (.invokestatic 195, [212, 0, 0, 1322, 1323, 0, 0])])
def pb_X12_init_8 : sm_B := (610, none, 9, [(.lastore, []), (.aload_n 0, []), (.getfield 34, [12, 9, 1337]), (.iconst 5, []), (.bipush 105, []), (.bipush 110, []), (.iconst 0, []), (.iconst 0, []), (.iconst 0, []), (.iconst 0, []), (.iconst 0, []), (.invokestatic 195, [212, 0, 0, 1322, 1323, 0, 0]), (.lastore, []), (.aload_n 0, []), (.getfield 34, [12, 9, 1337]), (.bipush 6, []), (.bipush 115, []), (.bipush 97, []), (.bipush 121, []), (.iconst 0, []), (.iconst 0, []), (.iconst 0, []), (.iconst 0, []), (.invokestatic 195, [212, 0, 0, 1322, 1323, 0, 0]), (.lastore, []), (.aload_n 0, []), (.getfield 34, [12, 9, 1337]), (.bipush 7, []), (.bipush 115, []), (.bipush 117, []), (.bipush 114, []), (.bipush 101, []), (.iconst 0, []), (.iconst 0, []), (.iconst 0, []), (.invokestatic 195, [212, 0, 0, 1322, 1323, 0, 0]), (.lastore, []), (.aload_n 0, []), (.getfield 34, [12, 9, 1337]), (.bipush 8, [])])
def pb_X12_init_9 : sm_B := (676, none, 10, [(.bipush 111, []), (.bipush 114, []), (.iconst 0, []), (.iconst 0, []), (.iconst 0, []), (.iconst 0, []), (.iconst 0, []), (.invokestatic 195, [212, 0, 0, 1322, 1323, 0, 0]), (.lastore, []), (.aload_n 0, []), (.getfield 34, [12, 9, 1337]), (.bipush 9, []), (.bipush 97, []), (.bipush 110, []), (.bipush 100, []), (.iconst 0, []), (.iconst 0, []), (.iconst 0, []), (.iconst 0, []), (.invokestatic 195, [212, 0, 0, 1322, 1323, 0, 0]), (.lastore, []), (.aload_n 0, []), (.getfield 34, [12, 9, 1337]), (.bipush 10, []), (.bipush 97, []), (.bipush 116, []), (.iconst 0, []), (.iconst 0, []), (.iconst 0, []), (.iconst 0, []), (.iconst 0, []), (.invokestatic 195, [212, 0, 0, 1322, 1323, 0, 0]), (.lastore, []), (.aload_n 0, []), (.getfield 34, [12, 9, 1337]), (.bipush 11, []), (.bipush 98, []), (.bipush 101, []), (.bipush 104, []), (.bipush 105, [])])
def pb_X12_init_10 : sm_B := (742, none, 11, [(.bipush 110, []), (.bipush 100, []), (.iconst 0, []), (.invokestatic 195, [212, 0, 0, 1322, 1323, 0, 0]), (.lastore, []), (.aload_n 0, []), (.getfield 34, [12, 9, 1337]), (.bipush 12, []), (.bipush 111, []), (.bipush 112, []), (.bipush 101, []), (.bipush 110, []), (.iconst 0, []), (.iconst 0, []), (.iconst 0, []), (.invokestatic 195, [212, 0, 0, 1322, 1323, 0, 0]), (.lastore, []), (.aload_n 0, []), (.getfield 34, [12, 9, 1337]), (.bipush 13, []), (.bipush 97, []), (.bipush 115, []), (.bipush 107, []), (.iconst 0, []), (.iconst 0, []), (.iconst 0, []), (.iconst 0, []), (.invokestatic 195, [212, 0, 0, 1322, 1323, 0, 0]), (.lastore, []), (.aload_n 0, []), (.getfield 34, [12, 9, 1337]), (.bipush 14, []), (.bipush 116, []), (.bipush 114, []), (.bipush 117, []), (.bipush 115, []), (.bipush 116, []), (.iconst 0, []), (.iconst 0, []), (.invokestatic 195, [212, 0, 0, 1322, 1323, 0, 0])])
def pb_X12_init_11 : sm_B := (813, none, 12, [(.lastore, []), (.iconst 0, []), (.istore_n 1, [])])
def pb_X12_init_12 : sm_B := (816, some [0, 1], 0, [(.iload_n 1, []), (.bipush 10, []), (.if_icmp .ge 16, [14, 13])])
def pb_X12_init_13 : sm_B := (822, none, 0, [(.aload_n 0, []), (.getfield 110, [12, 44, 1371]), (.iload_n 1, []), (.iconst (-1), []), (.iastore, []), (.iinc 1 1, []), (.goto (-16), [12])])
def pb_X12_init_14 : sm_B := (835, none, 15, [(.iconst 0, []), (.istore_n 1, [])])
def pb_X12_init_15 : sm_B := (837, some [0, 1], 0, [(.iload_n 1, []), (.bipush 60, []), (.if_icmp .ge 16, [17, 16])])
def pb_X12_init_16 : sm_B := (843, none, 0, [(.aload_n 0, []), (.getfield 177, [12, 86, 1413]), (.iload_n 1, []), (.iconst (-1), []), (.iastore, []), (.iinc 1 1, []), (.goto (-16), [15])])
def pb_X12_init_17 : sm_B := (856, none, 0, [(.return_, [])])
def pm_X12_init : sm_M := (yX12_init, prog_14_method_2_code, 2, none, 0, 58, 81792, [1319, 14, 1], [
  pb_X12_init_0,
  pb_X12_init_1,
  pb_X12_init_2,
  pb_X12_init_3,
  pb_X12_init_4,
  pb_X12_init_5,
  pb_X12_init_6,
  pb_X12_init_7,
  pb_X12_init_8,
  pb_X12_init_9,
  pb_X12_init_10,
  pb_X12_init_11,
  pb_X12_init_12,
  pb_X12_init_13,
  pb_X12_init_14,
  pb_X12_init_15,
  pb_X12_init_16,
  pb_X12_init_17])
def pm_X12_is : sm_M := (yX12_is, prog_14_method_14_code, 2, (some .boolean), 1, 0, 0, [1675, 14, 1], [
  (0, some [0, 1], 0, [(.aload_n 0, []), (.getfield 236, [12, 13, 1340]), (.ifCond .ne 20, [3, 1])]),
  (7, none, 0, [(.aload_n 0, []), (.getfield 20, [12, 5, 1333]), (.aload_n 0, []), (.getfield 239, [12, 11, 1339]), (.iaload, []), (.iload_n 1, []), (.if_icmp .ne 7, [3, 2])]),
  (20, none, 0, [(.iconst 1, []), (.goto 4, [4])]),
  (24, none, 4, [(.iconst 0, [])]),
  (25, none, 0, [(.ireturn, [])])])
def pm_X12_isDigit : sm_M := (yX12_isDigit, prog_14_method_7_code, 1, (some .boolean), 1, 0, 0, [1668, 14, 1], [
  (0, some [0], 0, [(.iload_n 0, []), (.bipush 48, []), (.if_icmp .lt 13, [3, 1])]),
  (6, none, 0, [(.iload_n 0, []), (.bipush 57, []), (.if_icmp .gt 7, [3, 2])]),
  (12, none, 0, [(.iconst 1, []), (.goto 4, [4])]),
  (16, none, 4, [(.iconst 0, [])]),
  (17, none, 0, [(.ireturn, [])])])
def pm_X12_isLeft : sm_M := (yX12_isLeft, prog_14_method_102_code, 6, (some .boolean), 2, 0, 0, [2058, 14, 1], [
  (0, some [0, 1, 2], 1, [(.iconst 0, []), (.istore_n 3, [])]),
  (2, some [0, 1, 2, 3], 0, [(.iload_n 3, []), (.bipush 32, []), (.if_icmp .ge 117, [15, 2])]),
  (8, none, 0, [(.iload_n 3, []), (.iload_n 2, []), (.iconst (-1), []), (.ixor, []), (.iand, []), (.ifCond .eq 6, [4, 3])]),
  (16, none, 0, [(.goto 100, [14])]),
  (19, none, 5, [(.aload_n 0, []), (.iconst 1, []), (.iconst 2, []), (.invokevirtual 397, [116, 1, 12, 1855, 1857, 3594, 0]), (.aload_n 0, []), (.iconst 2, []), (.putfield 343, [12, 52, 1379]), (.iconst 1, []), (.istore 4, []), (.iconst 0, []), (.istore 5, [])]),
  (36, some [0, 1, 2, 3, 4, 5], 0, [(.iload 5, []), (.aload_n 0, []), (.getfield 104, [12, 42, 1369]), (.aload_n 0, []), (.getfield 263, [12, 18, 1345]), (.iaload, []), (.if_icmp .ge 62, [12, 6])]),
  (50, none, 0, [(.iload 4, []), (.ifCond .eq 57, [12, 7])]),
  (55, none, 0, [(.iload_n 1, []), (.iload 5, []), (.ishr, []), (.iconst 1, []), (.iand, []), (.iconst 1, []), (.if_icmp .ne 15, [9, 8])]),
  (65, none, 0, [(.aload_n 0, []), (.iload 5, []), (.iconst 0, []), (.invokevirtual 525, [94, 1, 12, 2059, 2061, 4096, 0]), (.istore 4, []), (.goto 29, [11])]),
  (77, none, 0, [(.iload_n 2, []), (.iload 5, []), (.ishr, []), (.iconst 1, []), (.iand, []), (.iconst 1, []), (.if_icmp .ne 19, [11, 10])]),
  (87, none, 11, [(.aload_n 0, []), (.iload 5, []), (.iconst 1, []), (.iload_n 3, []), (.iload 5, []), (.ishr, []), (.iconst 1, []), (.iand, []), (.iadd, []), (.invokevirtual 525, [94, 1, 12, 2059, 2061, 4096, 0]), (.istore 4, [])]),
  (103, none, 0, [(.iinc 5 1, []), (.goto (-70), [5])]),
  (109, none, 0, [(.iload 4, []), (.ifCond .eq 5, [14, 13])]),
  (114, none, 0, [(.iconst 1, []), (.ireturn, [])]),
  (116, none, 0, [(.iinc 3 1, []), (.goto (-117), [1])]),
  (122, none, 0, [(.iconst 0, []), (.ireturn, [])])])
def pm_X12_isLetter : sm_M := (yX12_isLetter, prog_14_method_8_code, 1, (some .boolean), 1, 0, 0, [1665, 14, 1], [
  (0, some [0], 0, [(.iload_n 0, []), (.bipush 97, []), (.if_icmp .lt 13, [3, 1])]),
  (6, none, 0, [(.iload_n 0, []), (.bipush 122, []), (.if_icmp .gt 7, [3, 2])]),
  (12, none, 0, [(.iconst 1, []), (.goto 4, [4])]),
  (16, none, 4, [(.iconst 0, [])]),
  (17, none, 0, [(.ireturn, [])])])
def pm_X12_isMinute : sm_M := (yX12_isMinute, prog_14_method_58_code, 2, (some .boolean), 1, 0, 0, [1910, 14, 1], [
  (0, some [1], 0, [(.iload_n 1, []), (.iconst 0, []), (.sipush 1440, []), (.invokestatic 373, [141, 0, 0, 1768, 1769, 0, 0]), (.ireturn, [])])])
def pm_X12_isPerson : sm_M := (yX12_isPerson, prog_14_method_95_code, 2, (some .boolean), 1, 0, 0, [2014, 14, 1], [
  (0, some [0, 1], 0, [(.iload_n 1, []), (.iconst 0, []), (.aload_n 0, []), (.getfield 49, [12, 24, 1351]), (.aload_n 0, []), (.getfield 263, [12, 18, 1345]), (.iaload, []), (.iconst 1, []), (.isub, []), (.invokestatic 373, [141, 0, 0, 1768, 1769, 0, 0]), (.ireturn, [])])])
def pm_X12_isSaying : sm_M := (yX12_isSaying, prog_14_method_57_code, 2, (some .boolean), 1, 0, 0, [1798, 14, 1], [
  (0, some [0, 1], 0, [(.iload_n 1, []), (.iconst 0, []), (.aload_n 0, []), (.getfield 70, [12, 31, 1358]), (.aload_n 0, []), (.getfield 263, [12, 18, 1345]), (.iaload, []), (.iconst 1, []), (.isub, []), (.invokestatic 373, [141, 0, 0, 1768, 1769, 0, 0]), (.ireturn, [])])])
def pm_X12_isTime : sm_M := (yX12_isTime, prog_14_method_56_code, 2, (some .boolean), 1, 0, 0, [1767, 14, 1], [
  (0, some [0, 1], 0, [(.iload_n 1, []), (.iconst 0, []), (.aload_n 0, []), (.getfield 61, [12, 28, 1355]), (.aload_n 0, []), (.getfield 263, [12, 18, 1345]), (.iaload, []), (.iconst 1, []), (.isub, []), (.invokestatic 373, [141, 0, 0, 1768, 1769, 0, 0]), (.ireturn, [])])])
def pm_X12_itemAt : sm_M := (yX12_itemAt, prog_14_method_87_code, 2, (some .int), 1, 0, 0, [1982, 14, 1], [
  (0, some [0, 1], 0, [(.aload_n 0, []), (.iload_n 1, []), (.invokevirtual 431, [149, 1, 12, 1795, 1797, 3342, 0]), (.ifCond .eq 20, [4, 1])]),
  (8, none, 0, [(.aload_n 0, []), (.getfield 107, [12, 43, 1370]), (.iload_n 1, []), (.baload, []), (.ifCond .eq 7, [3, 2])]),
  (17, none, 0, [(.iconst (-1), []), (.goto 32, [7])]),
  (21, none, 0, [(.iload_n 1, []), (.goto 28, [7])]),
  (25, none, 0, [(.iload_n 1, []), (.bipush 100, []), (.isub, []), (.iconst 0, []), (.aload_n 0, []), (.getfield 340, [12, 46, 1373]), (.iconst 1, []), (.isub, []), (.invokestatic 373, [141, 0, 0, 1768, 1769, 0, 0]), (.ifCond .eq 10, [6, 5])]),
  (42, none, 0, [(.iload_n 1, []), (.bipush 90, []), (.isub, []), (.goto 4, [7])]),
  (49, none, 7, [(.iconst (-1), [])]),
  (50, none, 0, [(.ireturn, [])])])
def pm_X12_keep : sm_M := (yX12_keep, prog_14_method_120_code, 2, (some .int), 0, 0, 0, [2126, 14, 1], [
  (0, some [0], 0, [(.aload_n 0, []), (.invokevirtual 434, [135, 1, 12, 1811, 1813, 3343, 0]), (.aload_n 0, []), (.getfield 425, [12, 71, 1398]), (.ifCond .eq 6, [2, 1])]),
  (11, none, 0, [(.bipush (-3), []), (.ireturn, [])]),
  (14, none, 3, [(.iconst 0, []), (.istore_n 1, [])]),
  (16, some [0, 1], 0, [(.iload_n 1, []), (.aload_n 0, []), (.getfield 416, [12, 73, 1400]), (.if_icmp .ge 20, [7, 4])]),
  (24, none, 0, [(.aload_n 0, []), (.iload_n 1, []), (.iconst 1, []), (.invokevirtual 444, [156, 1, 12, 1887, 1889, 3599, 0]), (.ifCond .eq 5, [6, 5])]),
  (33, none, 0, [(.iload_n 1, []), (.ireturn, [])]),
  (35, none, 0, [(.iinc 1 1, []), (.goto (-22), [3])]),
  (41, none, 0, [(.bipush (-2), []), (.ireturn, [])])])
def pm_X12_kept : sm_M := (yX12_kept, prog_14_method_119_code, 3, (some .int), 1, 0, 0, [2122, 14, 1], [
  (0, some [0, 1], 0, [(.aload_n 0, []), (.iload_n 1, []), (.invokevirtual 437, [97, 1, 12, 1871, 1873, 3597, 0]), (.istore_n 2, []), (.iload_n 2, []), (.ifCond .eq 5, [2, 1])]),
  (10, none, 0, [(.iload_n 2, []), (.ireturn, [])]),
  (12, none, 0, [(.aload_n 0, []), (.iload_n 1, []), (.iconst 1, []), (.invokevirtual 444, [156, 1, 12, 1887, 1889, 3599, 0]), (.ifCond .eq 7, [4, 3])]),
  (21, none, 0, [(.iconst 1, []), (.goto 4, [5])]),
  (25, none, 5, [(.iconst 0, [])]),
  (26, none, 0, [(.ireturn, [])])])
def pm_X12_known : sm_M := (yX12_known, prog_14_method_25_code, 5, (some .int), 1, 0, 0, [1715, 14, 1], [
  (0, some [0, 1], 0, [(.aload_n 0, []), (.getfield 239, [12, 11, 1339]), (.istore_n 2, []), (.aload_n 0, []), (.iconst 1, []), (.invokevirtual 312, [165, 1, 12, 1696, 1698, 3086, 0]), (.aload_n 0, []), (.getfield 236, [12, 13, 1340]), (.ifCond .le 5, [2, 1])]),
  (17, none, 0, [(.iconst 0, []), (.ireturn, [])]),
  (19, none, 3, [(.iconst (-1), []), (.istore_n 3, []), (.iconst 0, []), (.istore 4, [])]),
  (24, some [0, 1, 2, 3, 4], 0, [(.iload 4, []), (.aload_n 0, []), (.getfield 269, [12, 20, 1347]), (.if_icmp .ge 50, [9, 4])]),
  (33, none, 0, [(.iload_n 3, []), (.iconst (-1), []), (.if_icmp .ne 39, [8, 5])]),
  (38, none, 0, [(.aload_n 0, []), (.getfield 40, [12, 21, 1348]), (.iload 4, []), (.laload, []), (.aload_n 0, []), (.getfield 30, [12, 8, 1336]), (.iload_n 2, []), (.laload, []), (.lcmp, []), (.ifCond .ne 22, [8, 6])]),
  (55, none, 0, [(.aload_n 0, []), (.getfield 43, [12, 22, 1349]), (.iload 4, []), (.iaload, []), (.iload_n 1, []), (.if_icmp .ne 11, [8, 7])]),
  (66, none, 8, [(.aload_n 0, []), (.getfield 46, [12, 23, 1350]), (.iload 4, []), (.iaload, []), (.istore_n 3, [])]),
  (74, none, 0, [(.iinc 4 1, []), (.goto (-53), [3])]),
  (80, none, 0, [(.iload_n 3, []), (.iconst (-1), []), (.if_icmp .ne 9, [11, 10])]),
  (85, none, 11, [(.aload_n 0, []), (.iconst 4, []), (.iload_n 2, []), (.invokevirtual 315, [213, 1, 12, 1700, 1702, 3087, 0])]),
  (91, none, 0, [(.iload_n 3, []), (.ireturn, [])])])
def pm_X12_knows : sm_M := (yX12_knows, prog_14_method_24_code, 4, none, 3, 0, 0, [1707, 14, 1], [
  (0, some [0, 1, 2, 3], 0, [(.aload_n 0, []), (.getfield 40, [12, 21, 1348]), (.aload_n 0, []), (.getfield 269, [12, 20, 1347]), (.aload_n 0, []), (.getfield 30, [12, 8, 1336]), (.iload_n 1, []), (.laload, []), (.lastore, []), (.aload_n 0, []), (.getfield 43, [12, 22, 1349]), (.aload_n 0, []), (.getfield 269, [12, 20, 1347]), (.iload_n 2, []), (.iastore, []), (.aload_n 0, []), (.getfield 46, [12, 23, 1350]), (.aload_n 0, []), (.getfield 269, [12, 20, 1347]), (.iload_n 3, []), (.iastore, []), (.aload_n 0, []), (.dup, []), (.getfield 269, [12, 20, 1347]), (.iconst 1, []), (.iadd, []), (.putfield 269, [12, 20, 1347]), (.return_, [])])])
def pm_X12_lays : sm_M := (yX12_lays, prog_14_method_54_code, 4, (some .boolean), 2, 0, 0, [1890, 14, 1], [
  (0, some [0, 1, 2], 0, [(.aload_n 0, []), (.iload_n 2, []), (.putfield 349, [12, 53, 1380]), (.aload_n 0, []), (.iconst 0, []), (.putfield 376, [12, 68, 1395]), (.aload_n 0, []), (.iconst 0, []), (.putfield 385, [12, 67, 1394]), (.aload_n 0, []), (.aload_n 0, []), (.invokevirtual 407, [208, 1, 12, 1815, 1817, 3584, 0]), (.invokevirtual 410, [160, 1, 12, 1819, 1821, 3585, 0]), (.aload_n 0, []), (.aload_n 0, []), (.getfield 61, [12, 28, 1355]), (.aload_n 0, []), (.getfield 263, [12, 18, 1345]), (.iaload, []), (.iconst 1, []), (.iadd, []), (.invokevirtual 419, [103, 1, 12, 1823, 1825, 3586, 0]), (.ifCond .ne 5, [2, 1])]),
  (41, none, 0, [(.iconst 0, []), (.ireturn, [])]),
  (43, none, 3, [(.aload_n 0, []), (.iconst 0, []), (.iconst 1, []), (.invokevirtual 397, [116, 1, 12, 1855, 1857, 3594, 0]), (.aload_n 0, []), (.iconst 1, []), (.putfield 343, [12, 52, 1379]), (.iconst 0, []), (.istore_n 3, [])]),
  (56, some [0, 1, 3], 0, [(.iload_n 3, []), (.aload_n 0, []), (.getfield 382, [12, 59, 1386]), (.if_icmp .ge 35, [7, 4])]),
  (64, none, 0, [(.aload_n 0, []), (.aload_n 0, []), (.getfield 140, [12, 60, 1387]), (.iload_n 3, []), (.iaload, []), (.aload_n 0, []), (.getfield 156, [12, 75, 1402]), (.bipush 55, []), (.iload_n 1, []), (.imul, []), (.iload_n 3, []), (.iadd, []), (.baload, []), (.invokevirtual 400, [115, 1, 12, 1859, 1861, 3595, 0]), (.ifCond .ne 5, [6, 5])]),
  (88, none, 0, [(.iconst 0, []), (.ireturn, [])]),
  (90, none, 0, [(.iinc 3 1, []), (.goto (-37), [3])]),
  (96, none, 0, [(.iconst 1, []), (.ireturn, [])])])
def pm_X12_laysSet : sm_M := (yX12_laysSet, prog_14_method_112_code, 3, (some .boolean), 1, 0, 0, [2098, 14, 1], [
  (0, some [0, 1], 0, [(.aload_n 0, []), (.iload_n 1, []), (.iconst 0, []), (.invokevirtual 444, [156, 1, 12, 1887, 1889, 3599, 0]), (.ifCond .ne 5, [2, 1])]),
  (9, none, 0, [(.iconst 0, []), (.ireturn, [])]),
  (11, none, 3, [(.iconst 0, []), (.istore_n 2, [])]),
  (13, some [0, 2], 0, [(.iload_n 2, []), (.aload_n 0, []), (.getfield 61, [12, 28, 1355]), (.aload_n 0, []), (.getfield 263, [12, 18, 1345]), (.iaload, []), (.if_icmp .ge 44, [8, 4])]),
  (26, none, 0, [(.aload_n 0, []), (.getfield 110, [12, 44, 1371]), (.iload_n 2, []), (.iaload, []), (.iconst (-1), []), (.if_icmp .eq 28, [7, 5])]),
  (36, none, 0, [(.aload_n 0, []), (.iload_n 2, []), (.iconst 1, []), (.iadd, []), (.iconst 0, []), (.aload_n 0, []), (.getfield 110, [12, 44, 1371]), (.iload_n 2, []), (.iaload, []), (.aload_n 0, []), (.getfield 110, [12, 44, 1371]), (.iload_n 2, []), (.iaload, []), (.invokevirtual 362, [104, 1, 12, 1835, 1837, 3589, 0]), (.ifCond .ne 5, [7, 6])]),
  (59, none, 0, [(.iconst 0, []), (.ireturn, [])]),
  (61, none, 0, [(.iinc 2 1, []), (.goto (-51), [3])]),
  (67, none, 0, [(.iconst 1, []), (.ireturn, [])])])
def pm_X12_left : sm_M := (yX12_left, prog_14_method_106_code, 4, (some .int), 2, 0, 0, [2070, 14, 1], [
  (0, some [0, 1, 2], 0, [(.iconst 1, []), (.aload_n 0, []), (.getfield 104, [12, 42, 1369]), (.aload_n 0, []), (.getfield 263, [12, 18, 1345]), (.iaload, []), (.ishl, []), (.iconst 1, []), (.isub, []), (.istore_n 3, []), (.iload_n 1, []), (.iload_n 3, []), (.iconst (-1), []), (.ixor, []), (.iand, []), (.ifCond .ne 17, [3, 1])]),
  (22, none, 0, [(.iload_n 2, []), (.iload_n 3, []), (.iconst (-1), []), (.ixor, []), (.iand, []), (.ifCond .ne 9, [3, 2])]),
  (30, none, 0, [(.iload_n 1, []), (.iload_n 2, []), (.iand, []), (.ifCond .eq 5, [4, 3])]),
  (36, none, 0, [(.iconst (-1), []), (.ireturn, [])]),
  (38, none, 0, [(.aload_n 0, []), (.invokevirtual 434, [135, 1, 12, 1811, 1813, 3343, 0]), (.aload_n 0, []), (.getfield 425, [12, 71, 1398]), (.ifCond .eq 8, [6, 5])]),
  (49, none, 0, [(.bipush (-3), []), (.goto 9, [7])]),
  (54, none, 7, [(.aload_n 0, []), (.iload_n 1, []), (.iload_n 2, []), (.invokevirtual 531, [159, 1, 12, 2051, 2053, 3854, 0])]),
  (60, none, 0, [(.ireturn, [])])])
def pm_X12_leftOf : sm_M := (yX12_leftOf, prog_14_method_103_code, 5, (some .int), 2, 0, 0, [2054, 14, 1], [
  (0, some [0, 1, 2], 1, [(.iconst 0, []), (.istore_n 3, []), (.iconst 0, []), (.istore 4, [])]),
  (5, some [0, 1, 2, 3, 4], 0, [(.iload 4, []), (.aload_n 0, []), (.getfield 416, [12, 73, 1400]), (.if_icmp .ge 31, [6, 2])]),
  (14, none, 0, [(.aload_n 0, []), (.iload 4, []), (.iconst 0, []), (.invokevirtual 444, [156, 1, 12, 1887, 1889, 3599, 0]), (.ifCond .eq 15, [5, 3])]),
  (24, none, 0, [(.aload_n 0, []), (.iload_n 1, []), (.iload_n 2, []), (.invokevirtual 528, [145, 1, 12, 2055, 2057, 3855, 0]), (.ifCond .eq 6, [5, 4])]),
  (33, none, 5, [(.iinc 3 1, [])]),
  (36, none, 0, [(.iinc 4 1, []), (.goto (-34), [1])]),
  (42, none, 0, [(.iload_n 3, []), (.ireturn, [])])])
def pm_X12_lists : sm_M := (yX12_lists, prog_14_method_48_code, 3, none, 1, 0, 0, [1822, 14, 1], [
  (0, some [0, 1], 1, [(.aload_n 0, []), (.iconst 0, []), (.putfield 382, [12, 59, 1386]), (.iconst 0, []), (.istore_n 2, [])]),
  (7, some [0, 1, 2], 0, [(.iload_n 2, []), (.aload_n 0, []), (.getfield 70, [12, 31, 1358]), (.aload_n 0, []), (.getfield 263, [12, 18, 1345]), (.iaload, []), (.if_icmp .ge 40, [6, 2])]),
  (20, none, 0, [(.iload_n 1, []), (.iload_n 2, []), (.ishr, []), (.iconst 1, []), (.iand, []), (.ifCond .ne 6, [4, 3])]),
  (28, none, 0, [(.goto 23, [5])]),
  (31, none, 5, [(.aload_n 0, []), (.getfield 140, [12, 60, 1387]), (.aload_n 0, []), (.getfield 382, [12, 59, 1386]), (.iload_n 2, []), (.iastore, []), (.aload_n 0, []), (.dup, []), (.getfield 382, [12, 59, 1386]), (.iconst 1, []), (.iadd, []), (.putfield 382, [12, 59, 1386])]),
  (51, none, 0, [(.iinc 2 1, []), (.goto (-47), [1])]),
  (57, none, 7, [(.iconst 0, []), (.istore_n 2, [])]),
  (59, some [0, 2], 0, [(.iload_n 2, []), (.aload_n 0, []), (.getfield 340, [12, 46, 1373]), (.if_icmp .ge 32, [9, 8])]),
  (67, none, 0, [(.aload_n 0, []), (.getfield 140, [12, 60, 1387]), (.aload_n 0, []), (.getfield 382, [12, 59, 1386]), (.bipush 10, []), (.iload_n 2, []), (.iadd, []), (.iastore, []), (.aload_n 0, []), (.dup, []), (.getfield 382, [12, 59, 1386]), (.iconst 1, []), (.iadd, []), (.putfield 382, [12, 59, 1386]), (.iinc 2 1, []), (.goto (-34), [7])]),
  (96, none, 10, [(.iconst 0, []), (.istore_n 2, [])]),
  (98, some [0, 2], 0, [(.iload_n 2, []), (.aload_n 0, []), (.getfield 385, [12, 67, 1394]), (.if_icmp .ge 32, [12, 11])]),
  (106, none, 0, [(.aload_n 0, []), (.getfield 140, [12, 60, 1387]), (.aload_n 0, []), (.getfield 382, [12, 59, 1386]), (.bipush 60, []), (.iload_n 2, []), (.iadd, []), (.iastore, []), (.aload_n 0, []), (.dup, []), (.getfield 382, [12, 59, 1386]), (.iconst 1, []), (.iadd, []), (.putfield 382, [12, 59, 1386]), (.iinc 2 1, []), (.goto (-34), [10])]),
  (135, none, 0, [(.return_, [])])])
def pm_X12_meets : sm_M := (yX12_meets, prog_14_method_36_code, 5, none, 0, 0, 0, [1751, 14, 1], [
  (0, some [0], 1, [(.aload_n 0, []), (.iconst 0, []), (.putfield 340, [12, 46, 1373]), (.iconst 0, []), (.istore_n 1, [])]),
  (7, some [0, 1], 0, [(.iload_n 1, []), (.aload_n 0, []), (.getfield 61, [12, 28, 1355]), (.aload_n 0, []), (.getfield 263, [12, 18, 1345]), (.iaload, []), (.if_icmp .ge 159, [11, 2])]),
  (20, none, 3, [(.iload_n 1, []), (.iconst 1, []), (.iadd, []), (.istore_n 2, [])]),
  (24, some [0, 1, 2], 0, [(.iload_n 2, []), (.aload_n 0, []), (.getfield 61, [12, 28, 1355]), (.aload_n 0, []), (.getfield 263, [12, 18, 1345]), (.iaload, []), (.if_icmp .ge 136, [10, 4])]),
  (37, none, 0, [(.bipush 10, []), (.aload_n 0, []), (.getfield 263, [12, 18, 1345]), (.imul, []), (.iload_n 1, []), (.iadd, []), (.istore_n 3, []), (.bipush 10, []), (.aload_n 0, []), (.getfield 263, [12, 18, 1345]), (.imul, []), (.iload_n 2, []), (.iadd, []), (.istore 4, []), (.aload_n 0, []), (.getfield 64, [12, 29, 1356]), (.iload_n 3, []), (.iaload, []), (.iconst (-1), []), (.if_icmp .eq 99, [9, 5])]),
  (68, none, 0, [(.aload_n 0, []), (.getfield 64, [12, 29, 1356]), (.iload_n 3, []), (.iaload, []), (.aload_n 0, []), (.getfield 64, [12, 29, 1356]), (.iload 4, []), (.iaload, []), (.if_icmp .ne 83, [9, 6])]),
  (84, none, 0, [(.aload_n 0, []), (.getfield 67, [12, 30, 1357]), (.iload_n 3, []), (.iaload, []), (.aload_n 0, []), (.getfield 67, [12, 30, 1357]), (.iload 4, []), (.iaload, []), (.if_icmp .ne 6, [8, 7])]),
  (100, none, 0, [(.goto 64, [9])]),
  (103, none, 9, [(.aload_n 0, []), (.getfield 116, [12, 47, 1374]), (.aload_n 0, []), (.getfield 340, [12, 46, 1373]), (.iload_n 1, []), (.iastore, []), (.aload_n 0, []), (.getfield 119, [12, 48, 1375]), (.aload_n 0, []), (.getfield 340, [12, 46, 1373]), (.iload_n 2, []), (.iastore, []), (.aload_n 0, []), (.getfield 122, [12, 49, 1376]), (.aload_n 0, []), (.getfield 340, [12, 46, 1373]), (.aload_n 0, []), (.getfield 113, [12, 45, 1372]), (.bipush 6, []), (.aload_n 0, []), (.getfield 67, [12, 30, 1357]), (.iload_n 3, []), (.iaload, []), (.imul, []), (.aload_n 0, []), (.getfield 67, [12, 30, 1357]), (.iload 4, []), (.iaload, []), (.iadd, []), (.iaload, []), (.iastore, []), (.aload_n 0, []), (.dup, []), (.getfield 340, [12, 46, 1373]), (.iconst 1, []), (.iadd, []), (.putfield 340, [12, 46, 1373])]),
  (164, none, 0, [(.iinc 2 1, []), (.goto (-143), [3])]),
  (170, none, 0, [(.iinc 1 1, []), (.goto (-166), [1])]),
  (176, none, 0, [(.return_, [])])])
def pm_X12_meetsAll : sm_M := (yX12_meetsAll, prog_14_method_99_code, 3, none, 0, 0, 0, [2026, 14, 1], [
  (0, some [0], 0, [(.iconst 0, []), (.istore_n 1, []), (.aload_n 0, []), (.getfield 146, [12, 62, 1389]), (.iconst 0, []), (.iconst 0, []), (.iastore, []), (.aload_n 0, []), (.getfield 382, [12, 59, 1386]), (.ifCond .ne 8, [2, 1])]),
  (16, none, 2, [(.aload_n 0, []), (.iconst 0, []), (.invokevirtual 522, [187, 1, 12, 2027, 2029, 3853, 0])]),
  (21, some [0, 1], 0, [(.iload_n 1, []), (.ifCond .lt 144, [13, 3])]),
  (25, none, 0, [(.aload_n 0, []), (.getfield 382, [12, 59, 1386]), (.ifCond .le 137, [13, 4])]),
  (32, none, 0, [(.aload_n 0, []), (.getfield 146, [12, 62, 1389]), (.iload_n 1, []), (.iaload, []), (.aload_n 0, []), (.aload_n 0, []), (.getfield 140, [12, 60, 1387]), (.iload_n 1, []), (.iaload, []), (.invokevirtual 394, [114, 1, 12, 1851, 1853, 3593, 0]), (.if_icmp .ne 9, [6, 5])]),
  (51, none, 0, [(.iinc 1 (-1), []), (.goto (-33), [2])]),
  (57, none, 0, [(.aload_n 0, []), (.getfield 146, [12, 62, 1389]), (.iload_n 1, []), (.iaload, []), (.istore_n 2, []), (.aload_n 0, []), (.getfield 146, [12, 62, 1389]), (.iload_n 1, []), (.dup2, []), (.iaload, []), (.iconst 1, []), (.iadd, []), (.iastore, []), (.aload_n 0, []), (.dup, []), (.getfield 388, [12, 63, 1390]), (.iconst 1, []), (.iadd, []), (.putfield 388, [12, 63, 1390]), (.aload_n 0, []), (.getfield 388, [12, 63, 1390]), (.sipush 1000, []), (.if_icmp .le 9, [8, 7])]),
  (94, none, 0, [(.aload_n 0, []), (.iconst 1, []), (.putfield 391, [12, 64, 1391]), (.return_, [])]),
  (100, none, 0, [(.aload_n 0, []), (.iload_n 1, []), (.iload_n 1, []), (.iconst 1, []), (.iadd, []), (.invokevirtual 397, [116, 1, 12, 1855, 1857, 3594, 0]), (.aload_n 0, []), (.iload_n 1, []), (.iconst 1, []), (.iadd, []), (.putfield 343, [12, 52, 1379]), (.aload_n 0, []), (.aload_n 0, []), (.getfield 140, [12, 60, 1387]), (.iload_n 1, []), (.iaload, []), (.iload_n 2, []), (.invokevirtual 400, [115, 1, 12, 1859, 1861, 3595, 0]), (.ifCond .ne 6, [10, 9])]),
  (129, none, 0, [(.goto (-108), [2])]),
  (132, none, 0, [(.iload_n 1, []), (.iconst 1, []), (.iadd, []), (.aload_n 0, []), (.getfield 382, [12, 59, 1386]), (.if_icmp .ne 14, [12, 11])]),
  (142, none, 0, [(.aload_n 0, []), (.aload_n 0, []), (.getfield 343, [12, 52, 1379]), (.invokevirtual 522, [187, 1, 12, 2027, 2029, 3853, 0]), (.goto (-129), [2])]),
  (153, none, 0, [(.iinc 1 1, []), (.aload_n 0, []), (.getfield 146, [12, 62, 1389]), (.iload_n 1, []), (.iconst 0, []), (.iastore, []), (.goto (-142), [2])]),
  (166, none, 0, [(.return_, [])])])
def pm_X12_more : sm_M := (yX12_more, prog_14_method_44_code, 5, (some .int), 4, 0, 0, [1763, 14, 1], [
  (0, some [0, 1, 2, 3, 4], 0, [(.aload_n 0, []), (.getfield 275, [12, 54, 1381]), (.bipush 6, []), (.if_icmp .eq 51, [6, 1])]),
  (9, none, 0, [(.aload_n 0, []), (.iload_n 1, []), (.invokevirtual 370, [150, 1, 12, 1764, 1766, 3341, 0]), (.ifCond .eq 43, [6, 2])]),
  (17, none, 0, [(.iload_n 2, []), (.iconst (-1), []), (.if_icmp .eq 11, [4, 3])]),
  (22, none, 0, [(.aload_n 0, []), (.iload_n 2, []), (.invokevirtual 370, [150, 1, 12, 1764, 1766, 3341, 0]), (.ifCond .eq 30, [6, 4])]),
  (30, none, 0, [(.iload_n 3, []), (.sipush (-1440), []), (.sipush 1440, []), (.invokestatic 373, [141, 0, 0, 1768, 1769, 0, 0]), (.ifCond .eq 17, [6, 5])]),
  (43, none, 0, [(.iload 4, []), (.sipush (-1440), []), (.sipush 1440, []), (.invokestatic 373, [141, 0, 0, 1768, 1769, 0, 0]), (.ifCond .ne 5, [7, 6])]),
  (57, none, 0, [(.iconst (-1), []), (.ireturn, [])]),
  (59, none, 0, [(.aload_n 0, []), (.getfield 128, [12, 55, 1382]), (.aload_n 0, []), (.getfield 275, [12, 54, 1381]), (.iload_n 1, []), (.iastore, []), (.aload_n 0, []), (.getfield 131, [12, 56, 1383]), (.aload_n 0, []), (.getfield 275, [12, 54, 1381]), (.iload_n 2, []), (.iastore, []), (.aload_n 0, []), (.getfield 134, [12, 57, 1384]), (.aload_n 0, []), (.getfield 275, [12, 54, 1381]), (.iload_n 3, []), (.iastore, []), (.aload_n 0, []), (.getfield 137, [12, 58, 1385]), (.aload_n 0, []), (.getfield 275, [12, 54, 1381]), (.iload 4, []), (.iastore, []), (.aload_n 0, []), (.dup, []), (.getfield 275, [12, 54, 1381]), (.iconst 1, []), (.iadd, []), (.putfield 275, [12, 54, 1381]), (.aload_n 0, []), (.invokevirtual 284, [110, 1, 12, 1752, 1754, 3340, 0]), (.aload_n 0, []), (.getfield 275, [12, 54, 1381]), (.ireturn, [])])])
def pm_X12_move : sm_M := (yX12_move, prog_14_method_61_code, 3, (some .int), 2, 0, 0, [1806, 14, 1], [
  (0, some [0, 1, 2], 0, [(.iload_n 1, []), (.iconst 0, []), (.aload_n 0, []), (.getfield 340, [12, 46, 1373]), (.iconst 1, []), (.isub, []), (.invokestatic 373, [141, 0, 0, 1768, 1769, 0, 0]), (.ifCond .eq 12, [2, 1])]),
  (14, none, 0, [(.iload_n 2, []), (.iconst 0, []), (.iconst 2, []), (.invokestatic 373, [141, 0, 0, 1768, 1769, 0, 0]), (.ifCond .ne 5, [3, 2])]),
  (23, none, 0, [(.iconst (-1), []), (.ireturn, [])]),
  (25, none, 0, [(.iload_n 2, []), (.ifCond .ne 12, [5, 4])]),
  (29, none, 0, [(.aload_n 0, []), (.getfield 116, [12, 47, 1374]), (.iload_n 1, []), (.iaload, []), (.goto 38, [10])]),
  (38, none, 0, [(.iload_n 2, []), (.iconst 1, []), (.if_icmp .ne 12, [7, 6])]),
  (43, none, 0, [(.aload_n 0, []), (.getfield 119, [12, 48, 1375]), (.iload_n 1, []), (.iaload, []), (.goto 24, [10])]),
  (52, none, 0, [(.aload_n 0, []), (.getfield 122, [12, 49, 1376]), (.iload_n 1, []), (.iaload, []), (.iconst (-1), []), (.if_icmp .ne 8, [9, 8])]),
  (62, none, 0, [(.bipush (-2), []), (.goto 9, [10])]),
  (67, none, 10, [(.aload_n 0, []), (.getfield 122, [12, 49, 1376]), (.iload_n 1, []), (.iaload, [])]),
  (73, none, 0, [(.ireturn, [])])])
def pm_X12_must : sm_M := (yX12_must, prog_14_method_18_code, 2, none, 1, 0, 0, [1699, 14, 1], [
  (0, some [0, 1], 0, [(.aload_n 0, []), (.iload_n 1, []), (.invokevirtual 254, [143, 1, 12, 1672, 1674, 3080, 0]), (.ifCond .eq 10, [2, 1])]),
  (8, none, 0, [(.aload_n 0, []), (.invokevirtual 257, [136, 1, 12, 1688, 1690, 3084, 0]), (.goto 8, [3])]),
  (15, none, 3, [(.aload_n 0, []), (.iconst 1, []), (.invokevirtual 251, [123, 1, 12, 1680, 1682, 3082, 0])]),
  (20, none, 0, [(.return_, [])])])
def pm_X12_named : sm_M := (yX12_named, prog_14_method_23_code, 3, (some .int), 0, 0, 0, [1695, 14, 1], [
  (0, some [0], 1, [(.aload_n 0, []), (.getfield 239, [12, 11, 1339]), (.istore_n 1, []), (.aload_n 0, []), (.iconst 1, []), (.invokevirtual 312, [165, 1, 12, 1696, 1698, 3086, 0]), (.iconst 0, []), (.istore_n 2, [])]),
  (12, some [0, 1, 2], 0, [(.iload_n 2, []), (.aload_n 0, []), (.getfield 269, [12, 20, 1347]), (.if_icmp .ge 38, [6, 2])]),
  (20, none, 0, [(.aload_n 0, []), (.getfield 236, [12, 13, 1340]), (.ifCond .ne 31, [6, 3])]),
  (27, none, 0, [(.aload_n 0, []), (.getfield 40, [12, 21, 1348]), (.iload_n 2, []), (.laload, []), (.aload_n 0, []), (.getfield 30, [12, 8, 1336]), (.iload_n 1, []), (.laload, []), (.lcmp, []), (.ifCond .ne 9, [5, 4])]),
  (43, none, 5, [(.aload_n 0, []), (.iconst 3, []), (.iload_n 1, []), (.invokevirtual 315, [213, 1, 12, 1700, 1702, 3087, 0])]),
  (49, none, 0, [(.iinc 2 1, []), (.goto (-40), [1])]),
  (55, none, 0, [(.iload_n 1, []), (.ireturn, [])])])
def pm_X12_next : sm_M := (yX12_next, prog_14_method_105_code, 7, (some .int), 0, 0, 0, [2066, 14, 1], [
  (0, some [0], 0, [(.aload_n 0, []), (.getfield 104, [12, 42, 1369]), (.aload_n 0, []), (.getfield 263, [12, 18, 1345]), (.iaload, []), (.ifCond .ne 6, [2, 1])]),
  (12, none, 0, [(.bipush (-2), []), (.ireturn, [])]),
  (15, none, 0, [(.aload_n 0, []), (.invokevirtual 434, [135, 1, 12, 1811, 1813, 3343, 0]), (.aload_n 0, []), (.getfield 425, [12, 71, 1398]), (.ifCond .eq 6, [4, 3])]),
  (26, none, 0, [(.bipush (-3), []), (.ireturn, [])]),
  (29, none, 5, [(.iconst (-1), []), (.istore_n 1, []), (.iconst 0, []), (.istore_n 2, []), (.iconst 0, []), (.istore_n 3, [])]),
  (35, some [0, 1, 2, 3], 0, [(.iload_n 3, []), (.aload_n 0, []), (.getfield 104, [12, 42, 1369]), (.aload_n 0, []), (.getfield 263, [12, 18, 1345]), (.iaload, []), (.if_icmp .ge 64, [14, 6])]),
  (48, none, 0, [(.aload_n 0, []), (.iconst 1, []), (.iload_n 3, []), (.ishl, []), (.iconst 0, []), (.invokevirtual 531, [159, 1, 12, 2051, 2053, 3854, 0]), (.istore 4, []), (.aload_n 0, []), (.iconst 0, []), (.iconst 1, []), (.iload_n 3, []), (.ishl, []), (.invokevirtual 531, [159, 1, 12, 2051, 2053, 3854, 0]), (.istore 5, []), (.iload 4, []), (.iload 5, []), (.if_icmp .le 8, [8, 7])]),
  (75, none, 0, [(.iload 4, []), (.goto 5, [9])]),
  (80, none, 9, [(.iload 5, [])]),
  (82, none, 0, [(.istore 6, []), (.iload_n 1, []), (.iconst (-1), []), (.if_icmp .eq 12, [12, 10])]),
  (89, none, 0, [(.iload 6, []), (.iload_n 2, []), (.if_icmp .lt 6, [12, 11])]),
  (95, none, 0, [(.goto 8, [13])]),
  (98, none, 13, [(.iload_n 3, []), (.istore_n 1, []), (.iload 6, []), (.istore_n 2, [])]),
  (103, none, 0, [(.iinc 3 1, []), (.goto (-71), [5])]),
  (109, none, 0, [(.iload_n 1, []), (.ireturn, [])])])
def pm_X12_notes : sm_M := (yX12_notes, prog_14_method_49_code, 4, none, 3, 0, 0, [1866, 14, 1], [
  (0, some [0, 1, 2, 3], 0, [(.aload_n 0, []), (.getfield 159, [12, 76, 1403]), (.aload_n 0, []), (.getfield 388, [12, 63, 1390]), (.iconst 1, []), (.isub, []), (.iload_n 1, []), (.i2b, []), (.bastore, []), (.aload_n 0, []), (.getfield 162, [12, 77, 1404]), (.aload_n 0, []), (.getfield 388, [12, 63, 1390]), (.iconst 1, []), (.isub, []), (.iload_n 2, []), (.i2b, []), (.bastore, []), (.aload_n 0, []), (.getfield 165, [12, 78, 1405]), (.aload_n 0, []), (.getfield 388, [12, 63, 1390]), (.iconst 1, []), (.isub, []), (.iload_n 3, []), (.bastore, []), (.return_, [])])])
def pm_X12_number : sm_M := (yX12_number, prog_14_method_26_code, 5, (some .int), 1, 0, 0, [1719, 14, 1], [
  (0, some [0, 1], 0, [(.iload_n 1, []), (.ifCond .eq 16, [3, 1])]),
  (4, none, 0, [(.aload_n 0, []), (.bipush 9, []), (.invokevirtual 254, [143, 1, 12, 1672, 1674, 3080, 0]), (.ifCond .eq 7, [3, 2])]),
  (13, none, 0, [(.iconst (-1), []), (.goto 4, [4])]),
  (17, none, 4, [(.iconst 1, [])]),
  (18, none, 0, [(.istore_n 2, []), (.iload_n 1, []), (.ifCond .eq 16, [7, 5])]),
  (23, none, 0, [(.aload_n 0, []), (.bipush 9, []), (.invokevirtual 254, [143, 1, 12, 1672, 1674, 3080, 0]), (.ifCond .eq 7, [7, 6])]),
  (32, none, 7, [(.aload_n 0, []), (.invokevirtual 257, [136, 1, 12, 1688, 1690, 3084, 0])]),
  (36, some [0, 2], 0, [(.aload_n 0, []), (.getfield 239, [12, 11, 1339]), (.istore_n 3, []), (.aload_n 0, []), (.iconst 2, []), (.invokevirtual 254, [143, 1, 12, 1672, 1674, 3080, 0]), (.ifCond .eq 15, [9, 8])]),
  (49, none, 0, [(.aload_n 0, []), (.getfield 27, [12, 7, 1335]), (.aload_n 0, []), (.getfield 239, [12, 11, 1339]), (.iaload, []), (.goto 4, [10])]),
  (61, none, 10, [(.iconst 0, [])]),
  (62, some [0, 2, 3], 0, [(.istore 4, []), (.aload_n 0, []), (.iconst 2, []), (.invokevirtual 312, [165, 1, 12, 1696, 1698, 3086, 0]), (.aload_n 0, []), (.getfield 236, [12, 13, 1340]), (.ifCond .ne 17, [13, 11])]),
  (76, none, 0, [(.iload 4, []), (.sipush 1440, []), (.if_icmp .le 9, [13, 12])]),
  (84, none, 13, [(.aload_n 0, []), (.iconst 5, []), (.iload_n 3, []), (.invokevirtual 315, [213, 1, 12, 1700, 1702, 3087, 0])]),
  (90, some [2, 4], 0, [(.iload_n 2, []), (.iload 4, []), (.imul, []), (.ireturn, [])])])
def pm_X12_oneMore : sm_M := (yX12_oneMore, prog_14_method_96_code, 5, none, 2, 0, 0, [2018, 14, 1], [
  (0, some [0, 1, 2], 1, [(.aload_n 0, []), (.iconst 0, []), (.putfield 349, [12, 53, 1380]), (.aload_n 0, []), (.iconst 0, []), (.putfield 376, [12, 68, 1395]), (.aload_n 0, []), (.iconst 0, []), (.putfield 385, [12, 67, 1394]), (.iconst 0, []), (.istore_n 3, [])]),
  (17, some [0, 1, 2, 3], 0, [(.iload_n 3, []), (.aload_n 0, []), (.getfield 61, [12, 28, 1355]), (.aload_n 0, []), (.getfield 263, [12, 18, 1345]), (.iaload, []), (.if_icmp .ge 91, [7, 2])]),
  (30, none, 0, [(.bipush 10, []), (.aload_n 0, []), (.getfield 263, [12, 18, 1345]), (.imul, []), (.iload_n 3, []), (.iadd, []), (.istore 4, []), (.aload_n 0, []), (.getfield 64, [12, 29, 1356]), (.iload 4, []), (.iaload, []), (.iload_n 1, []), (.if_icmp .ne 63, [6, 3])]),
  (52, none, 0, [(.aload_n 0, []), (.getfield 67, [12, 30, 1357]), (.iload 4, []), (.iaload, []), (.iload_n 2, []), (.if_icmp .ne 6, [5, 4])]),
  (63, none, 0, [(.goto 49, [6])]),
  (66, none, 6, [(.aload_n 0, []), (.getfield 149, [12, 65, 1392]), (.aload_n 0, []), (.getfield 385, [12, 67, 1394]), (.iload_n 3, []), (.iastore, []), (.aload_n 0, []), (.getfield 152, [12, 66, 1393]), (.aload_n 0, []), (.getfield 385, [12, 67, 1394]), (.aload_n 0, []), (.getfield 113, [12, 45, 1372]), (.bipush 6, []), (.aload_n 0, []), (.getfield 67, [12, 30, 1357]), (.iload 4, []), (.iaload, []), (.imul, []), (.iload_n 2, []), (.iadd, []), (.iaload, []), (.iastore, []), (.aload_n 0, []), (.dup, []), (.getfield 385, [12, 67, 1394]), (.iconst 1, []), (.iadd, []), (.putfield 385, [12, 67, 1394])]),
  (112, none, 0, [(.iinc 3 1, []), (.goto (-98), [1])]),
  (118, none, 0, [(.aload_n 0, []), (.aload_n 0, []), (.invokevirtual 407, [208, 1, 12, 1815, 1817, 3584, 0]), (.invokevirtual 410, [160, 1, 12, 1819, 1821, 3585, 0]), (.aload_n 0, []), (.iconst 0, []), (.putfield 388, [12, 63, 1390]), (.aload_n 0, []), (.iconst 0, []), (.putfield 391, [12, 64, 1391]), (.return_, [])])])
def pm_X12_openAt : sm_M := (yX12_openAt, prog_14_method_39_code, 2, (some .int), 1, 0, 0, [1846, 14, 1], [
  (0, some [0, 1], 0, [(.iload_n 1, []), (.ifCond .eq 16, [2, 1])]),
  (4, none, 0, [(.iload_n 1, []), (.aload_n 0, []), (.getfield 61, [12, 28, 1355]), (.aload_n 0, []), (.getfield 263, [12, 18, 1345]), (.iaload, []), (.if_icmp .le 7, [3, 2])]),
  (17, none, 0, [(.iconst (-1), []), (.goto 19, [4])]),
  (21, none, 4, [(.aload_n 0, []), (.getfield 101, [12, 41, 1368]), (.bipush 10, []), (.aload_n 0, []), (.getfield 263, [12, 18, 1345]), (.imul, []), (.iload_n 1, []), (.iadd, []), (.iconst 1, []), (.isub, []), (.iaload, [])]),
  (37, none, 0, [(.ireturn, [])])])
def pm_X12_pick : sm_M := (yX12_pick, prog_14_method_89_code, 4, (some .boolean), 2, 0, 0, [1978, 14, 1], [
  (0, some [0, 1, 2], 0, [(.aload_n 0, []), (.iload_n 1, []), (.invokevirtual 485, [151, 1, 12, 1979, 1981, 3847, 0]), (.istore_n 3, []), (.iload_n 3, []), (.iconst (-1), []), (.if_icmp .eq 23, [3, 1])]),
  (11, none, 0, [(.iload_n 2, []), (.iconst (-1), []), (.if_icmp .eq 20, [4, 2])]),
  (16, none, 0, [(.iload_n 2, []), (.iconst 0, []), (.aload_n 0, []), (.iload_n 3, []), (.invokevirtual 394, [114, 1, 12, 1851, 1853, 3593, 0]), (.iconst 1, []), (.isub, []), (.invokestatic 373, [141, 0, 0, 1768, 1769, 0, 0]), (.ifCond .ne 5, [4, 3])]),
  (31, none, 0, [(.iconst 0, []), (.ireturn, [])]),
  (33, none, 0, [(.aload_n 0, []), (.getfield 177, [12, 86, 1413]), (.iload_n 3, []), (.iload_n 2, []), (.iastore, []), (.iconst 1, []), (.ireturn, [])])])
def pm_X12_pickedStands : sm_M := (yX12_pickedStands, prog_14_method_90_code, 2, (some .boolean), 0, 0, 0, [1990, 14, 1], [
  (0, some [0], 0, [(.aload_n 0, []), (.iconst 0, []), (.putfield 349, [12, 53, 1380]), (.aload_n 0, []), (.iconst 0, []), (.putfield 376, [12, 68, 1395]), (.aload_n 0, []), (.aload_n 0, []), (.getfield 61, [12, 28, 1355]), (.aload_n 0, []), (.getfield 263, [12, 18, 1345]), (.iaload, []), (.iconst 1, []), (.iadd, []), (.invokevirtual 419, [103, 1, 12, 1823, 1825, 3586, 0]), (.ifCond .ne 5, [2, 1])]),
  (28, none, 0, [(.iconst 0, []), (.ireturn, [])]),
  (30, none, 3, [(.iconst 0, []), (.istore_n 1, [])]),
  (32, some [0, 1], 0, [(.iload_n 1, []), (.bipush 10, []), (.aload_n 0, []), (.getfield 340, [12, 46, 1373]), (.iadd, []), (.if_icmp .ge 44, [9, 4])]),
  (43, none, 0, [(.aload_n 0, []), (.getfield 177, [12, 86, 1413]), (.iload_n 1, []), (.iaload, []), (.iconst (-1), []), (.if_icmp .eq 28, [8, 5])]),
  (53, none, 0, [(.aload_n 0, []), (.getfield 183, [12, 89, 1416]), (.iload_n 1, []), (.baload, []), (.ifCond .ne 19, [8, 6])]),
  (62, none, 0, [(.aload_n 0, []), (.iload_n 1, []), (.aload_n 0, []), (.getfield 177, [12, 86, 1413]), (.iload_n 1, []), (.iaload, []), (.invokevirtual 400, [115, 1, 12, 1859, 1861, 3595, 0]), (.ifCond .ne 5, [8, 7])]),
  (76, none, 0, [(.iconst 0, []), (.ireturn, [])]),
  (78, none, 0, [(.iinc 1 1, []), (.goto (-49), [3])]),
  (84, none, 0, [(.iconst 1, []), (.ireturn, [])])])
def pm_X12_place : sm_M := (yX12_place, prog_14_method_21_code, 1, (some .int), 0, 0, 0, [1759, 14, 1], [
  (0, some [0], 0, [(.aload_n 0, []), (.getfield 37, [12, 17, 1344]), (.ireturn, [])])])
def pm_X12_plan : sm_M := (yX12_plan, prog_14_method_109_code, 2, (some .int), 1, 0, 0, [2074, 14, 1], [
  (0, some [0, 1], 0, [(.aload_n 0, []), (.iload_n 1, []), (.iconst 0, []), (.invokevirtual 540, [176, 1, 12, 2075, 2077, 4097, 0]), (.ireturn, [])])])
def pm_X12_planOf : sm_M := (yX12_planOf, prog_14_method_108_code, 4, (some .int), 2, 0, 0, [2078, 14, 1], [
  (0, some [0, 1, 2], 0, [(.iload_n 1, []), (.iconst 0, []), (.sipush 1000, []), (.invokestatic 373, [141, 0, 0, 1768, 1769, 0, 0]), (.ifCond .ne 5, [2, 1])]),
  (11, none, 0, [(.iconst (-1), []), (.ireturn, [])]),
  (13, none, 0, [(.aload_n 0, []), (.invokevirtual 434, [135, 1, 12, 1811, 1813, 3343, 0]), (.aload_n 0, []), (.getfield 425, [12, 71, 1398]), (.ifCond .ne 12, [4, 3])]),
  (24, none, 0, [(.aload_n 0, []), (.getfield 416, [12, 73, 1400]), (.bipush 64, []), (.if_icmp .le 6, [5, 4])]),
  (33, none, 0, [(.bipush (-3), []), (.ireturn, [])]),
  (36, none, 0, [(.aload_n 0, []), (.iload_n 1, []), (.invokevirtual 537, [177, 1, 12, 2079, 2081, 4098, 0]), (.istore_n 3, []), (.iload_n 3, []), (.bipush 100, []), (.if_icmp .lt 6, [7, 6])]),
  (48, none, 0, [(.bipush (-2), []), (.ireturn, [])]),
  (51, none, 0, [(.iload_n 2, []), (.ifCond .ne 7, [9, 8])]),
  (55, none, 0, [(.iload_n 3, []), (.goto 16, [12])]),
  (59, none, 0, [(.iload_n 3, []), (.ifCond .ne 8, [11, 10])]),
  (63, none, 0, [(.bipush (-2), []), (.goto 7, [12])]),
  (68, none, 12, [(.aload_n 0, []), (.getfield 534, [12, 96, 1423])]),
  (72, none, 0, [(.ireturn, [])])])
def pb_X12_plans_0 : sm_B := (0, some [0, 1], 1, [(.aload_n 0, []), (.getfield 104, [12, 42, 1369]), (.aload_n 0, []), (.getfield 263, [12, 18, 1345]), (.iaload, []), (.istore_n 2, []), (.aload_n 0, []), (.getfield 192, [12, 95, 1422]), (.iload_n 2, []), (.iaload, []), (.istore_n 3, []), (.iconst 0, []), (.istore 4, [])])
def pb_X12_plans_1 : sm_B := (20, some [0, 1, 2, 3, 4], 0, [(.iload 4, []), (.iload_n 3, []), (.if_icmp .ge 17, [3, 2])])
def pb_X12_plans_2 : sm_B := (26, none, 0, [(.aload_n 0, []), (.getfield 186, [12, 93, 1420]), (.iload 4, []), (.iconst 0, []), (.iastore, []), (.iinc 4 1, []), (.goto (-17), [1])])
def pb_X12_plans_3 : sm_B := (40, none, 4, [(.iconst 0, []), (.istore 4, [])])
def pb_X12_plans_4 : sm_B := (43, some [0, 1, 2, 3, 4], 0, [(.iload 4, []), (.aload_n 0, []), (.getfield 416, [12, 73, 1400]), (.if_icmp .ge 124, [20, 5])])
def pb_X12_plans_5 : sm_B := (52, none, 0, [(.aload_n 0, []), (.iload 4, []), (.iconst 0, []), (.invokevirtual 444, [156, 1, 12, 1887, 1889, 3599, 0]), (.ifCond .ne 6, [7, 6])])
def pb_X12_plans_6 : sm_B := (62, none, 0, [(.goto 105, [19])])
def pb_X12_plans_7 : sm_B := (65, none, 8, [(.iconst 0, []), (.istore 5, [])])
def pb_X12_plans_8 : sm_B := (68, some [0, 1, 2, 3, 4, 5], 0, [(.iload 5, []), (.iload_n 3, []), (.if_icmp .ge 96, [19, 9])])
def pb_X12_plans_9 : sm_B := (74, none, 10, [(.iconst 0, []), (.istore 6, []), (.iconst 0, []), (.istore 7, []), (.iconst 0, []), (.istore 8, [])])
def pb_X12_plans_10 : sm_B := (83, some [0, 1, 2, 3, 4, 5, 6, 7, 8], 0, [(.iload 8, []), (.iload_n 2, []), (.if_icmp .ge 53, [16, 11])])
def pb_X12_plans_11 : sm_B := (89, none, 0, [(.iload 5, []), (.aload_n 0, []), (.getfield 192, [12, 95, 1422]), (.iload 8, []), (.iaload, []), (.idiv, []), (.iconst 3, []), (.irem, []), (.istore 9, []), (.iload 9, []), (.iconst 1, []), (.if_icmp .ne 12, [13, 12])])
def pb_X12_plans_12 : sm_B := (109, none, 13, [(.iload 6, []), (.iconst 1, []), (.iload 8, []), (.ishl, []), (.ior, []), (.istore 6, [])])
def pb_X12_plans_13 : sm_B := (118, none, 0, [(.iload 9, []), (.iconst 2, []), (.if_icmp .ne 12, [15, 14])])
def pb_X12_plans_14 : sm_B := (124, none, 15, [(.iload 7, []), (.iconst 1, []), (.iload 8, []), (.ishl, []), (.ior, []), (.istore 7, [])])
def pb_X12_plans_15 : sm_B := (133, none, 0, [(.iinc 8 1, []), (.goto (-53), [10])])
def pb_X12_plans_16 : sm_B := (139, none, 0, [(.aload_n 0, []), (.iload 6, []), (.iload 7, []), (.invokevirtual 528, [145, 1, 12, 2055, 2057, 3855, 0]), (.ifCond .eq 14, [18, 17])])
def pb_X12_plans_17 : sm_B := (150, none, 18, [(.aload_n 0, []), (.getfield 186, [12, 93, 1420]), (.iload 5, []), (.dup2, []), (.iaload, []), (.iconst 1, []), (.iadd, []), (.iastore, [])])
def pb_X12_plans_18 : sm_B := (161, none, 0, [(.iinc 5 1, []), (.goto (-96), [8])])
def pb_X12_plans_19 : sm_B := (167, none, 0, [(.iinc 4 1, []), (.goto (-127), [4])])
def pb_X12_plans_20 : sm_B := (173, none, 21, [(.aload_n 0, []), (.iconst (-1), []), (.putfield 534, [12, 96, 1423]), (.iload_n 3, []), (.iconst 1, []), (.isub, []), (.istore 4, [])])
def pb_X12_plans_21 : sm_B := (183, some [0, 1, 2, 4], 0, [(.iload 4, []), (.ifCond .lt 166, [39, 22])])
def pb_X12_plans_22 : sm_B := (188, none, 0, [(.aload_n 0, []), (.getfield 189, [12, 94, 1421]), (.iload 4, []), (.aload_n 0, []), (.getfield 186, [12, 93, 1420]), (.iload 4, []), (.iaload, []), (.iload_n 1, []), (.if_icmp .gt 7, [24, 23])])
def pb_X12_plans_23 : sm_B := (205, none, 0, [(.iconst 0, []), (.goto 5, [25])])
def pb_X12_plans_24 : sm_B := (209, none, 25, [(.bipush 100, [])])
def pb_X12_plans_25 : sm_B := (211, none, 26, [(.iastore, []), (.iconst 0, []), (.istore 5, [])])
def pb_X12_plans_26 : sm_B := (215, some [0, 1, 2, 4, 5], 0, [(.iload 5, []), (.iload_n 2, []), (.if_icmp .ge 127, [38, 27])])
def pb_X12_plans_27 : sm_B := (221, none, 0, [(.aload_n 0, []), (.getfield 186, [12, 93, 1420]), (.iload 4, []), (.iaload, []), (.iload_n 1, []), (.if_icmp .le 116, [38, 28])])
def pb_X12_plans_28 : sm_B := (232, none, 0, [(.iload 4, []), (.aload_n 0, []), (.getfield 192, [12, 95, 1422]), (.iload 5, []), (.iaload, []), (.idiv, []), (.iconst 3, []), (.irem, []), (.ifCond .eq 6, [30, 29])])
def pb_X12_plans_29 : sm_B := (247, none, 0, [(.goto 92, [37])])
def pb_X12_plans_30 : sm_B := (250, none, 0, [(.aload_n 0, []), (.getfield 189, [12, 94, 1421]), (.iload 4, []), (.aload_n 0, []), (.getfield 192, [12, 95, 1422]), (.iload 5, []), (.iaload, []), (.iadd, []), (.iaload, []), (.istore 6, []), (.aload_n 0, []), (.getfield 189, [12, 94, 1421]), (.iload 4, []), (.iconst 2, []), (.aload_n 0, []), (.getfield 192, [12, 95, 1422]), (.iload 5, []), (.iaload, []), (.imul, []), (.iadd, []), (.iaload, []), (.istore 7, []), (.iload 6, []), (.iload 7, []), (.if_icmp .le 8, [32, 31])])
def pb_X12_plans_31 : sm_B := (293, none, 0, [(.iload 6, []), (.goto 5, [33])])
def pb_X12_plans_32 : sm_B := (298, none, 33, [(.iload 7, [])])
def pb_X12_plans_33 : sm_B := (300, none, 0, [(.iconst 1, []), (.iadd, []), (.istore 8, []), (.iload 8, []), (.aload_n 0, []), (.getfield 189, [12, 94, 1421]), (.iload 4, []), (.iaload, []), (.if_icmp .lt 6, [35, 34])])
def pb_X12_plans_34 : sm_B := (316, none, 0, [(.goto 23, [37])])
def pb_X12_plans_35 : sm_B := (319, none, 0, [(.aload_n 0, []), (.getfield 189, [12, 94, 1421]), (.iload 4, []), (.iload 8, []), (.iastore, []), (.iload 4, []), (.ifCond .ne 9, [37, 36])])
def pb_X12_plans_36 : sm_B := (333, none, 37, [(.aload_n 0, []), (.iload 5, []), (.putfield 534, [12, 96, 1423])])
def pb_X12_plans_37 : sm_B := (339, none, 0, [(.iinc 5 1, []), (.goto (-127), [26])])
def pb_X12_plans_38 : sm_B := (345, none, 0, [(.iinc 4 (-1), []), (.goto (-165), [21])])
def pb_X12_plans_39 : sm_B := (351, none, 0, [(.aload_n 0, []), (.getfield 189, [12, 94, 1421]), (.iconst 0, []), (.iaload, []), (.ireturn, [])])
def pm_X12_plans : sm_M := (yX12_plans, prog_14_method_107_code, 10, (some .int), 1, 0, 0, [2082, 14, 1], [
  pb_X12_plans_0,
  pb_X12_plans_1,
  pb_X12_plans_2,
  pb_X12_plans_3,
  pb_X12_plans_4,
  pb_X12_plans_5,
  pb_X12_plans_6,
  pb_X12_plans_7,
  pb_X12_plans_8,
  pb_X12_plans_9,
  pb_X12_plans_10,
  pb_X12_plans_11,
  pb_X12_plans_12,
  pb_X12_plans_13,
  pb_X12_plans_14,
  pb_X12_plans_15,
  pb_X12_plans_16,
  pb_X12_plans_17,
  pb_X12_plans_18,
  pb_X12_plans_19,
  pb_X12_plans_20,
  pb_X12_plans_21,
  pb_X12_plans_22,
  pb_X12_plans_23,
  pb_X12_plans_24,
  pb_X12_plans_25,
  pb_X12_plans_26,
  pb_X12_plans_27,
  pb_X12_plans_28,
  pb_X12_plans_29,
  pb_X12_plans_30,
  pb_X12_plans_31,
  pb_X12_plans_32,
  pb_X12_plans_33,
  pb_X12_plans_34,
  pb_X12_plans_35,
  pb_X12_plans_36,
  pb_X12_plans_37,
  pb_X12_plans_38,
  pb_X12_plans_39])
def pm_X12_price : sm_M := (yX12_price, prog_14_method_86_code, 2, (some .int), 0, 0, 0, [1973, 14, 1], [
  (0, some [0], 0, [(.aload_n 0, []), (.invokevirtual 482, [111, 1, 12, 1974, 1963, 1964, 0]), (.istore_n 1, []), (.iload_n 1, []), (.ifCond .ge 7, [2, 1])]),
  (9, none, 0, [(.iload_n 1, []), (.goto 8, [3])]),
  (13, none, 3, [(.aload_n 0, []), (.iload_n 1, []), (.invokevirtual 479, [207, 1, 12, 1966, 1968, 3846, 0])]),
  (18, none, 0, [(.ireturn, [])])])
def pm_X12_put : sm_M := (yX12_put, prog_14_method_4_code, 3, none, 1, 0, 0, [1642, 14, 1], [
  (0, some [0, 1], 1, [(.bipush 24, []), (.istore_n 2, [])]),
  (3, some [0, 1, 2], 0, [(.iload_n 2, []), (.ifCond .lt 32, [3, 2])]),
  (7, none, 0, [(.aload_n 0, []), (.getfield 13, [12, 1, 1329]), (.aload_n 0, []), (.getfield 199, [12, 2, 1330]), (.iload_n 1, []), (.iload_n 2, []), (.ishr, []), (.i2b, []), (.bastore, []), (.aload_n 0, []), (.dup, []), (.getfield 199, [12, 2, 1330]), (.iconst 1, []), (.iadd, []), (.putfield 199, [12, 2, 1330]), (.iinc 2 (-8), []), (.goto (-30), [1])]),
  (36, none, 0, [(.return_, [])])])
def pm_X12_quarrel : sm_M := (yX12_quarrel, prog_14_method_81_code, 2, (some .int), 1, 0, 0, [1953, 14, 1], [
  (0, some [0, 1], 0, [(.iload_n 1, []), (.ifCond .ge 5, [2, 1])]),
  (4, none, 0, [(.iconst (-1), []), (.ireturn, [])]),
  (6, none, 0, [(.aload_n 0, []), (.invokevirtual 476, [190, 1, 12, 1935, 1937, 3843, 0]), (.aload_n 0, []), (.getfield 458, [12, 80, 1407]), (.ifCond .eq 8, [4, 3])]),
  (17, none, 0, [(.bipush (-3), []), (.goto 21, [7])]),
  (22, none, 0, [(.iload_n 1, []), (.aload_n 0, []), (.getfield 461, [12, 82, 1409]), (.if_icmp .ge 12, [6, 5])]),
  (30, none, 0, [(.aload_n 0, []), (.getfield 171, [12, 83, 1410]), (.iload_n 1, []), (.iaload, []), (.goto 4, [7])]),
  (39, none, 7, [(.iconst (-1), [])]),
  (40, none, 0, [(.ireturn, [])])])
def pm_X12_quarrels : sm_M := (yX12_quarrels, prog_14_method_80_code, 1, (some .int), 0, 0, 0, [1934, 14, 1], [
  (0, some [0], 0, [(.aload_n 0, []), (.invokevirtual 476, [190, 1, 12, 1935, 1937, 3843, 0]), (.aload_n 0, []), (.getfield 458, [12, 80, 1407]), (.ifCond .eq 8, [2, 1])]),
  (11, none, 0, [(.bipush (-3), []), (.goto 7, [3])]),
  (16, none, 3, [(.aload_n 0, []), (.getfield 461, [12, 82, 1409])]),
  (20, none, 0, [(.ireturn, [])])])
def pb_X12_read_0 : sm_B := (0, some [0], 1, [(.aload_n 0, []), (.aload_n 0, []), (.getfield 199, [12, 2, 1330]), (.putfield 206, [12, 4, 1332]), (.iconst 0, []), (.istore_n 1, [])])
def pb_X12_read_1 : sm_B := (10, some [0, 1], 0, [(.iload_n 1, []), (.aload_n 0, []), (.getfield 206, [12, 4, 1332]), (.if_icmp .ge 21, [3, 2])])
def pb_X12_read_2 : sm_B := (18, none, 0, [(.aload_n 0, []), (.getfield 17, [12, 3, 1331]), (.iload_n 1, []), (.aload_n 0, []), (.getfield 13, [12, 1, 1329]), (.iload_n 1, []), (.baload, []), (.bastore, []), (.iinc 1 1, []), (.goto (-23), [1])])
def pb_X12_read_3 : sm_B := (36, none, 4, [(.aload_n 0, []), (.iconst 0, []), (.putfield 199, [12, 2, 1330]), (.aload_n 0, []), (.invokevirtual 260, [119, 1, 12, 1651, 1653, 3077, 0]), (.aload_n 0, []), (.iconst 0, []), (.putfield 239, [12, 11, 1339]), (.aload_n 0, []), (.iconst 0, []), (.putfield 236, [12, 13, 1340]), (.aload_n 0, []), (.iconst 0, []), (.putfield 245, [12, 15, 1342]), (.aload_n 0, []), (.iconst 1, []), (.aload_n 0, []), (.getfield 263, [12, 18, 1345]), (.isub, []), (.putfield 266, [12, 19, 1346]), (.aload_n 0, []), (.iconst 0, []), (.putfield 269, [12, 20, 1347]), (.aload_n 0, []), (.getfield 49, [12, 24, 1351]), (.aload_n 0, []), (.getfield 266, [12, 19, 1346]), (.iconst 0, []), (.iastore, []), (.aload_n 0, []), (.getfield 52, [12, 25, 1352]), (.aload_n 0, []), (.getfield 266, [12, 19, 1346]), (.iconst 0, []), (.iastore, []), (.aload_n 0, []), (.getfield 55, [12, 26, 1353]), (.aload_n 0, []), (.getfield 266, [12, 19, 1346]), (.iconst 0, [])])
def pb_X12_read_4 : sm_B := (104, none, 5, [(.iastore, []), (.aload_n 0, []), (.getfield 61, [12, 28, 1355]), (.aload_n 0, []), (.getfield 266, [12, 19, 1346]), (.iconst 0, []), (.iastore, []), (.aload_n 0, []), (.getfield 70, [12, 31, 1358]), (.aload_n 0, []), (.getfield 266, [12, 19, 1346]), (.iconst 0, []), (.iastore, []), (.aload_n 0, []), (.getfield 98, [12, 40, 1367]), (.aload_n 0, []), (.getfield 266, [12, 19, 1346]), (.iconst 0, []), (.iastore, []), (.aload_n 0, []), (.getfield 104, [12, 42, 1369]), (.aload_n 0, []), (.getfield 266, [12, 19, 1346]), (.iconst 0, []), (.iastore, []), (.iconst 0, []), (.istore_n 1, [])])
def pb_X12_read_5 : sm_B := (147, some [0, 1], 0, [(.iload_n 1, []), (.bipush 36, []), (.if_icmp .ge 35, [10, 6])])
def pb_X12_read_6 : sm_B := (153, none, 0, [(.aload_n 0, []), (.getfield 58, [12, 27, 1354]), (.bipush 36, []), (.aload_n 0, []), (.getfield 266, [12, 19, 1346]), (.imul, []), (.iload_n 1, []), (.iadd, []), (.iload_n 1, []), (.bipush 7, []), (.irem, []), (.ifCond .ne 7, [8, 7])])
def pb_X12_read_7 : sm_B := (173, none, 0, [(.iconst 0, []), (.goto 4, [9])])
def pb_X12_read_8 : sm_B := (177, none, 9, [(.iconst (-1), [])])
def pb_X12_read_9 : sm_B := (178, none, 0, [(.iastore, []), (.iinc 1 1, []), (.goto (-35), [5])])
def pb_X12_read_10 : sm_B := (185, none, 11, [(.iconst 0, []), (.istore_n 1, [])])
def pb_X12_read_11 : sm_B := (187, some [0, 1], 0, [(.iload_n 1, []), (.bipush 10, []), (.if_icmp .ge 24, [13, 12])])
def pb_X12_read_12 : sm_B := (193, none, 0, [(.aload_n 0, []), (.getfield 101, [12, 41, 1368]), (.bipush 10, []), (.aload_n 0, []), (.getfield 266, [12, 19, 1346]), (.imul, []), (.iload_n 1, []), (.iadd, []), (.iconst (-1), []), (.iastore, []), (.iinc 1 1, []), (.goto (-24), [11])])
def pb_X12_read_13 : sm_B := (214, some [0], 0, [(.aload_n 0, []), (.getfield 236, [12, 13, 1340]), (.ifCond .ne 18, [16, 14])])
def pb_X12_read_14 : sm_B := (221, none, 0, [(.aload_n 0, []), (.iconst 0, []), (.invokevirtual 254, [143, 1, 12, 1672, 1674, 3080, 0]), (.ifCond .ne 10, [16, 15])])
def pb_X12_read_15 : sm_B := (229, none, 0, [(.aload_n 0, []), (.invokevirtual 272, [195, 1, 12, 1676, 1678, 3081, 0]), (.goto (-19), [13])])
def pb_X12_read_16 : sm_B := (236, none, 0, [(.aload_n 0, []), (.aload_n 0, []), (.getfield 236, [12, 13, 1340]), (.ifCond .le 10, [18, 17])])
def pb_X12_read_17 : sm_B := (244, none, 0, [(.aload_n 0, []), (.getfield 242, [12, 14, 1341]), (.goto 18, [21])])
def pb_X12_read_18 : sm_B := (251, none, 0, [(.aload_n 0, []), (.getfield 245, [12, 15, 1342]), (.ifCond .le 10, [20, 19])])
def pb_X12_read_19 : sm_B := (258, none, 0, [(.aload_n 0, []), (.getfield 248, [12, 16, 1343]), (.goto 4, [21])])
def pb_X12_read_20 : sm_B := (265, none, 21, [(.iconst (-1), [])])
def pb_X12_read_21 : sm_B := (266, some [0], 0, [(.putfield 37, [12, 17, 1344]), (.aload_n 0, []), (.getfield 236, [12, 13, 1340]), (.ifCond .le 8, [23, 22])])
def pb_X12_read_22 : sm_B := (276, none, 0, [(.aload_n 0, []), (.getfield 236, [12, 13, 1340]), (.ireturn, [])])
def pb_X12_read_23 : sm_B := (281, none, 0, [(.aload_n 0, []), (.getfield 245, [12, 15, 1342]), (.ifCond .le 8, [25, 24])])
def pb_X12_read_24 : sm_B := (288, none, 0, [(.aload_n 0, []), (.getfield 245, [12, 15, 1342]), (.ireturn, [])])
def pb_X12_read_25 : sm_B := (293, none, 26, [(.aload_n 0, []), (.aload_n 0, []), (.getfield 266, [12, 19, 1346]), (.putfield 263, [12, 18, 1345]), (.iconst 0, []), (.istore_n 1, [])])
def pb_X12_read_26 : sm_B := (303, some [0, 1], 0, [(.iload_n 1, []), (.bipush 10, []), (.if_icmp .ge 23, [28, 27])])
def pb_X12_read_27 : sm_B := (309, none, 0, [(.aload_n 0, []), (.getfield 107, [12, 43, 1370]), (.iload_n 1, []), (.iconst 0, []), (.bastore, []), (.aload_n 0, []), (.getfield 110, [12, 44, 1371]), (.iload_n 1, []), (.iconst (-1), []), (.iastore, []), (.iinc 1 1, []), (.goto (-23), [26])])
def pb_X12_read_28 : sm_B := (329, none, 29, [(.iconst 0, []), (.istore_n 1, [])])
def pb_X12_read_29 : sm_B := (331, some [0, 1], 0, [(.iload_n 1, []), (.bipush 60, []), (.if_icmp .ge 16, [31, 30])])
def pb_X12_read_30 : sm_B := (337, none, 0, [(.aload_n 0, []), (.getfield 177, [12, 86, 1413]), (.iload_n 1, []), (.iconst (-1), []), (.iastore, []), (.iinc 1 1, []), (.goto (-16), [29])])
def pb_X12_read_31 : sm_B := (350, none, 0, [(.aload_n 0, []), (.iconst 0, []), (.putfield 275, [12, 54, 1381]), (.aload_n 0, []), (.invokevirtual 278, [210, 1, 12, 1744, 1746, 3338, 0]), (.aload_n 0, []), (.invokevirtual 281, [161, 1, 12, 1748, 1750, 3339, 0]), (.aload_n 0, []), (.invokevirtual 284, [110, 1, 12, 1752, 1754, 3340, 0]), (.iconst 0, []), (.ireturn, [])])
def pm_X12_read : sm_M := (yX12_read, prog_14_method_19_code, 2, (some .int), 0, 0, 0, [1650, 14, 1], [
  pb_X12_read_0,
  pb_X12_read_1,
  pb_X12_read_2,
  pb_X12_read_3,
  pb_X12_read_4,
  pb_X12_read_5,
  pb_X12_read_6,
  pb_X12_read_7,
  pb_X12_read_8,
  pb_X12_read_9,
  pb_X12_read_10,
  pb_X12_read_11,
  pb_X12_read_12,
  pb_X12_read_13,
  pb_X12_read_14,
  pb_X12_read_15,
  pb_X12_read_16,
  pb_X12_read_17,
  pb_X12_read_18,
  pb_X12_read_19,
  pb_X12_read_20,
  pb_X12_read_21,
  pb_X12_read_22,
  pb_X12_read_23,
  pb_X12_read_24,
  pb_X12_read_25,
  pb_X12_read_26,
  pb_X12_read_27,
  pb_X12_read_28,
  pb_X12_read_29,
  pb_X12_read_30,
  pb_X12_read_31])
def pm_X12_ring : sm_M := (yX12_ring, prog_14_method_93_code, 1, (some .int), 0, 0, 0, [1994, 14, 1], [
  (0, some [0], 0, [(.aload_n 0, []), (.invokevirtual 501, [185, 1, 12, 1995, 1997, 3849, 0]), (.ifCond .eq 10, [2, 1])]),
  (7, none, 0, [(.aload_n 0, []), (.getfield 492, [12, 87, 1414]), (.goto 5, [3])]),
  (14, none, 3, [(.bipush (-2), [])]),
  (16, none, 0, [(.ireturn, [])])])
def pm_X12_ringAt : sm_M := (yX12_ringAt, prog_14_method_94_code, 2, (some .int), 1, 0, 0, [2006, 14, 1], [
  (0, some [0, 1], 0, [(.aload_n 0, []), (.invokevirtual 501, [185, 1, 12, 1995, 1997, 3849, 0]), (.ifCond .eq 26, [3, 1])]),
  (7, none, 0, [(.iload_n 1, []), (.iconst 0, []), (.aload_n 0, []), (.getfield 492, [12, 87, 1414]), (.iconst 1, []), (.isub, []), (.invokestatic 373, [141, 0, 0, 1768, 1769, 0, 0]), (.ifCond .eq 12, [3, 2])]),
  (21, none, 0, [(.aload_n 0, []), (.getfield 180, [12, 88, 1415]), (.iload_n 1, []), (.iaload, []), (.goto 4, [4])]),
  (30, none, 4, [(.iconst (-1), [])]),
  (31, none, 0, [(.ireturn, [])])])
def pm_X12_rings : sm_M := (yX12_rings, prog_14_method_92_code, 2, (some .boolean), 0, 0, 0, [1998, 14, 1], [
  (0, some [0], 0, [(.aload_n 0, []), (.iconst 0, []), (.putfield 492, [12, 87, 1414]), (.aload_n 0, []), (.invokevirtual 495, [193, 1, 12, 1999, 1984, 1985, 0]), (.iconst 1, []), (.if_icmp .ne 5, [2, 1])]),
  (13, none, 0, [(.iconst 0, []), (.ireturn, [])]),
  (15, none, 3, [(.iconst 0, []), (.istore_n 1, [])]),
  (17, some [0, 1], 0, [(.iload_n 1, []), (.bipush 10, []), (.aload_n 0, []), (.getfield 340, [12, 46, 1373]), (.iadd, []), (.if_icmp .ge 69, [10, 4])]),
  (28, none, 0, [(.aload_n 0, []), (.getfield 177, [12, 86, 1413]), (.iload_n 1, []), (.iaload, []), (.iconst (-1), []), (.if_icmp .ne 6, [6, 5])]),
  (38, none, 0, [(.goto 50, [9])]),
  (41, none, 0, [(.aload_n 0, []), (.getfield 183, [12, 89, 1416]), (.iload_n 1, []), (.iconst 1, []), (.bastore, []), (.aload_n 0, []), (.invokevirtual 488, [173, 1, 12, 1987, 1989, 3848, 0]), (.ifCond .ne 6, [8, 7])]),
  (55, none, 0, [(.goto 33, [9])]),
  (58, none, 9, [(.aload_n 0, []), (.getfield 183, [12, 89, 1416]), (.iload_n 1, []), (.iconst 0, []), (.bastore, []), (.aload_n 0, []), (.getfield 180, [12, 88, 1415]), (.aload_n 0, []), (.getfield 492, [12, 87, 1414]), (.iload_n 1, []), (.invokestatic 498, [205, 0, 0, 2000, 2001, 0, 0]), (.iastore, []), (.aload_n 0, []), (.dup, []), (.getfield 492, [12, 87, 1414]), (.iconst 1, []), (.iadd, []), (.putfield 492, [12, 87, 1414])]),
  (88, none, 0, [(.iinc 1 1, []), (.goto (-74), [3])]),
  (94, none, 0, [(.iconst 1, []), (.ireturn, [])])])
def pm_X12_searches : sm_M := (yX12_searches, prog_14_method_50_code, 7, (some .int), 1, 0, 0, [1850, 14, 1], [
  (0, some [0, 1], 0, [(.aload_n 0, []), (.iconst 0, []), (.putfield 388, [12, 63, 1390]), (.aload_n 0, []), (.iconst 0, []), (.putfield 391, [12, 64, 1391]), (.iconst 0, []), (.istore_n 2, []), (.aload_n 0, []), (.getfield 382, [12, 59, 1386]), (.ifCond .ne 5, [2, 1])]),
  (19, none, 0, [(.iconst 1, []), (.ireturn, [])]),
  (21, none, 3, [(.iconst 0, []), (.istore_n 3, []), (.aload_n 0, []), (.getfield 146, [12, 62, 1389]), (.iconst 0, []), (.iconst 0, []), (.iastore, [])]),
  (30, some [0, 1, 2, 3], 0, [(.iload_n 3, []), (.ifCond .lt 209, [20, 4])]),
  (34, none, 0, [(.aload_n 0, []), (.getfield 146, [12, 62, 1389]), (.iload_n 3, []), (.iaload, []), (.aload_n 0, []), (.aload_n 0, []), (.getfield 140, [12, 60, 1387]), (.iload_n 3, []), (.iaload, []), (.invokevirtual 394, [114, 1, 12, 1851, 1853, 3593, 0]), (.if_icmp .ne 9, [6, 5])]),
  (53, none, 0, [(.iinc 3 (-1), []), (.goto (-26), [3])]),
  (59, none, 0, [(.aload_n 0, []), (.getfield 146, [12, 62, 1389]), (.iload_n 3, []), (.iaload, []), (.istore 4, []), (.aload_n 0, []), (.getfield 146, [12, 62, 1389]), (.iload_n 3, []), (.dup2, []), (.iaload, []), (.iconst 1, []), (.iadd, []), (.iastore, []), (.aload_n 0, []), (.dup, []), (.getfield 388, [12, 63, 1390]), (.iconst 1, []), (.iadd, []), (.putfield 388, [12, 63, 1390]), (.aload_n 0, []), (.getfield 388, [12, 63, 1390]), (.sipush 1000, []), (.if_icmp .le 10, [8, 7])]),
  (97, none, 0, [(.aload_n 0, []), (.iconst 1, []), (.putfield 391, [12, 64, 1391]), (.iload_n 2, []), (.ireturn, [])]),
  (104, none, 0, [(.aload_n 0, []), (.iload_n 3, []), (.iload_n 3, []), (.iconst 1, []), (.iadd, []), (.invokevirtual 397, [116, 1, 12, 1855, 1857, 3594, 0]), (.aload_n 0, []), (.iload_n 3, []), (.iconst 1, []), (.iadd, []), (.putfield 343, [12, 52, 1379]), (.aload_n 0, []), (.aload_n 0, []), (.getfield 140, [12, 60, 1387]), (.iload_n 3, []), (.iaload, []), (.iload 4, []), (.invokevirtual 400, [115, 1, 12, 1859, 1861, 3595, 0]), (.istore 5, []), (.iload_n 1, []), (.ifCond .eq 17, [10, 9])]),
  (137, none, 10, [(.aload_n 0, []), (.aload_n 0, []), (.getfield 140, [12, 60, 1387]), (.iload_n 3, []), (.iaload, []), (.iload 4, []), (.iload 5, []), (.invokevirtual 403, [168, 1, 12, 1863, 1865, 3596, 0])]),
  (151, none, 0, [(.iload 5, []), (.ifCond .ne 6, [12, 11])]),
  (156, none, 0, [(.goto (-126), [3])]),
  (159, none, 0, [(.aload_n 0, []), (.getfield 143, [12, 61, 1388]), (.iload_n 3, []), (.iload 4, []), (.iastore, []), (.iload_n 3, []), (.iconst 1, []), (.iadd, []), (.aload_n 0, []), (.getfield 382, [12, 59, 1386]), (.if_icmp .ge 16, [14, 13])]),
  (177, none, 0, [(.iinc 3 1, []), (.aload_n 0, []), (.getfield 146, [12, 62, 1389]), (.iload_n 3, []), (.iconst 0, []), (.iastore, []), (.goto (-157), [3])]),
  (190, none, 0, [(.iload_n 1, []), (.ifCond .ne 5, [16, 15])]),
  (194, none, 0, [(.iconst 1, []), (.ireturn, [])]),
  (196, none, 17, [(.iconst 0, []), (.istore 6, [])]),
  (199, some [0, 1, 2, 3, 6], 0, [(.iload 6, []), (.aload_n 0, []), (.getfield 382, [12, 59, 1386]), (.if_icmp .ge 29, [19, 18])]),
  (208, none, 0, [(.aload_n 0, []), (.getfield 156, [12, 75, 1402]), (.bipush 55, []), (.iload_n 2, []), (.imul, []), (.iload 6, []), (.iadd, []), (.aload_n 0, []), (.getfield 143, [12, 61, 1388]), (.iload 6, []), (.iaload, []), (.i2b, []), (.bastore, []), (.iinc 6 1, []), (.goto (-32), [17])]),
  (234, none, 0, [(.iinc 2 1, []), (.goto (-207), [3])]),
  (240, none, 0, [(.iload_n 2, []), (.ireturn, [])])])
def pm_X12_sees : sm_M := (yX12_sees, prog_14_method_100_code, 5, none, 1, 0, 0, [2030, 14, 1], [
  (0, some [0, 1], 0, [(.aload_n 0, []), (.getfield 61, [12, 28, 1355]), (.aload_n 0, []), (.getfield 263, [12, 18, 1345]), (.iaload, []), (.iconst 1, []), (.iadd, []), (.istore_n 2, []), (.aload_n 0, []), (.getfield 125, [12, 50, 1377]), (.sipush 169, []), (.iload_n 1, []), (.imul, []), (.bipush 13, []), (.iload_n 2, []), (.imul, []), (.iadd, []), (.iaload, []), (.ineg, []), (.istore_n 3, []), (.aload_n 0, []), (.getfield 125, [12, 50, 1377]), (.sipush 169, []), (.iload_n 1, []), (.imul, []), (.iload_n 2, []), (.iadd, []), (.iaload, []), (.istore 4, []), (.aload_n 0, []), (.getfield 510, [12, 90, 1417]), (.ifCond .eq 11, [2, 1])]),
  (50, none, 0, [(.iload_n 3, []), (.aload_n 0, []), (.getfield 519, [12, 91, 1418]), (.if_icmp .ge 8, [3, 2])]),
  (58, none, 3, [(.aload_n 0, []), (.iload_n 3, []), (.putfield 519, [12, 91, 1418])]),
  (63, none, 0, [(.aload_n 0, []), (.getfield 510, [12, 90, 1417]), (.ifCond .eq 12, [5, 4])]),
  (70, none, 0, [(.iload 4, []), (.aload_n 0, []), (.getfield 516, [12, 92, 1419]), (.if_icmp .le 9, [6, 5])]),
  (79, none, 6, [(.aload_n 0, []), (.iload 4, []), (.putfield 516, [12, 92, 1419])]),
  (85, none, 0, [(.aload_n 0, []), (.iconst 1, []), (.putfield 510, [12, 90, 1417]), (.return_, [])])])
def pm_X12_set : sm_M := (yX12_set, prog_14_method_73_code, 3, (some .boolean), 2, 0, 0, [1918, 14, 1], [
  (0, some [0, 1, 2], 0, [(.aload_n 0, []), (.iload_n 1, []), (.invokevirtual 370, [150, 1, 12, 1764, 1766, 3341, 0]), (.ifCond .eq 16, [3, 1])]),
  (8, none, 0, [(.iload_n 2, []), (.iconst (-1), []), (.if_icmp .eq 13, [4, 2])]),
  (13, none, 0, [(.aload_n 0, []), (.iload_n 2, []), (.invokevirtual 452, [147, 1, 12, 1907, 1909, 3841, 0]), (.ifCond .ne 5, [4, 3])]),
  (21, none, 0, [(.iconst 0, []), (.ireturn, [])]),
  (23, none, 0, [(.aload_n 0, []), (.getfield 110, [12, 44, 1371]), (.iload_n 1, []), (.iload_n 2, []), (.iastore, []), (.iconst 1, []), (.ireturn, [])])])
def pm_X12_setWays : sm_M := (yX12_setWays, prog_14_method_113_code, 3, (some .int), 0, 0, 0, [2094, 14, 1], [
  (0, some [0], 0, [(.aload_n 0, []), (.invokevirtual 434, [135, 1, 12, 1811, 1813, 3343, 0]), (.aload_n 0, []), (.getfield 425, [12, 71, 1398]), (.ifCond .eq 6, [2, 1])]),
  (11, none, 0, [(.bipush (-3), []), (.ireturn, [])]),
  (14, none, 3, [(.iconst 0, []), (.istore_n 1, []), (.iconst 0, []), (.istore_n 2, [])]),
  (18, some [0, 1, 2], 0, [(.iload_n 2, []), (.aload_n 0, []), (.getfield 416, [12, 73, 1400]), (.if_icmp .ge 20, [7, 4])]),
  (26, none, 0, [(.aload_n 0, []), (.iload_n 2, []), (.invokevirtual 544, [157, 1, 12, 2095, 2097, 4099, 0]), (.ifCond .eq 6, [6, 5])]),
  (34, none, 6, [(.iinc 1 1, [])]),
  (37, none, 0, [(.iinc 2 1, []), (.goto (-22), [3])]),
  (43, none, 0, [(.iload_n 1, []), (.ireturn, [])])])
def pb_X12_sets_0 : sm_B := (0, some [0], 0, [(.aload_n 0, []), (.getfield 291, [12, 79, 1406]), (.ifCond .eq 4, [2, 1])])
def pb_X12_sets_1 : sm_B := (7, none, 0, [(.return_, [])])
def pb_X12_sets_2 : sm_B := (8, none, 3, [(.aload_n 0, []), (.iconst 1, []), (.putfield 291, [12, 79, 1406]), (.aload_n 0, []), (.iconst 0, []), (.putfield 458, [12, 80, 1407]), (.aload_n 0, []), (.iconst 0, []), (.putfield 461, [12, 82, 1409]), (.aload_n 0, []), (.iconst 0, []), (.putfield 464, [12, 84, 1411]), (.aload_n 0, []), (.iconst 0, []), (.putfield 376, [12, 68, 1395]), (.aload_n 0, []), (.iconst 0, []), (.putfield 385, [12, 67, 1394]), (.aload_n 0, []), (.invokevirtual 467, [194, 1, 12, 1939, 1941, 3844, 0]), (.istore_n 1, []), (.aload_n 0, []), (.invokevirtual 407, [208, 1, 12, 1815, 1817, 3584, 0]), (.iload_n 1, []), (.iconst (-1), []), (.ixor, []), (.iand, []), (.istore_n 2, []), (.iconst 0, []), (.istore_n 3, [])])
def pb_X12_sets_3 : sm_B := (54, some [0, 1, 2, 3], 0, [(.iload_n 3, []), (.sipush 1024, []), (.if_icmp .ge 48, [9, 4])])
def pb_X12_sets_4 : sm_B := (61, none, 0, [(.aload_n 0, []), (.getfield 458, [12, 80, 1407]), (.ifCond .ne 41, [9, 5])])
def pb_X12_sets_5 : sm_B := (68, none, 0, [(.iload_n 3, []), (.iload_n 2, []), (.iconst (-1), []), (.ixor, []), (.iand, []), (.ifCond .eq 6, [7, 6])])
def pb_X12_sets_6 : sm_B := (76, none, 0, [(.goto 24, [8])])
def pb_X12_sets_7 : sm_B := (79, none, 8, [(.aload_n 0, []), (.getfield 168, [12, 81, 1408]), (.iload_n 3, []), (.aload_n 0, []), (.iload_n 1, []), (.iload_n 3, []), (.ior, []), (.invokevirtual 470, [138, 1, 12, 1943, 1945, 3845, 0]), (.bastore, []), (.aload_n 0, []), (.aload_n 0, []), (.getfield 391, [12, 64, 1391]), (.putfield 458, [12, 80, 1407])])
def pb_X12_sets_8 : sm_B := (100, none, 0, [(.iinc 3 1, []), (.goto (-49), [3])])
def pb_X12_sets_9 : sm_B := (106, none, 0, [(.aload_n 0, []), (.getfield 458, [12, 80, 1407]), (.ifCond .eq 4, [11, 10])])
def pb_X12_sets_10 : sm_B := (113, none, 0, [(.return_, [])])
def pb_X12_sets_11 : sm_B := (114, none, 12, [(.iconst 0, []), (.istore_n 3, [])])
def pb_X12_sets_12 : sm_B := (116, some [0, 2, 3], 0, [(.iload_n 3, []), (.iload_n 2, []), (.invokestatic 473, [105, 0, 0, 1947, 1948, 0, 0]), (.if_icmp .gt 218, [41, 13])])
def pb_X12_sets_13 : sm_B := (124, none, 14, [(.iconst 0, []), (.istore 4, [])])
def pb_X12_sets_14 : sm_B := (127, some [0, 2, 3, 4], 0, [(.iload 4, []), (.sipush 1024, []), (.if_icmp .ge 201, [40, 15])])
def pb_X12_sets_15 : sm_B := (135, none, 0, [(.iload 4, []), (.iload_n 2, []), (.iconst (-1), []), (.ixor, []), (.iand, []), (.ifCond .ne 186, [39, 16])])
def pb_X12_sets_16 : sm_B := (144, none, 0, [(.iload 4, []), (.invokestatic 473, [105, 0, 0, 1947, 1948, 0, 0]), (.iload_n 3, []), (.if_icmp .eq 6, [18, 17])])
def pb_X12_sets_17 : sm_B := (153, none, 0, [(.goto 174, [39])])
def pb_X12_sets_18 : sm_B := (156, none, 0, [(.aload_n 0, []), (.getfield 168, [12, 81, 1408]), (.iload 4, []), (.baload, []), (.ifCond .ne 7, [20, 19])])
def pb_X12_sets_19 : sm_B := (166, none, 0, [(.iconst 1, []), (.goto 4, [21])])
def pb_X12_sets_20 : sm_B := (170, none, 21, [(.iconst 0, [])])
def pb_X12_sets_21 : sm_B := (171, none, 22, [(.istore 5, []), (.aload_n 0, []), (.getfield 168, [12, 81, 1408]), (.iload_n 2, []), (.iload 4, []), (.iconst (-1), []), (.ixor, []), (.iand, []), (.baload, []), (.istore 6, []), (.iconst 0, []), (.istore 7, [])])
def pb_X12_sets_22 : sm_B := (189, some [0, 2, 3, 4, 5, 6, 7], 0, [(.iload 7, []), (.bipush 10, []), (.if_icmp .ge 82, [35, 23])])
def pb_X12_sets_23 : sm_B := (196, none, 0, [(.iload 4, []), (.iload 7, []), (.ishr, []), (.iconst 1, []), (.iand, []), (.ifCond .ne 6, [25, 24])])
def pb_X12_sets_24 : sm_B := (206, none, 0, [(.goto 63, [34])])
def pb_X12_sets_25 : sm_B := (209, none, 0, [(.iload 5, []), (.ifCond .eq 24, [28, 26])])
def pb_X12_sets_26 : sm_B := (214, none, 0, [(.aload_n 0, []), (.getfield 168, [12, 81, 1408]), (.iload 4, []), (.iconst 1, []), (.iload 7, []), (.ishl, []), (.iconst (-1), []), (.ixor, []), (.iand, []), (.baload, []), (.ifCond .eq 7, [28, 27])])
def pb_X12_sets_27 : sm_B := (231, none, 0, [(.iconst 1, []), (.goto 4, [29])])
def pb_X12_sets_28 : sm_B := (235, none, 29, [(.iconst 0, [])])
def pb_X12_sets_29 : sm_B := (236, some [0, 2, 3, 4, 6, 7], 0, [(.istore 5, []), (.iload 6, []), (.ifCond .eq 26, [32, 30])])
def pb_X12_sets_30 : sm_B := (243, none, 0, [(.aload_n 0, []), (.getfield 168, [12, 81, 1408]), (.iload_n 2, []), (.iload 4, []), (.iconst (-1), []), (.ixor, []), (.iand, []), (.iconst 1, []), (.iload 7, []), (.ishl, []), (.ior, []), (.baload, []), (.ifCond .ne 7, [32, 31])])
def pb_X12_sets_31 : sm_B := (262, none, 0, [(.iconst 1, []), (.goto 4, [33])])
def pb_X12_sets_32 : sm_B := (266, none, 33, [(.iconst 0, [])])
def pb_X12_sets_33 : sm_B := (267, some [0, 2, 3, 4, 5, 7], 34, [(.istore 6, [])])
def pb_X12_sets_34 : sm_B := (269, some [0, 2, 3, 4, 5, 6, 7], 0, [(.iinc 7 1, []), (.goto (-83), [22])])
def pb_X12_sets_35 : sm_B := (275, none, 0, [(.iload 5, []), (.ifCond .eq 24, [37, 36])])
def pb_X12_sets_36 : sm_B := (280, none, 37, [(.aload_n 0, []), (.getfield 171, [12, 83, 1410]), (.aload_n 0, []), (.getfield 461, [12, 82, 1409]), (.iload 4, []), (.iastore, []), (.aload_n 0, []), (.dup, []), (.getfield 461, [12, 82, 1409]), (.iconst 1, []), (.iadd, []), (.putfield 461, [12, 82, 1409])])
def pb_X12_sets_37 : sm_B := (301, none, 0, [(.iload 6, []), (.ifCond .eq 24, [39, 38])])
def pb_X12_sets_38 : sm_B := (306, none, 39, [(.aload_n 0, []), (.getfield 174, [12, 85, 1412]), (.aload_n 0, []), (.getfield 464, [12, 84, 1411]), (.iload 4, []), (.iastore, []), (.aload_n 0, []), (.dup, []), (.getfield 464, [12, 84, 1411]), (.iconst 1, []), (.iadd, []), (.putfield 464, [12, 84, 1411])])
def pb_X12_sets_39 : sm_B := (327, none, 0, [(.iinc 4 1, []), (.goto (-203), [14])])
def pb_X12_sets_40 : sm_B := (333, none, 0, [(.iinc 3 1, []), (.goto (-220), [12])])
def pb_X12_sets_41 : sm_B := (339, none, 0, [(.return_, [])])
def pm_X12_sets : sm_M := (yX12_sets, prog_14_method_79_code, 8, none, 0, 0, 0, [1938, 14, 1], [
  pb_X12_sets_0,
  pb_X12_sets_1,
  pb_X12_sets_2,
  pb_X12_sets_3,
  pb_X12_sets_4,
  pb_X12_sets_5,
  pb_X12_sets_6,
  pb_X12_sets_7,
  pb_X12_sets_8,
  pb_X12_sets_9,
  pb_X12_sets_10,
  pb_X12_sets_11,
  pb_X12_sets_12,
  pb_X12_sets_13,
  pb_X12_sets_14,
  pb_X12_sets_15,
  pb_X12_sets_16,
  pb_X12_sets_17,
  pb_X12_sets_18,
  pb_X12_sets_19,
  pb_X12_sets_20,
  pb_X12_sets_21,
  pb_X12_sets_22,
  pb_X12_sets_23,
  pb_X12_sets_24,
  pb_X12_sets_25,
  pb_X12_sets_26,
  pb_X12_sets_27,
  pb_X12_sets_28,
  pb_X12_sets_29,
  pb_X12_sets_30,
  pb_X12_sets_31,
  pb_X12_sets_32,
  pb_X12_sets_33,
  pb_X12_sets_34,
  pb_X12_sets_35,
  pb_X12_sets_36,
  pb_X12_sets_37,
  pb_X12_sets_38,
  pb_X12_sets_39,
  pb_X12_sets_40,
  pb_X12_sets_41])
def pm_X12_sign : sm_M := (yX12_sign, prog_14_method_13_code, 1, (some .int), 1, 0, 0, [1671, 14, 1], [
  (0, some [0], 0, [(.iload_n 0, []), (.bipush 59, []), (.if_icmp .ne 7, [2, 1])]),
  (6, none, 0, [(.iconst 4, []), (.goto 25, [7])]),
  (10, none, 0, [(.iload_n 0, []), (.bipush 58, []), (.if_icmp .ne 7, [4, 3])]),
  (16, none, 0, [(.iconst 5, []), (.goto 15, [7])]),
  (20, none, 0, [(.iload_n 0, []), (.bipush 45, []), (.if_icmp .ne 8, [6, 5])]),
  (26, none, 0, [(.bipush 9, []), (.goto 4, [7])]),
  (31, none, 7, [(.iconst 3, [])]),
  (32, none, 0, [(.ireturn, [])])])
def pm_X12_slack : sm_M := (yX12_slack, prog_14_method_114_code, 5, (some .int), 3, 0, 0, [2102, 14, 1], [
  (0, some [0, 1, 2, 3], 0, [(.aload_n 0, []), (.iload_n 2, []), (.invokevirtual 370, [150, 1, 12, 1764, 1766, 3341, 0]), (.ifCond .ne 5, [2, 1])]),
  (8, none, 0, [(.iconst (-1), []), (.ireturn, [])]),
  (10, none, 0, [(.aload_n 0, []), (.iload_n 1, []), (.invokevirtual 437, [97, 1, 12, 1871, 1873, 3597, 0]), (.istore 4, []), (.iload 4, []), (.ifCond .eq 6, [4, 3])]),
  (22, none, 0, [(.iload 4, []), (.ireturn, [])]),
  (25, none, 0, [(.aload_n 0, []), (.iload_n 1, []), (.invokevirtual 544, [157, 1, 12, 2095, 2097, 4099, 0]), (.ifCond .eq 15, [6, 5])]),
  (33, none, 0, [(.aload_n 0, []), (.iload_n 2, []), (.iconst 1, []), (.iadd, []), (.iconst 0, []), (.iload_n 3, []), (.invokevirtual 448, [129, 1, 12, 1891, 1893, 3840, 0]), (.goto 5, [7])]),
  (45, none, 7, [(.bipush (-2), [])]),
  (47, none, 0, [(.ireturn, [])])])
def pm_X12_stands : sm_M := (yX12_stands, prog_14_method_91_code, 2, (some .int), 0, 0, 0, [1986, 14, 1], [
  (0, some [0], 1, [(.iconst 0, []), (.istore_n 1, [])]),
  (2, some [0, 1], 0, [(.iload_n 1, []), (.bipush 60, []), (.if_icmp .ge 16, [3, 2])]),
  (8, none, 0, [(.aload_n 0, []), (.getfield 183, [12, 89, 1416]), (.iload_n 1, []), (.iconst 0, []), (.bastore, []), (.iinc 1 1, []), (.goto (-16), [1])]),
  (21, none, 0, [(.aload_n 0, []), (.invokevirtual 488, [173, 1, 12, 1987, 1989, 3848, 0]), (.ifCond .eq 7, [5, 4])]),
  (28, none, 0, [(.iconst 1, []), (.goto 4, [6])]),
  (32, none, 6, [(.iconst 0, [])]),
  (33, none, 0, [(.ireturn, [])])])
def pm_X12_sureOnes : sm_M := (yX12_sureOnes, prog_14_method_78_code, 3, (some .int), 0, 0, 0, [1942, 14, 1], [
  (0, some [0], 1, [(.iconst 0, []), (.istore_n 1, []), (.iconst 0, []), (.istore_n 2, [])]),
  (4, some [0, 1, 2], 0, [(.iload_n 2, []), (.aload_n 0, []), (.getfield 70, [12, 31, 1358]), (.aload_n 0, []), (.getfield 263, [12, 18, 1345]), (.iaload, []), (.if_icmp .ge 32, [5, 2])]),
  (17, none, 0, [(.aload_n 0, []), (.getfield 73, [12, 32, 1359]), (.bipush 10, []), (.aload_n 0, []), (.getfield 263, [12, 18, 1345]), (.imul, []), (.iload_n 2, []), (.iadd, []), (.baload, []), (.ifCond .eq 9, [4, 3])]),
  (34, none, 4, [(.iload_n 1, []), (.iconst 1, []), (.iload_n 2, []), (.ishl, []), (.ior, []), (.istore_n 1, [])]),
  (40, none, 0, [(.iinc 2 1, []), (.goto (-39), [1])]),
  (46, none, 0, [(.iload_n 1, []), (.ireturn, [])])])
def pm_X12_tell : sm_M := (yX12_tell, prog_14_method_22_code, 1, none, 0, 0, 0, [1679, 14, 1], [
  (0, some [0], 0, [(.aload_n 0, []), (.getfield 20, [12, 5, 1333]), (.aload_n 0, []), (.getfield 239, [12, 11, 1339]), (.iaload, []), (.tableswitch 301 20 33 #[71, 104, 138, 171, 301, 301, 204, 204, 301, 301, 301, 301, 237, 269], [29, 1, 5, 9, 13, 29, 29, 17, 17, 29, 29, 29, 29, 21, 25])]),
  (80, none, 0, [(.aload_n 0, []), (.getfield 49, [12, 24, 1351]), (.aload_n 0, []), (.getfield 266, [12, 19, 1346]), (.iaload, []), (.iconst 4, []), (.if_icmp .ne 8, [3, 2])]),
  (93, none, 3, [(.aload_n 0, []), (.iconst 2, []), (.invokevirtual 251, [123, 1, 12, 1680, 1682, 3082, 0])]),
  (98, some [0], 0, [(.aload_n 0, []), (.getfield 236, [12, 13, 1340]), (.ifCond .ne 213, [30, 4])]),
  (105, none, 0, [(.aload_n 0, []), (.iconst 0, []), (.invokevirtual 294, [197, 1, 12, 1684, 1686, 3083, 0]), (.goto 205, [30])]),
  (113, none, 0, [(.aload_n 0, []), (.getfield 52, [12, 25, 1352]), (.aload_n 0, []), (.getfield 266, [12, 19, 1346]), (.iaload, []), (.bipush 6, []), (.if_icmp .ne 8, [7, 6])]),
  (127, none, 7, [(.aload_n 0, []), (.iconst 2, []), (.invokevirtual 251, [123, 1, 12, 1680, 1682, 3082, 0])]),
  (132, some [0], 0, [(.aload_n 0, []), (.getfield 236, [12, 13, 1340]), (.ifCond .ne 179, [30, 8])]),
  (139, none, 0, [(.aload_n 0, []), (.iconst 1, []), (.invokevirtual 294, [197, 1, 12, 1684, 1686, 3083, 0]), (.goto 171, [30])]),
  (147, none, 0, [(.aload_n 0, []), (.getfield 55, [12, 26, 1353]), (.aload_n 0, []), (.getfield 266, [12, 19, 1346]), (.iaload, []), (.bipush 12, []), (.if_icmp .ne 8, [11, 10])]),
  (161, none, 11, [(.aload_n 0, []), (.iconst 2, []), (.invokevirtual 251, [123, 1, 12, 1680, 1682, 3082, 0])]),
  (166, some [0], 0, [(.aload_n 0, []), (.getfield 236, [12, 13, 1340]), (.ifCond .ne 145, [30, 12])]),
  (173, none, 0, [(.aload_n 0, []), (.invokevirtual 297, [203, 1, 12, 1708, 1710, 3329, 0]), (.goto 138, [30])]),
  (180, none, 0, [(.aload_n 0, []), (.getfield 61, [12, 28, 1355]), (.aload_n 0, []), (.getfield 266, [12, 19, 1346]), (.iaload, []), (.bipush 10, []), (.if_icmp .ne 8, [15, 14])]),
  (194, none, 15, [(.aload_n 0, []), (.iconst 2, []), (.invokevirtual 251, [123, 1, 12, 1680, 1682, 3082, 0])]),
  (199, some [0], 0, [(.aload_n 0, []), (.getfield 236, [12, 13, 1340]), (.ifCond .ne 112, [30, 16])]),
  (206, none, 0, [(.aload_n 0, []), (.invokevirtual 300, [202, 1, 12, 1720, 1722, 3332, 0]), (.goto 105, [30])]),
  (213, none, 0, [(.aload_n 0, []), (.getfield 70, [12, 31, 1358]), (.aload_n 0, []), (.getfield 266, [12, 19, 1346]), (.iaload, []), (.bipush 10, []), (.if_icmp .ne 8, [19, 18])]),
  (227, none, 19, [(.aload_n 0, []), (.iconst 2, []), (.invokevirtual 251, [123, 1, 12, 1680, 1682, 3082, 0])]),
  (232, some [0], 0, [(.aload_n 0, []), (.getfield 236, [12, 13, 1340]), (.ifCond .ne 79, [30, 20])]),
  (239, none, 0, [(.aload_n 0, []), (.invokevirtual 303, [200, 1, 12, 1724, 1726, 3333, 0]), (.goto 72, [30])]),
  (246, none, 0, [(.aload_n 0, []), (.getfield 98, [12, 40, 1367]), (.aload_n 0, []), (.getfield 266, [12, 19, 1346]), (.iaload, []), (.iconst 4, []), (.if_icmp .ne 8, [23, 22])]),
  (259, none, 23, [(.aload_n 0, []), (.iconst 2, []), (.invokevirtual 251, [123, 1, 12, 1680, 1682, 3082, 0])]),
  (264, some [0], 0, [(.aload_n 0, []), (.getfield 236, [12, 13, 1340]), (.ifCond .ne 47, [30, 24])]),
  (271, none, 0, [(.aload_n 0, []), (.invokevirtual 306, [198, 1, 12, 1736, 1738, 3336, 0]), (.goto 40, [30])]),
  (278, none, 0, [(.aload_n 0, []), (.getfield 104, [12, 42, 1369]), (.aload_n 0, []), (.getfield 266, [12, 19, 1346]), (.iaload, []), (.iconst 5, []), (.if_icmp .ne 8, [27, 26])]),
  (291, none, 27, [(.aload_n 0, []), (.iconst 2, []), (.invokevirtual 251, [123, 1, 12, 1680, 1682, 3082, 0])]),
  (296, some [0], 0, [(.aload_n 0, []), (.getfield 236, [12, 13, 1340]), (.ifCond .ne 15, [30, 28])]),
  (303, none, 0, [(.aload_n 0, []), (.invokevirtual 309, [199, 1, 12, 1740, 1742, 3337, 0]), (.goto 8, [30])]),
  (310, none, 30, [(.aload_n 0, []), (.iconst 1, []), (.invokevirtual 251, [123, 1, 12, 1680, 1682, 3082, 0])]),
  (315, some [], 0, [(.return_, [])])])
def pm_X12_tellAll : sm_M := (yX12_tellAll, prog_14_method_32_code, 3, none, 1, 0, 0, [1731, 14, 1], [
  (0, some [0, 1], 1, [(.aload_n 0, []), (.getfield 83, [12, 35, 1362]), (.iload_n 1, []), (.iconst 0, []), (.iastore, []), (.iconst 1, []), (.istore_n 2, [])]),
  (9, some [0, 1, 2], 0, [(.iload_n 2, []), (.ifCond .eq 79, [10, 2])]),
  (13, none, 0, [(.aload_n 0, []), (.getfield 236, [12, 13, 1340]), (.ifCond .ne 72, [10, 3])]),
  (20, none, 0, [(.aload_n 0, []), (.iconst 3, []), (.iload_n 1, []), (.imul, []), (.aload_n 0, []), (.getfield 83, [12, 35, 1362]), (.iload_n 1, []), (.iaload, []), (.iadd, []), (.invokevirtual 337, [201, 1, 12, 1732, 1734, 3335, 0]), (.aload_n 0, []), (.getfield 236, [12, 13, 1340]), (.ifCond .le 4, [5, 4])]),
  (41, none, 0, [(.return_, [])]),
  (42, none, 0, [(.aload_n 0, []), (.getfield 83, [12, 35, 1362]), (.iload_n 1, []), (.dup2, []), (.iaload, []), (.iconst 1, []), (.iadd, []), (.iastore, []), (.aload_n 0, []), (.bipush 29, []), (.invokevirtual 254, [143, 1, 12, 1672, 1674, 3080, 0]), (.istore_n 2, []), (.iload_n 2, []), (.ifCond .eq 18, [8, 6])]),
  (63, none, 0, [(.aload_n 0, []), (.getfield 83, [12, 35, 1362]), (.iload_n 1, []), (.iaload, []), (.iconst 3, []), (.if_icmp .ne 8, [8, 7])]),
  (73, none, 8, [(.aload_n 0, []), (.iconst 2, []), (.invokevirtual 251, [123, 1, 12, 1680, 1682, 3082, 0])]),
  (78, none, 0, [(.iload_n 2, []), (.ifCond .eq (-70), [1, 9])]),
  (82, none, 0, [(.aload_n 0, []), (.invokevirtual 257, [136, 1, 12, 1688, 1690, 3084, 0]), (.goto (-77), [1])]),
  (89, none, 0, [(.return_, [])])])
def pm_X12_tellName : sm_M := (yX12_tellName, prog_14_method_27_code, 3, none, 1, 0, 0, [1687, 14, 1], [
  (0, some [0, 1], 0, [(.aload_n 0, []), (.invokevirtual 257, [136, 1, 12, 1688, 1690, 3084, 0]), (.aload_n 0, []), (.invokevirtual 319, [166, 1, 12, 1692, 1694, 3085, 0]), (.istore_n 2, []), (.aload_n 0, []), (.iconst 4, []), (.invokevirtual 312, [165, 1, 12, 1696, 1698, 3086, 0]), (.aload_n 0, []), (.getfield 236, [12, 13, 1340]), (.ifCond .le 4, [2, 1])]),
  (21, none, 0, [(.return_, [])]),
  (22, none, 0, [(.aload_n 0, []), (.iload_n 2, []), (.iload_n 1, []), (.iload_n 1, []), (.ifCond .ne 15, [4, 3])]),
  (29, none, 0, [(.aload_n 0, []), (.getfield 49, [12, 24, 1351]), (.aload_n 0, []), (.getfield 266, [12, 19, 1346]), (.iaload, []), (.goto 12, [5])]),
  (41, none, 5, [(.aload_n 0, []), (.getfield 52, [12, 25, 1352]), (.aload_n 0, []), (.getfield 266, [12, 19, 1346]), (.iaload, [])]),
  (50, none, 0, [(.invokevirtual 323, [155, 1, 12, 1704, 1706, 3328, 0]), (.iload_n 1, []), (.ifCond .ne 19, [7, 6])]),
  (57, none, 0, [(.aload_n 0, []), (.getfield 49, [12, 24, 1351]), (.aload_n 0, []), (.getfield 266, [12, 19, 1346]), (.dup2, []), (.iaload, []), (.iconst 1, []), (.iadd, []), (.iastore, []), (.goto 16, [8])]),
  (73, none, 8, [(.aload_n 0, []), (.getfield 52, [12, 25, 1352]), (.aload_n 0, []), (.getfield 266, [12, 19, 1346]), (.dup2, []), (.iaload, []), (.iconst 1, []), (.iadd, []), (.iastore, [])]),
  (86, none, 0, [(.return_, [])])])
def pb_X12_tellOpen_0 : sm_B := (0, some [0], 0, [(.aload_n 0, []), (.invokevirtual 257, [136, 1, 12, 1688, 1690, 3084, 0]), (.aload_n 0, []), (.getfield 239, [12, 11, 1339]), (.istore_n 1, []), (.aload_n 0, []), (.iconst 2, []), (.invokevirtual 327, [154, 1, 12, 1712, 1714, 3330, 0]), (.istore_n 2, []), (.aload_n 0, []), (.bipush 31, []), (.invokevirtual 312, [165, 1, 12, 1696, 1698, 3086, 0]), (.aload_n 0, []), (.getfield 239, [12, 11, 1339]), (.istore_n 3, []), (.aload_n 0, []), (.getfield 236, [12, 13, 1340]), (.ifCond .le 7, [2, 1])])
def pb_X12_tellOpen_1 : sm_B := (33, none, 0, [(.iconst 0, []), (.goto 8, [3])])
def pb_X12_tellOpen_2 : sm_B := (37, none, 3, [(.aload_n 0, []), (.iconst 2, []), (.invokevirtual 327, [154, 1, 12, 1712, 1714, 3330, 0])])
def pb_X12_tellOpen_3 : sm_B := (42, none, 0, [(.istore 4, []), (.sipush 240, []), (.iconst 4, []), (.aload_n 0, []), (.getfield 266, [12, 19, 1346]), (.imul, []), (.iadd, []), (.aload_n 0, []), (.getfield 98, [12, 40, 1367]), (.aload_n 0, []), (.getfield 266, [12, 19, 1346]), (.iaload, []), (.iadd, []), (.istore 5, []), (.aload_n 0, []), (.getfield 236, [12, 13, 1340]), (.ifCond .ne 32, [7, 4])])
def pb_X12_tellOpen_4 : sm_B := (73, none, 0, [(.iload_n 2, []), (.iconst (-1), []), (.if_icmp .eq 27, [7, 5])])
def pb_X12_tellOpen_5 : sm_B := (78, none, 0, [(.aload_n 0, []), (.getfield 101, [12, 41, 1368]), (.bipush 10, []), (.aload_n 0, []), (.getfield 266, [12, 19, 1346]), (.imul, []), (.iload_n 2, []), (.iadd, []), (.iaload, []), (.iconst (-1), []), (.if_icmp .eq 9, [7, 6])])
def pb_X12_tellOpen_6 : sm_B := (96, none, 7, [(.aload_n 0, []), (.iconst 5, []), (.iload_n 1, []), (.invokevirtual 315, [213, 1, 12, 1700, 1702, 3087, 0])])
def pb_X12_tellOpen_7 : sm_B := (102, some [0, 2, 3, 4, 5], 0, [(.aload_n 0, []), (.getfield 236, [12, 13, 1340]), (.ifCond .ne 40, [12, 8])])
def pb_X12_tellOpen_8 : sm_B := (109, none, 0, [(.iload 4, []), (.iconst (-1), []), (.if_icmp .eq 34, [12, 9])])
def pb_X12_tellOpen_9 : sm_B := (115, none, 0, [(.iload 4, []), (.iload_n 2, []), (.if_icmp .eq 22, [11, 10])])
def pb_X12_tellOpen_10 : sm_B := (121, none, 0, [(.aload_n 0, []), (.getfield 101, [12, 41, 1368]), (.bipush 10, []), (.aload_n 0, []), (.getfield 266, [12, 19, 1346]), (.imul, []), (.iload 4, []), (.iadd, []), (.iaload, []), (.iconst (-1), []), (.if_icmp .eq 9, [12, 11])])
def pb_X12_tellOpen_11 : sm_B := (140, none, 12, [(.aload_n 0, []), (.iconst 5, []), (.iload_n 3, []), (.invokevirtual 315, [213, 1, 12, 1700, 1702, 3087, 0])])
def pb_X12_tellOpen_12 : sm_B := (146, some [0, 2, 3, 4, 5], 13, [(.sipush 240, []), (.iconst 4, []), (.aload_n 0, []), (.getfield 266, [12, 19, 1346]), (.imul, []), (.iadd, []), (.istore 6, [])])
def pb_X12_tellOpen_13 : sm_B := (158, some [0, 2, 3, 4, 5, 6], 0, [(.iload 6, []), (.iload 5, []), (.if_icmp .ge 38, [19, 14])])
def pb_X12_tellOpen_14 : sm_B := (165, none, 0, [(.aload_n 0, []), (.getfield 236, [12, 13, 1340]), (.ifCond .ne 31, [19, 15])])
def pb_X12_tellOpen_15 : sm_B := (172, none, 0, [(.iload_n 2, []), (.iconst (-1), []), (.if_icmp .eq 26, [19, 16])])
def pb_X12_tellOpen_16 : sm_B := (177, none, 0, [(.aload_n 0, []), (.getfield 89, [12, 37, 1364]), (.iload 6, []), (.iaload, []), (.iload_n 2, []), (.if_icmp .ne 9, [18, 17])])
def pb_X12_tellOpen_17 : sm_B := (188, none, 18, [(.aload_n 0, []), (.iconst 5, []), (.iload_n 3, []), (.invokevirtual 315, [213, 1, 12, 1700, 1702, 3087, 0])])
def pb_X12_tellOpen_18 : sm_B := (194, none, 0, [(.iinc 6 1, []), (.goto (-39), [13])])
def pb_X12_tellOpen_19 : sm_B := (200, none, 0, [(.aload_n 0, []), (.getfield 86, [12, 36, 1363]), (.iload 5, []), (.iload_n 2, []), (.iastore, []), (.aload_n 0, []), (.getfield 89, [12, 37, 1364]), (.iload 5, []), (.iload 4, []), (.iastore, []), (.aload_n 0, []), (.getfield 92, [12, 38, 1365]), (.iload 5, []), (.aload_n 0, []), (.iconst 0, []), (.invokevirtual 330, [169, 1, 12, 1716, 1718, 3331, 0]), (.iastore, []), (.aload_n 0, []), (.getfield 95, [12, 39, 1366]), (.iload 5, []), (.aload_n 0, []), (.iconst 0, []), (.invokevirtual 330, [169, 1, 12, 1716, 1718, 3331, 0]), (.iastore, []), (.aload_n 0, []), (.iconst 4, []), (.invokevirtual 312, [165, 1, 12, 1696, 1698, 3086, 0]), (.aload_n 0, []), (.getfield 236, [12, 13, 1340]), (.ifCond .le 4, [21, 20])])
def pb_X12_tellOpen_20 : sm_B := (253, none, 0, [(.return_, [])])
def pb_X12_tellOpen_21 : sm_B := (254, none, 0, [(.iload_n 2, []), (.iconst (-1), []), (.if_icmp .eq 19, [23, 22])])
def pb_X12_tellOpen_22 : sm_B := (259, none, 23, [(.aload_n 0, []), (.getfield 101, [12, 41, 1368]), (.bipush 10, []), (.aload_n 0, []), (.getfield 266, [12, 19, 1346]), (.imul, []), (.iload_n 2, []), (.iadd, []), (.iload 5, []), (.iastore, [])])
def pb_X12_tellOpen_23 : sm_B := (275, none, 0, [(.aload_n 0, []), (.getfield 98, [12, 40, 1367]), (.aload_n 0, []), (.getfield 266, [12, 19, 1346]), (.dup2, []), (.iaload, []), (.iconst 1, []), (.iadd, []), (.iastore, []), (.return_, [])])
def pm_X12_tellOpen : sm_M := (yX12_tellOpen, prog_14_method_33_code, 7, none, 0, 0, 0, [1739, 14, 1], [
  pb_X12_tellOpen_0,
  pb_X12_tellOpen_1,
  pb_X12_tellOpen_2,
  pb_X12_tellOpen_3,
  pb_X12_tellOpen_4,
  pb_X12_tellOpen_5,
  pb_X12_tellOpen_6,
  pb_X12_tellOpen_7,
  pb_X12_tellOpen_8,
  pb_X12_tellOpen_9,
  pb_X12_tellOpen_10,
  pb_X12_tellOpen_11,
  pb_X12_tellOpen_12,
  pb_X12_tellOpen_13,
  pb_X12_tellOpen_14,
  pb_X12_tellOpen_15,
  pb_X12_tellOpen_16,
  pb_X12_tellOpen_17,
  pb_X12_tellOpen_18,
  pb_X12_tellOpen_19,
  pb_X12_tellOpen_20,
  pb_X12_tellOpen_21,
  pb_X12_tellOpen_22,
  pb_X12_tellOpen_23])
def pm_X12_tellQuestion : sm_M := (yX12_tellQuestion, prog_14_method_34_code, 2, none, 0, 0, 0, [1743, 14, 1], [
  (0, some [0], 0, [(.aload_n 0, []), (.invokevirtual 257, [136, 1, 12, 1688, 1690, 3084, 0]), (.aload_n 0, []), (.invokevirtual 319, [166, 1, 12, 1692, 1694, 3085, 0]), (.istore_n 1, []), (.aload_n 0, []), (.iconst 5, []), (.invokevirtual 312, [165, 1, 12, 1696, 1698, 3086, 0]), (.aload_n 0, []), (.getfield 236, [12, 13, 1340]), (.ifCond .ne 28, [2, 1])]),
  (21, none, 2, [(.aload_n 0, []), (.sipush 248, []), (.bipush 6, []), (.aload_n 0, []), (.getfield 266, [12, 19, 1346]), (.imul, []), (.iadd, []), (.aload_n 0, []), (.getfield 104, [12, 42, 1369]), (.aload_n 0, []), (.getfield 266, [12, 19, 1346]), (.iaload, []), (.iadd, []), (.invokevirtual 337, [201, 1, 12, 1732, 1734, 3335, 0])]),
  (46, none, 0, [(.aload_n 0, []), (.iconst 4, []), (.invokevirtual 312, [165, 1, 12, 1696, 1698, 3086, 0]), (.aload_n 0, []), (.getfield 236, [12, 13, 1340]), (.ifCond .le 4, [4, 3])]),
  (58, none, 0, [(.return_, [])]),
  (59, none, 0, [(.aload_n 0, []), (.iload_n 1, []), (.iconst 4, []), (.aload_n 0, []), (.getfield 104, [12, 42, 1369]), (.aload_n 0, []), (.getfield 266, [12, 19, 1346]), (.iaload, []), (.invokevirtual 323, [155, 1, 12, 1704, 1706, 3328, 0]), (.aload_n 0, []), (.getfield 104, [12, 42, 1369]), (.aload_n 0, []), (.getfield 266, [12, 19, 1346]), (.dup2, []), (.iaload, []), (.iconst 1, []), (.iadd, []), (.iastore, []), (.return_, [])])])
def pb_X12_tellSaying_0 : sm_B := (0, some [0], 0, [(.bipush 10, []), (.aload_n 0, []), (.getfield 266, [12, 19, 1346]), (.imul, []), (.aload_n 0, []), (.getfield 70, [12, 31, 1358]), (.aload_n 0, []), (.getfield 266, [12, 19, 1346]), (.iaload, []), (.iadd, []), (.istore_n 1, []), (.aload_n 0, []), (.getfield 73, [12, 32, 1359]), (.iload_n 1, []), (.aload_n 0, []), (.bipush 27, []), (.invokevirtual 254, [143, 1, 12, 1672, 1674, 3080, 0]), (.bastore, []), (.aload_n 0, []), (.invokevirtual 257, [136, 1, 12, 1688, 1690, 3084, 0]), (.aload_n 0, []), (.invokevirtual 319, [166, 1, 12, 1692, 1694, 3085, 0]), (.istore_n 2, []), (.aload_n 0, []), (.getfield 77, [12, 33, 1360]), (.iload_n 1, []), (.iconst 1, []), (.iastore, []), (.aload_n 0, []), (.bipush 34, []), (.invokevirtual 254, [143, 1, 12, 1672, 1674, 3080, 0]), (.ifCond .eq 87, [9, 1])])
def pb_X12_tellSaying_1 : sm_B := (55, none, 0, [(.aload_n 0, []), (.getfield 73, [12, 32, 1359]), (.iload_n 1, []), (.baload, []), (.ifCond .ne 78, [9, 2])])
def pb_X12_tellSaying_2 : sm_B := (64, none, 0, [(.aload_n 0, []), (.invokevirtual 257, [136, 1, 12, 1688, 1690, 3084, 0]), (.aload_n 0, []), (.getfield 239, [12, 11, 1339]), (.istore_n 3, []), (.aload_n 0, []), (.getfield 77, [12, 33, 1360]), (.iload_n 1, []), (.aload_n 0, []), (.iconst 2, []), (.invokevirtual 254, [143, 1, 12, 1672, 1674, 3080, 0]), (.ifCond .eq 15, [4, 3])])
def pb_X12_tellSaying_3 : sm_B := (86, none, 0, [(.aload_n 0, []), (.getfield 27, [12, 7, 1335]), (.aload_n 0, []), (.getfield 239, [12, 11, 1339]), (.iaload, []), (.goto 4, [5])])
def pb_X12_tellSaying_4 : sm_B := (98, none, 5, [(.iconst 0, [])])
def pb_X12_tellSaying_5 : sm_B := (99, none, 0, [(.iastore, []), (.aload_n 0, []), (.iconst 2, []), (.invokevirtual 312, [165, 1, 12, 1696, 1698, 3086, 0]), (.aload_n 0, []), (.getfield 236, [12, 13, 1340]), (.ifCond .ne 30, [9, 6])])
def pb_X12_tellSaying_6 : sm_B := (112, none, 0, [(.aload_n 0, []), (.getfield 77, [12, 33, 1360]), (.iload_n 1, []), (.iaload, []), (.iconst 1, []), (.if_icmp .lt 14, [8, 7])])
def pb_X12_tellSaying_7 : sm_B := (122, none, 0, [(.aload_n 0, []), (.getfield 77, [12, 33, 1360]), (.iload_n 1, []), (.iaload, []), (.bipush 100, []), (.if_icmp .le 9, [9, 8])])
def pb_X12_tellSaying_8 : sm_B := (133, none, 9, [(.aload_n 0, []), (.iconst 5, []), (.iload_n 3, []), (.invokevirtual 315, [213, 1, 12, 1700, 1702, 3087, 0])])
def pb_X12_tellSaying_9 : sm_B := (139, none, 10, [(.aload_n 0, []), (.iconst 5, []), (.invokevirtual 312, [165, 1, 12, 1696, 1698, 3086, 0]), (.aload_n 0, []), (.getfield 80, [12, 34, 1361]), (.iload_n 1, []), (.iconst 0, []), (.iastore, []), (.iconst 1, []), (.istore_n 3, [])])
def pb_X12_tellSaying_10 : sm_B := (153, some [0, 1, 2, 3], 0, [(.iload_n 3, []), (.ifCond .eq 79, [19, 11])])
def pb_X12_tellSaying_11 : sm_B := (157, none, 0, [(.aload_n 0, []), (.getfield 236, [12, 13, 1340]), (.ifCond .ne 72, [19, 12])])
def pb_X12_tellSaying_12 : sm_B := (164, none, 0, [(.aload_n 0, []), (.iconst 4, []), (.iload_n 1, []), (.imul, []), (.aload_n 0, []), (.getfield 80, [12, 34, 1361]), (.iload_n 1, []), (.iaload, []), (.iadd, []), (.invokevirtual 334, [196, 1, 12, 1728, 1730, 3334, 0]), (.aload_n 0, []), (.getfield 236, [12, 13, 1340]), (.ifCond .le 4, [14, 13])])
def pb_X12_tellSaying_13 : sm_B := (185, none, 0, [(.return_, [])])
def pb_X12_tellSaying_14 : sm_B := (186, none, 0, [(.aload_n 0, []), (.getfield 80, [12, 34, 1361]), (.iload_n 1, []), (.dup2, []), (.iaload, []), (.iconst 1, []), (.iadd, []), (.iastore, []), (.aload_n 0, []), (.bipush 28, []), (.invokevirtual 254, [143, 1, 12, 1672, 1674, 3080, 0]), (.istore_n 3, []), (.iload_n 3, []), (.ifCond .eq 18, [17, 15])])
def pb_X12_tellSaying_15 : sm_B := (207, none, 0, [(.aload_n 0, []), (.getfield 80, [12, 34, 1361]), (.iload_n 1, []), (.iaload, []), (.iconst 4, []), (.if_icmp .ne 8, [17, 16])])
def pb_X12_tellSaying_16 : sm_B := (217, none, 17, [(.aload_n 0, []), (.iconst 2, []), (.invokevirtual 251, [123, 1, 12, 1680, 1682, 3082, 0])])
def pb_X12_tellSaying_17 : sm_B := (222, none, 0, [(.iload_n 3, []), (.ifCond .eq (-70), [10, 18])])
def pb_X12_tellSaying_18 : sm_B := (226, none, 0, [(.aload_n 0, []), (.invokevirtual 257, [136, 1, 12, 1688, 1690, 3084, 0]), (.goto (-77), [10])])
def pb_X12_tellSaying_19 : sm_B := (233, none, 0, [(.aload_n 0, []), (.iconst 4, []), (.invokevirtual 312, [165, 1, 12, 1696, 1698, 3086, 0]), (.aload_n 0, []), (.getfield 236, [12, 13, 1340]), (.ifCond .le 4, [21, 20])])
def pb_X12_tellSaying_20 : sm_B := (245, none, 0, [(.return_, [])])
def pb_X12_tellSaying_21 : sm_B := (246, none, 0, [(.aload_n 0, []), (.iload_n 2, []), (.iconst 3, []), (.aload_n 0, []), (.getfield 70, [12, 31, 1358]), (.aload_n 0, []), (.getfield 266, [12, 19, 1346]), (.iaload, []), (.invokevirtual 323, [155, 1, 12, 1704, 1706, 3328, 0]), (.aload_n 0, []), (.getfield 70, [12, 31, 1358]), (.aload_n 0, []), (.getfield 266, [12, 19, 1346]), (.dup2, []), (.iaload, []), (.iconst 1, []), (.iadd, []), (.iastore, []), (.return_, [])])
def pm_X12_tellSaying : sm_M := (yX12_tellSaying, prog_14_method_31_code, 4, none, 0, 0, 0, [1727, 14, 1], [
  pb_X12_tellSaying_0,
  pb_X12_tellSaying_1,
  pb_X12_tellSaying_2,
  pb_X12_tellSaying_3,
  pb_X12_tellSaying_4,
  pb_X12_tellSaying_5,
  pb_X12_tellSaying_6,
  pb_X12_tellSaying_7,
  pb_X12_tellSaying_8,
  pb_X12_tellSaying_9,
  pb_X12_tellSaying_10,
  pb_X12_tellSaying_11,
  pb_X12_tellSaying_12,
  pb_X12_tellSaying_13,
  pb_X12_tellSaying_14,
  pb_X12_tellSaying_15,
  pb_X12_tellSaying_16,
  pb_X12_tellSaying_17,
  pb_X12_tellSaying_18,
  pb_X12_tellSaying_19,
  pb_X12_tellSaying_20,
  pb_X12_tellSaying_21])
def pm_X12_tellSpan : sm_M := (yX12_tellSpan, prog_14_method_30_code, 4, none, 1, 0, 0, [1735, 14, 1], [
  (0, some [0, 1], 0, [(.aload_n 0, []), (.iconst 2, []), (.invokevirtual 327, [154, 1, 12, 1712, 1714, 3330, 0]), (.istore_n 2, []), (.aload_n 0, []), (.bipush 30, []), (.invokevirtual 254, [143, 1, 12, 1672, 1674, 3080, 0]), (.istore_n 3, []), (.iload_n 3, []), (.ifCond .eq 17, [2, 1])]),
  (17, none, 0, [(.aload_n 0, []), (.invokevirtual 257, [136, 1, 12, 1688, 1690, 3084, 0]), (.aload_n 0, []), (.getfield 89, [12, 37, 1364]), (.iload_n 1, []), (.iconst (-1), []), (.iastore, []), (.goto 31, [6])]),
  (31, none, 0, [(.aload_n 0, []), (.bipush 31, []), (.invokevirtual 312, [165, 1, 12, 1696, 1698, 3086, 0]), (.aload_n 0, []), (.getfield 89, [12, 37, 1364]), (.iload_n 1, []), (.aload_n 0, []), (.getfield 236, [12, 13, 1340]), (.ifCond .le 7, [4, 3])]),
  (49, none, 0, [(.iconst 0, []), (.goto 8, [5])]),
  (53, none, 5, [(.aload_n 0, []), (.iconst 2, []), (.invokevirtual 327, [154, 1, 12, 1712, 1714, 3330, 0])]),
  (58, none, 6, [(.iastore, [])]),
  (59, none, 0, [(.aload_n 0, []), (.getfield 86, [12, 36, 1363]), (.iload_n 1, []), (.iload_n 2, []), (.iastore, []), (.aload_n 0, []), (.getfield 92, [12, 38, 1365]), (.iload_n 1, []), (.aload_n 0, []), (.iload_n 3, []), (.ifCond .ne 7, [8, 7])]),
  (76, none, 0, [(.iconst 1, []), (.goto 4, [9])]),
  (80, none, 9, [(.iconst 0, [])]),
  (81, none, 0, [(.invokevirtual 330, [169, 1, 12, 1716, 1718, 3331, 0]), (.iastore, []), (.aload_n 0, []), (.getfield 95, [12, 39, 1366]), (.iload_n 1, []), (.aload_n 0, []), (.iload_n 3, []), (.ifCond .ne 7, [11, 10])]),
  (95, none, 0, [(.iconst 1, []), (.goto 4, [12])]),
  (99, none, 12, [(.iconst 0, [])]),
  (100, none, 0, [(.invokevirtual 330, [169, 1, 12, 1716, 1718, 3331, 0]), (.iastore, []), (.return_, [])])])
def pm_X12_tellTime : sm_M := (yX12_tellTime, prog_14_method_29_code, 5, none, 0, 0, 0, [1723, 14, 1], [
  (0, some [0], 0, [(.aload_n 0, []), (.invokevirtual 257, [136, 1, 12, 1688, 1690, 3084, 0]), (.aload_n 0, []), (.invokevirtual 319, [166, 1, 12, 1692, 1694, 3085, 0]), (.istore_n 1, []), (.bipush 10, []), (.aload_n 0, []), (.getfield 266, [12, 19, 1346]), (.imul, []), (.aload_n 0, []), (.getfield 61, [12, 28, 1355]), (.aload_n 0, []), (.getfield 266, [12, 19, 1346]), (.iaload, []), (.iadd, []), (.istore_n 2, []), (.iconst (-1), []), (.istore_n 3, []), (.iconst (-1), []), (.istore 4, []), (.aload_n 0, []), (.bipush 24, []), (.invokevirtual 254, [143, 1, 12, 1672, 1674, 3080, 0]), (.ifCond .eq 26, [2, 1])]),
  (41, none, 2, [(.aload_n 0, []), (.invokevirtual 257, [136, 1, 12, 1688, 1690, 3084, 0]), (.aload_n 0, []), (.iconst 0, []), (.invokevirtual 327, [154, 1, 12, 1712, 1714, 3330, 0]), (.istore_n 3, []), (.aload_n 0, []), (.bipush 25, []), (.invokevirtual 312, [165, 1, 12, 1696, 1698, 3086, 0]), (.aload_n 0, []), (.iconst 1, []), (.invokevirtual 327, [154, 1, 12, 1712, 1714, 3330, 0]), (.istore 4, [])]),
  (64, none, 0, [(.aload_n 0, []), (.iconst 4, []), (.invokevirtual 312, [165, 1, 12, 1696, 1698, 3086, 0]), (.aload_n 0, []), (.getfield 236, [12, 13, 1340]), (.ifCond .le 4, [4, 3])]),
  (76, none, 0, [(.return_, [])]),
  (77, none, 0, [(.aload_n 0, []), (.getfield 64, [12, 29, 1356]), (.iload_n 2, []), (.iload_n 3, []), (.iastore, []), (.aload_n 0, []), (.getfield 67, [12, 30, 1357]), (.iload_n 2, []), (.iload 4, []), (.iastore, []), (.aload_n 0, []), (.iload_n 1, []), (.iconst 2, []), (.aload_n 0, []), (.getfield 61, [12, 28, 1355]), (.aload_n 0, []), (.getfield 266, [12, 19, 1346]), (.iaload, []), (.invokevirtual 323, [155, 1, 12, 1704, 1706, 3328, 0]), (.aload_n 0, []), (.getfield 61, [12, 28, 1355]), (.aload_n 0, []), (.getfield 266, [12, 19, 1346]), (.dup2, []), (.iaload, []), (.iconst 1, []), (.iadd, []), (.iastore, []), (.return_, [])])])
def pm_X12_tellWay : sm_M := (yX12_tellWay, prog_14_method_28_code, 6, none, 0, 0, 0, [1711, 14, 1], [
  (0, some [0], 0, [(.aload_n 0, []), (.invokevirtual 257, [136, 1, 12, 1688, 1690, 3084, 0]), (.aload_n 0, []), (.iconst 1, []), (.invokevirtual 327, [154, 1, 12, 1712, 1714, 3330, 0]), (.istore_n 1, []), (.aload_n 0, []), (.getfield 239, [12, 11, 1339]), (.istore_n 2, []), (.aload_n 0, []), (.iconst 1, []), (.invokevirtual 327, [154, 1, 12, 1712, 1714, 3330, 0]), (.istore_n 3, []), (.aload_n 0, []), (.getfield 236, [12, 13, 1340]), (.ifCond .ne 19, [4, 1])]),
  (28, none, 0, [(.iload_n 1, []), (.iload_n 3, []), (.if_icmp .ne 14, [4, 2])]),
  (33, none, 0, [(.iload_n 1, []), (.iconst (-1), []), (.if_icmp .eq 9, [4, 3])]),
  (38, none, 4, [(.aload_n 0, []), (.iconst 5, []), (.iload_n 2, []), (.invokevirtual 315, [213, 1, 12, 1700, 1702, 3087, 0])]),
  (44, some [0, 1, 3], 0, [(.aload_n 0, []), (.iconst 0, []), (.invokevirtual 330, [169, 1, 12, 1716, 1718, 3331, 0]), (.istore 4, []), (.aload_n 0, []), (.iconst 4, []), (.invokevirtual 312, [165, 1, 12, 1696, 1698, 3086, 0]), (.aload_n 0, []), (.getfield 236, [12, 13, 1340]), (.ifCond .le 4, [6, 5])]),
  (63, none, 0, [(.return_, [])]),
  (64, none, 0, [(.aload_n 0, []), (.getfield 55, [12, 26, 1353]), (.aload_n 0, []), (.getfield 266, [12, 19, 1346]), (.dup2, []), (.iaload, []), (.iconst 1, []), (.iadd, []), (.iastore, []), (.iload_n 1, []), (.iconst (-1), []), (.if_icmp .eq 13, [9, 7])]),
  (82, none, 0, [(.iload_n 3, []), (.iconst (-1), []), (.if_icmp .eq 8, [9, 8])]),
  (87, none, 0, [(.iload_n 1, []), (.iload_n 3, []), (.if_icmp .ne 4, [10, 9])]),
  (92, none, 0, [(.return_, [])]),
  (93, none, 0, [(.bipush 36, []), (.aload_n 0, []), (.getfield 266, [12, 19, 1346]), (.imul, []), (.bipush 6, []), (.iload_n 1, []), (.imul, []), (.iadd, []), (.iload_n 3, []), (.iadd, []), (.istore 5, []), (.aload_n 0, []), (.getfield 58, [12, 27, 1354]), (.iload 5, []), (.iaload, []), (.iconst (-1), []), (.if_icmp .eq 16, [13, 11])]),
  (120, none, 0, [(.aload_n 0, []), (.getfield 58, [12, 27, 1354]), (.iload 5, []), (.iaload, []), (.iload 4, []), (.if_icmp .gt 4, [13, 12])]),
  (132, none, 0, [(.return_, [])]),
  (133, none, 0, [(.aload_n 0, []), (.getfield 58, [12, 27, 1354]), (.iload 5, []), (.iload 4, []), (.iastore, []), (.aload_n 0, []), (.getfield 58, [12, 27, 1354]), (.bipush 36, []), (.aload_n 0, []), (.getfield 266, [12, 19, 1346]), (.imul, []), (.bipush 6, []), (.iload_n 3, []), (.imul, []), (.iadd, []), (.iload_n 1, []), (.iadd, []), (.iload 4, []), (.iastore, []), (.return_, [])])])
def pm_X12_token : sm_M := (yX12_token, prog_14_method_11_code, 6, none, 4, 0, 0, [1662, 14, 1], [
  (0, some [0, 1, 2, 3, 4], 0, [(.aload_n 0, []), (.getfield 20, [12, 5, 1333]), (.aload_n 0, []), (.getfield 215, [12, 10, 1338]), (.iload_n 1, []), (.iastore, []), (.aload_n 0, []), (.getfield 24, [12, 6, 1334]), (.aload_n 0, []), (.getfield 215, [12, 10, 1338]), (.iload_n 2, []), (.iastore, []), (.aload_n 0, []), (.getfield 27, [12, 7, 1335]), (.aload_n 0, []), (.getfield 215, [12, 10, 1338]), (.iload_n 3, []), (.iastore, []), (.aload_n 0, []), (.getfield 30, [12, 8, 1336]), (.aload_n 0, []), (.getfield 215, [12, 10, 1338]), (.lload 4, []), (.lastore, []), (.aload_n 0, []), (.dup, []), (.getfield 215, [12, 10, 1338]), (.iconst 1, []), (.iadd, []), (.putfield 215, [12, 10, 1338]), (.return_, [])])])
def pm_X12_toldItem : sm_M := (yX12_toldItem, prog_14_method_88_code, 1, (some .int), 1, 0, 0, [2002, 14, 1], [
  (0, some [0], 0, [(.iload_n 0, []), (.bipush 10, []), (.if_icmp .ge 7, [2, 1])]),
  (6, none, 0, [(.iload_n 0, []), (.goto 7, [3])]),
  (10, none, 3, [(.iload_n 0, []), (.bipush 90, []), (.iadd, [])]),
  (14, none, 0, [(.ireturn, [])])])
def pm_X12_tried : sm_M := (yX12_tried, prog_14_method_111_code, 3, (some .int), 2, 0, 0, [2090, 14, 1], [
  (0, some [0, 1, 2], 0, [(.iload_n 1, []), (.ifCond .lt 12, [2, 1])]),
  (4, none, 0, [(.iload_n 2, []), (.iconst 0, []), (.iconst 2, []), (.invokestatic 373, [141, 0, 0, 1768, 1769, 0, 0]), (.ifCond .ne 5, [3, 2])]),
  (13, none, 0, [(.iconst (-1), []), (.ireturn, [])]),
  (15, none, 0, [(.aload_n 0, []), (.invokevirtual 434, [135, 1, 12, 1811, 1813, 3343, 0]), (.iload_n 1, []), (.aload_n 0, []), (.getfield 428, [12, 72, 1399]), (.if_icmp .ge 10, [5, 4])]),
  (27, none, 0, [(.iload_n 1, []), (.sipush 1000, []), (.if_icmp .lt 5, [6, 5])]),
  (34, none, 0, [(.iconst (-1), []), (.ireturn, [])]),
  (36, none, 0, [(.iload_n 2, []), (.ifCond .ne 15, [8, 7])]),
  (40, none, 0, [(.aload_n 0, []), (.getfield 159, [12, 76, 1403]), (.iload_n 1, []), (.baload, []), (.invokestatic 498, [205, 0, 0, 2000, 2001, 0, 0]), (.goto 31, [13])]),
  (52, none, 0, [(.iload_n 2, []), (.iconst 1, []), (.if_icmp .ne 12, [10, 9])]),
  (57, none, 0, [(.aload_n 0, []), (.getfield 162, [12, 77, 1404]), (.iload_n 1, []), (.baload, []), (.goto 17, [13])]),
  (66, none, 0, [(.aload_n 0, []), (.getfield 165, [12, 78, 1405]), (.iload_n 1, []), (.baload, []), (.ifCond .eq 7, [12, 11])]),
  (75, none, 0, [(.iconst 1, []), (.goto 4, [13])]),
  (79, none, 13, [(.iconst 0, [])]),
  (80, none, 0, [(.ireturn, [])])])
def pm_X12_trustIn : sm_M := (yX12_trustIn, prog_14_method_84_code, 4, (some .int), 1, 0, 0, [1969, 14, 1], [
  (0, some [0, 1], 1, [(.iconst 0, []), (.istore_n 2, []), (.iconst 0, []), (.istore_n 3, [])]),
  (4, some [0, 1, 2, 3], 0, [(.iload_n 3, []), (.bipush 10, []), (.if_icmp .ge 35, [5, 2])]),
  (10, none, 0, [(.iload_n 1, []), (.iload_n 3, []), (.ishr, []), (.iconst 1, []), (.iand, []), (.iconst 1, []), (.if_icmp .ne 20, [4, 3])]),
  (19, none, 4, [(.iload_n 2, []), (.aload_n 0, []), (.getfield 77, [12, 33, 1360]), (.bipush 10, []), (.aload_n 0, []), (.getfield 263, [12, 18, 1345]), (.imul, []), (.iload_n 3, []), (.iadd, []), (.iaload, []), (.iadd, []), (.istore_n 2, [])]),
  (36, none, 0, [(.iinc 3 1, []), (.goto (-35), [1])]),
  (42, none, 0, [(.iload_n 2, []), (.ireturn, [])])])
def pm_X12_undoubted : sm_M := (yX12_undoubted, prog_14_method_51_code, 3, (some .int), 0, 0, 0, [1818, 14, 1], [
  (0, some [0], 1, [(.iconst 0, []), (.istore_n 1, []), (.iconst 0, []), (.istore_n 2, [])]),
  (4, some [0, 1, 2], 0, [(.iload_n 2, []), (.aload_n 0, []), (.getfield 70, [12, 31, 1358]), (.aload_n 0, []), (.getfield 263, [12, 18, 1345]), (.iaload, []), (.if_icmp .ge 24, [5, 2])]),
  (17, none, 0, [(.aload_n 0, []), (.getfield 107, [12, 43, 1370]), (.iload_n 2, []), (.baload, []), (.ifCond .ne 9, [4, 3])]),
  (26, none, 4, [(.iload_n 1, []), (.iconst 1, []), (.iload_n 2, []), (.ishl, []), (.ior, []), (.istore_n 1, [])]),
  (32, none, 0, [(.iinc 2 1, []), (.goto (-31), [1])]),
  (38, none, 0, [(.iload_n 1, []), (.ireturn, [])])])
def pm_X12_walk : sm_M := (yX12_walk, prog_14_method_60_code, 4, (some .int), 2, 0, 0, [1802, 14, 1], [
  (0, some [0, 1, 2], 0, [(.iload_n 1, []), (.iconst 0, []), (.aload_n 0, []), (.getfield 52, [12, 25, 1352]), (.aload_n 0, []), (.getfield 263, [12, 18, 1345]), (.iaload, []), (.iconst 1, []), (.isub, []), (.invokestatic 373, [141, 0, 0, 1768, 1769, 0, 0]), (.ifCond .eq 22, [2, 1])]),
  (19, none, 0, [(.iload_n 2, []), (.iconst 0, []), (.aload_n 0, []), (.getfield 52, [12, 25, 1352]), (.aload_n 0, []), (.getfield 263, [12, 18, 1345]), (.iaload, []), (.iconst 1, []), (.isub, []), (.invokestatic 373, [141, 0, 0, 1768, 1769, 0, 0]), (.ifCond .ne 5, [3, 2])]),
  (38, none, 0, [(.iconst (-1), []), (.ireturn, [])]),
  (40, none, 0, [(.aload_n 0, []), (.getfield 113, [12, 45, 1372]), (.bipush 6, []), (.iload_n 1, []), (.imul, []), (.iload_n 2, []), (.iadd, []), (.iaload, []), (.istore_n 3, []), (.iload_n 3, []), (.iconst (-1), []), (.if_icmp .ne 8, [5, 4])]),
  (57, none, 0, [(.bipush (-2), []), (.goto 4, [6])]),
  (62, none, 6, [(.iload_n 3, [])]),
  (63, none, 0, [(.ireturn, [])])])
def pm_X12_walks : sm_M := (yX12_walks, prog_14_method_35_code, 5, none, 0, 0, 0, [1747, 14, 1], [
  (0, some [0], 1, [(.iconst 0, []), (.istore_n 1, [])]),
  (2, some [0, 1], 0, [(.iload_n 1, []), (.bipush 36, []), (.if_icmp .ge 29, [3, 2])]),
  (8, none, 0, [(.aload_n 0, []), (.getfield 113, [12, 45, 1372]), (.iload_n 1, []), (.aload_n 0, []), (.getfield 58, [12, 27, 1354]), (.bipush 36, []), (.aload_n 0, []), (.getfield 263, [12, 18, 1345]), (.imul, []), (.iload_n 1, []), (.iadd, []), (.iaload, []), (.iastore, []), (.iinc 1 1, []), (.goto (-29), [1])]),
  (34, none, 4, [(.iconst 0, []), (.istore_n 1, [])]),
  (36, some [0, 1], 0, [(.iload_n 1, []), (.bipush 6, []), (.if_icmp .ge 98, [14, 5])]),
  (42, none, 6, [(.iconst 0, []), (.istore_n 2, [])]),
  (44, some [0, 1, 2], 0, [(.iload_n 2, []), (.bipush 36, []), (.if_icmp .ge 84, [13, 7])]),
  (50, none, 0, [(.aload_n 0, []), (.getfield 113, [12, 45, 1372]), (.bipush 6, []), (.iload_n 2, []), (.bipush 6, []), (.idiv, []), (.imul, []), (.iload_n 1, []), (.iadd, []), (.iaload, []), (.istore_n 3, []), (.aload_n 0, []), (.getfield 113, [12, 45, 1372]), (.bipush 6, []), (.iload_n 1, []), (.imul, []), (.iload_n 2, []), (.bipush 6, []), (.irem, []), (.iadd, []), (.iaload, []), (.istore 4, []), (.iload_n 3, []), (.iconst (-1), []), (.if_icmp .eq 42, [12, 8])]),
  (86, none, 0, [(.iload 4, []), (.iconst (-1), []), (.if_icmp .eq 36, [12, 9])]),
  (92, none, 0, [(.aload_n 0, []), (.getfield 113, [12, 45, 1372]), (.iload_n 2, []), (.iaload, []), (.iconst (-1), []), (.if_icmp .eq 16, [11, 10])]),
  (102, none, 0, [(.iload_n 3, []), (.iload 4, []), (.iadd, []), (.aload_n 0, []), (.getfield 113, [12, 45, 1372]), (.iload_n 2, []), (.iaload, []), (.if_icmp .ge 13, [12, 11])]),
  (115, none, 12, [(.aload_n 0, []), (.getfield 113, [12, 45, 1372]), (.iload_n 2, []), (.iload_n 3, []), (.iload 4, []), (.iadd, []), (.iastore, [])]),
  (125, none, 0, [(.iinc 2 1, []), (.goto (-84), [6])]),
  (131, none, 0, [(.iinc 1 1, []), (.goto (-98), [4])]),
  (137, none, 0, [(.return_, [])])])
def pm_X12_ways : sm_M := (yX12_ways, prog_14_method_62_code, 1, (some .int), 0, 0, 0, [1810, 14, 1], [
  (0, some [0], 0, [(.aload_n 0, []), (.invokevirtual 434, [135, 1, 12, 1811, 1813, 3343, 0]), (.aload_n 0, []), (.getfield 425, [12, 71, 1398]), (.ifCond .eq 8, [2, 1])]),
  (11, none, 0, [(.bipush (-3), []), (.goto 7, [3])]),
  (16, none, 3, [(.aload_n 0, []), (.getfield 416, [12, 73, 1400])]),
  (20, none, 0, [(.ireturn, [])])])
def pm_X12_word : sm_M := (yX12_word, prog_14_method_10_code, 7, (some .long), 7, 0, 0, [1324, 14, 1], [
  (0, some [0, 1, 2, 3, 4, 5, 6], 0, [(.lconst 0, []), (.iload_n 0, []), (.invokestatic 211, [95, 0, 0, 1325, 1326, 0, 0]), (.iload_n 1, []), (.invokestatic 211, [95, 0, 0, 1325, 1326, 0, 0]), (.iload_n 2, []), (.invokestatic 211, [95, 0, 0, 1325, 1326, 0, 0]), (.iload_n 3, []), (.invokestatic 211, [95, 0, 0, 1325, 1326, 0, 0]), (.iload 4, []), (.invokestatic 211, [95, 0, 0, 1325, 1326, 0, 0]), (.iload 5, []), (.invokestatic 211, [95, 0, 0, 1325, 1326, 0, 0]), (.iload 6, []), (.invokestatic 211, [95, 0, 0, 1325, 1326, 0, 0]), (.lreturn, [])])])
def pm_X12_wrong : sm_M := (yX12_wrong, prog_14_method_16_code, 4, none, 2, 0, 0, [1703, 14, 1], [
  (0, some [0, 1, 2], 0, [(.aload_n 0, []), (.getfield 24, [12, 6, 1334]), (.iload_n 2, []), (.iaload, []), (.istore_n 3, []), (.aload_n 0, []), (.getfield 236, [12, 13, 1340]), (.ifCond .gt 34, [5, 1])]),
  (14, none, 0, [(.aload_n 0, []), (.getfield 245, [12, 15, 1342]), (.ifCond .eq 28, [6, 2])]),
  (21, none, 0, [(.iload_n 3, []), (.aload_n 0, []), (.getfield 248, [12, 16, 1343]), (.if_icmp .gt 19, [5, 3])]),
  (29, none, 0, [(.iload_n 3, []), (.aload_n 0, []), (.getfield 248, [12, 16, 1343]), (.if_icmp .ne 12, [6, 4])]),
  (37, none, 0, [(.iload_n 1, []), (.aload_n 0, []), (.getfield 245, [12, 15, 1342]), (.if_icmp .lt 4, [6, 5])]),
  (45, none, 0, [(.return_, [])]),
  (46, none, 0, [(.aload_n 0, []), (.iload_n 1, []), (.putfield 245, [12, 15, 1342]), (.aload_n 0, []), (.iload_n 3, []), (.putfield 248, [12, 16, 1343]), (.return_, [])])])
def pm_X1_addTry : sm_M := (yX1_addTry, prog_3_method_2_code, 5, none, 4, 0, 0, [920, 9, 1], [
  (0, some [0, 1, 2, 3, 4], 0, [(.iload_n 1, []), (.ifCond .lt 34, [6, 1])]),
  (4, none, 0, [(.iload_n 1, []), (.sipush 1000, []), (.if_icmp .ge 27, [6, 2])]),
  (11, none, 0, [(.aload_n 0, []), (.getfield 9, [1, 0, 313]), (.iload_n 1, []), (.iload_n 2, []), (.iconst 4, []), (.ishl, []), (.iload_n 3, []), (.iconst 1, []), (.ishl, []), (.ior, []), (.iload 4, []), (.ifCond .eq 7, [4, 3])]),
  (28, none, 0, [(.iconst 1, []), (.goto 4, [5])]),
  (32, none, 5, [(.iconst 0, [])]),
  (33, none, 6, [(.ior, []), (.iastore, [])]),
  (35, none, 0, [(.return_, [])])])
def pm_X1_addWay : sm_M := (yX1_addWay, prog_3_method_3_code, 6, none, 4, 0, 0, [877, 9, 1], [
  (0, some [0, 1, 2, 3, 4], 0, [(.iload_n 1, []), (.ifCond .lt 10, [2, 1])]),
  (4, none, 0, [(.iload_n 1, []), (.sipush 1000, []), (.if_icmp .lt 4, [3, 2])]),
  (11, none, 0, [(.return_, [])]),
  (12, none, 4, [(.aload_n 0, []), (.getfield 15, [1, 1, 314]), (.iload_n 1, []), (.iconst 0, []), (.iastore, []), (.aload_n 0, []), (.getfield 18, [1, 2, 315]), (.iload_n 1, []), (.lconst 0, []), (.lastore, []), (.iconst 0, []), (.istore 5, [])]),
  (29, some [0, 1, 2, 3, 4, 5], 0, [(.iload 5, []), (.iload 4, []), (.if_icmp .ge 63, [9, 5])]),
  (36, none, 0, [(.aload_n 2, []), (.iload 5, []), (.iaload, []), (.bipush 100, []), (.if_icmp .ge 26, [7, 6])]),
  (45, none, 0, [(.aload_n 0, []), (.getfield 15, [1, 1, 314]), (.iload_n 1, []), (.dup2, []), (.iaload, []), (.aload_n 3, []), (.iload 5, []), (.iaload, []), (.iconst 2, []), (.aload_n 2, []), (.iload 5, []), (.iaload, []), (.imul, []), (.ishl, []), (.ior, []), (.iastore, []), (.goto 25, [8])]),
  (68, none, 8, [(.aload_n 0, []), (.getfield 18, [1, 2, 315]), (.iload_n 1, []), (.dup2, []), (.laload, []), (.aload_n 3, []), (.iload 5, []), (.iaload, []), (.i2l, []), (.aload_n 2, []), (.iload 5, []), (.iaload, []), (.bipush 100, []), (.isub, []), (.lshl, []), (.lor, []), (.lastore, [])]),
  (90, none, 0, [(.iinc 5 1, []), (.goto (-64), [4])]),
  (96, none, 0, [(.return_, [])])])
def pm_X1_choiceOf : sm_M := (yX1_choiceOf, prog_3_method_4_code, 3, (some .int), 2, 0, 0, [936, 9, 1], [
  (0, some [0, 1, 2], 0, [(.iload_n 1, []), (.ifCond .lt 10, [2, 1])]),
  (4, none, 0, [(.iload_n 1, []), (.sipush 1000, []), (.if_icmp .lt 5, [3, 2])]),
  (11, none, 0, [(.iconst 0, []), (.ireturn, [])]),
  (13, none, 0, [(.iload_n 2, []), (.bipush 100, []), (.if_icmp .ge 16, [5, 4])]),
  (19, none, 0, [(.aload_n 0, []), (.getfield 15, [1, 1, 314]), (.iload_n 1, []), (.iaload, []), (.iconst 2, []), (.iload_n 2, []), (.imul, []), (.ishr, []), (.iconst 3, []), (.iand, []), (.ireturn, [])]),
  (32, none, 0, [(.aload_n 0, []), (.getfield 18, [1, 2, 315]), (.iload_n 1, []), (.laload, []), (.iload_n 2, []), (.bipush 100, []), (.isub, []), (.lshr, []), (.lconst 1, []), (.land, []), (.l2i, []), (.ireturn, [])])])
def pm_X1_init : sm_M := (yX1_init, prog_3_method_1_code, 1, none, 0, 3, 3000, [311, 9, 1], [
  (0, some [0], 0, [(.aload_n 0, []), (.invokespecial 3, [312, 24, 25]), (.aload_n 0, []), (.sipush 1000, []), (.newarray .int, [0, 56]), (.putfield 9, [1, 0, 313]), (.aload_n 0, []), (.sipush 1000, []), (.newarray .int, [0, 56]), (.putfield 15, [1, 1, 314]), (.aload_n 0, []), (.sipush 1000, []), (.newarray .long, [3, 57]), (.putfield 18, [1, 2, 315]), (.return_, [])])])
def pm_X1_tryOf : sm_M := (yX1_tryOf, prog_3_method_5_code, 4, (some .int), 2, 0, 0, [1234, 9, 1], [
  (0, some [0, 1, 2], 0, [(.aload_n 0, []), (.getfield 9, [1, 0, 313]), (.iload_n 1, []), (.iconst 0, []), (.invokestatic 22, [89, 0, 0, 7, 690, 0, 1]), (.istore_n 3, []), (.iload_n 2, []), (.tableswitch 40 0 2 #[25, 29, 36], [4, 1, 2, 3])]),
  (36, none, 0, [(.iload_n 3, []), (.iconst 4, []), (.ishr, []), (.ireturn, [])]),
  (40, none, 0, [(.iload_n 3, []), (.iconst 1, []), (.ishr, []), (.bipush 7, []), (.iand, []), (.ireturn, [])]),
  (47, none, 0, [(.iload_n 3, []), (.iconst 1, []), (.iand, []), (.ireturn, [])]),
  (51, none, 0, [(.iconst (-1), []), (.ireturn, [])])])
def pm_X2_addItem : sm_M := (yX2_addItem, prog_4_method_3_code, 2, none, 1, 0, 0, [865, 10, 1], [
  (0, some [0, 1], 0, [(.aload_n 0, []), (.getfield 28, [2, 11, 368]), (.aload_n 0, []), (.getfield 61, [2, 2, 359]), (.arraylength, []), (.if_icmp .ge 23, [2, 1])]),
  (12, none, 2, [(.aload_n 0, []), (.getfield 61, [2, 2, 359]), (.aload_n 0, []), (.getfield 28, [2, 11, 368]), (.iload_n 1, []), (.iastore, []), (.aload_n 0, []), (.dup, []), (.getfield 28, [2, 11, 368]), (.iconst 1, []), (.iadd, []), (.putfield 28, [2, 11, 368])]),
  (32, none, 0, [(.return_, [])])])
def pm_X2_begin : sm_M := (yX2_begin, prog_4_method_2_code, 6, none, 4, 0, 0, [833, 10, 1], [
  (0, some [0, 1, 2, 3, 4], 0, [(.aload_n 0, []), (.aload_n 1, []), (.putfield 68, [2, 4, 361]), (.aload_n 0, []), (.aload_n 2, []), (.putfield 72, [2, 5, 362]), (.aload_n 0, []), (.iconst 0, []), (.putfield 15, [2, 7, 364]), (.aload_n 0, []), (.iconst 0, []), (.putfield 18, [2, 8, 365]), (.aload_n 0, []), (.iload 4, []), (.ifCond .le 7, [2, 1])]),
  (26, none, 0, [(.iconst 1, []), (.goto 4, [3])]),
  (30, none, 3, [(.iconst 0, [])]),
  (31, none, 4, [(.putfield 24, [2, 10, 367]), (.aload_n 0, []), (.iload 4, []), (.invokevirtual 76, [230, 1, 2, 834, 836, 2567, 0]), (.aload_n 0, []), (.iconst 0, []), (.putfield 28, [2, 11, 368]), (.iconst 0, []), (.istore 5, [])]),
  (48, some [0, 3, 5], 0, [(.iload 5, []), (.aload_n 0, []), (.getfield 68, [2, 4, 361]), (.getfield 80, [10, 3, 130]), (.if_icmp .ge 24, [8, 5])]),
  (60, none, 0, [(.iload_n 3, []), (.iload 5, []), (.ishr, []), (.iconst 1, []), (.iand, []), (.ifCond .eq 9, [7, 6])]),
  (69, none, 7, [(.aload_n 0, []), (.iload 5, []), (.invokevirtual 85, [219, 1, 2, 862, 864, 2570, 0])]),
  (75, none, 0, [(.iinc 5 1, []), (.goto (-30), [4])]),
  (81, none, 9, [(.iconst 0, []), (.istore 5, [])]),
  (84, some [0, 5], 0, [(.iload 5, []), (.aload_n 0, []), (.getfield 68, [2, 4, 361]), (.getfield 88, [10, 5, 138]), (.if_icmp .ge 18, [11, 10])]),
  (96, none, 0, [(.aload_n 0, []), (.bipush 100, []), (.iload 5, []), (.iadd, []), (.invokevirtual 85, [219, 1, 2, 862, 864, 2570, 0]), (.iinc 5 1, []), (.goto (-24), [9])]),
  (111, none, 0, [(.return_, [])])])
def pm_X2_bind : sm_M := (yX2_bind, prog_4_method_7_code, 6, (some .boolean), 5, 0, 0, [853, 10, 1], [
  (0, some [0, 1, 2, 3, 4, 5], 0, [(.aload_n 0, []), (.getfield 54, [2, 0, 356]), (.iload_n 1, []), (.iload_n 2, []), (.iconst 1, []), (.iadd, []), (.iload_n 3, []), (.iconst 1, []), (.iadd, []), (.iload 5, []), (.invokevirtual 137, [256, 1, 5, 854, 855, 856, 0]), (.ifCond .eq 27, [3, 1])]),
  (19, none, 0, [(.aload_n 0, []), (.getfield 54, [2, 0, 356]), (.iload_n 1, []), (.iload_n 3, []), (.iconst 1, []), (.iadd, []), (.iload_n 2, []), (.iconst 1, []), (.iadd, []), (.iload 4, []), (.ineg, []), (.invokevirtual 137, [256, 1, 5, 854, 855, 856, 0]), (.ifCond .eq 7, [3, 2])]),
  (39, none, 0, [(.iconst 1, []), (.goto 4, [4])]),
  (43, none, 4, [(.iconst 0, [])]),
  (44, none, 0, [(.ireturn, [])])])
def pm_X2_bring : sm_M := (yX2_bring, prog_4_method_14_code, 5, (some .boolean), 2, 0, 0, [932, 10, 1], [
  (0, some [0, 1, 2], 1, [(.iconst 0, []), (.istore_n 3, [])]),
  (2, some [0, 1, 2, 3], 0, [(.iload_n 3, []), (.aload_n 0, []), (.getfield 28, [2, 11, 368]), (.if_icmp .ge 82, [9, 2])]),
  (10, none, 0, [(.aload_n 1, []), (.iload_n 2, []), (.aload_n 0, []), (.getfield 61, [2, 2, 359]), (.iload_n 3, []), (.iaload, []), (.invokevirtual 213, [216, 1, 1, 933, 934, 935, 0]), (.istore 4, []), (.iload_n 3, []), (.aload_n 0, []), (.getfield 9, [2, 6, 363]), (.if_icmp .ge 17, [5, 3])]),
  (31, none, 0, [(.aload_n 0, []), (.getfield 65, [2, 3, 360]), (.iload_n 3, []), (.iaload, []), (.iload 4, []), (.if_icmp .ne 6, [5, 4])]),
  (42, none, 0, [(.goto 41, [8])]),
  (45, none, 0, [(.aload_n 0, []), (.iload_n 3, []), (.putfield 9, [2, 6, 363]), (.aload_n 0, []), (.getfield 65, [2, 3, 360]), (.iload_n 3, []), (.iload 4, []), (.iastore, []), (.aload_n 0, []), (.iload_n 3, []), (.aload_n 0, []), (.getfield 61, [2, 2, 359]), (.iload_n 3, []), (.iaload, []), (.iload 4, []), (.invokevirtual 188, [234, 1, 2, 900, 901, 902, 0]), (.ifCond .ne 5, [7, 6])]),
  (74, none, 0, [(.iconst 0, []), (.ireturn, [])]),
  (76, none, 8, [(.aload_n 0, []), (.iload_n 3, []), (.iconst 1, []), (.iadd, []), (.putfield 9, [2, 6, 363])]),
  (83, none, 0, [(.iinc 3 1, []), (.goto (-84), [1])]),
  (89, none, 0, [(.iconst 1, []), (.ireturn, [])])])
def pm_X2_choicesOf : sm_M := (yX2_choicesOf, prog_4_method_8_code, 2, (some .int), 1, 0, 0, [893, 10, 1], [
  (0, some [0, 1], 0, [(.iload_n 1, []), (.bipush 100, []), (.if_icmp .ge 16, [2, 1])]),
  (6, none, 0, [(.aload_n 0, []), (.getfield 68, [2, 4, 361]), (.getfield 141, [10, 12, 157]), (.iload_n 1, []), (.iconst 0, []), (.invokestatic 144, [89, 0, 0, 5, 690, 0, 1]), (.ireturn, [])]),
  (19, none, 0, [(.aload_n 0, []), (.iload_n 1, []), (.invokevirtual 148, [237, 1, 2, 895, 897, 2574, 0]), (.ifCond .ge 7, [4, 3])]),
  (27, none, 0, [(.iconst 0, []), (.goto 4, [5])]),
  (31, none, 5, [(.iconst 2, [])]),
  (32, none, 0, [(.ireturn, [])])])
def pm_X2_distance : sm_M := (yX2_distance, prog_4_method_16_code, 5, (some .int), 4, 0, 0, [961, 10, 1], [
  (0, some [0, 1, 2, 3, 4], 0, [(.iload 4, []), (.ifCond .eq 20, [2, 1])]),
  (5, none, 0, [(.aload_n 0, []), (.getfield 54, [2, 0, 356]), (.iload_n 1, []), (.iload_n 2, []), (.iconst 1, []), (.iadd, []), (.iload_n 3, []), (.iconst 1, []), (.iadd, []), (.invokevirtual 201, [255, 1, 5, 878, 879, 880, 0]), (.goto 18, [3])]),
  (22, none, 3, [(.aload_n 0, []), (.getfield 54, [2, 0, 356]), (.iload_n 1, []), (.iload_n 3, []), (.iconst 1, []), (.iadd, []), (.iload_n 2, []), (.iconst 1, []), (.iadd, []), (.invokevirtual 201, [255, 1, 5, 878, 879, 880, 0]), (.ineg, [])]),
  (37, none, 0, [(.ireturn, [])])])
def pm_X2_goThrough : sm_M := (yX2_goThrough, prog_4_method_12_code, 6, none, 2, 0, 0, [869, 10, 1], [
  (0, some [0, 1, 2], 0, [(.aload_n 0, []), (.iconst 0, []), (.putfield 34, [2, 13, 374]), (.aload_n 0, []), (.iconst 0, []), (.putfield 37, [2, 14, 376]), (.aload_n 0, []), (.iconst 0, []), (.putfield 40, [2, 15, 380]), (.aload_n 0, []), (.iconst 0, []), (.putfield 9, [2, 6, 363]), (.aload_n 0, []), (.getfield 31, [2, 12, 371]), (.ifCond .ne 4, [2, 1])]),
  (27, none, 0, [(.return_, [])]),
  (28, none, 0, [(.aload_n 0, []), (.getfield 28, [2, 11, 368]), (.ifCond .ne 9, [4, 3])]),
  (35, none, 0, [(.aload_n 0, []), (.aload_n 1, []), (.invokevirtual 181, [233, 1, 2, 870, 872, 2571, 0]), (.return_, [])]),
  (41, none, 5, [(.iconst 0, []), (.istore_n 3, []), (.aload_n 0, []), (.getfield 65, [2, 3, 360]), (.iconst 0, []), (.iconst (-1), []), (.iastore, []), (.iconst 0, []), (.istore 4, [])]),
  (53, some [0, 1, 2, 3, 4], 0, [(.iload 4, []), (.sipush 2010, []), (.if_icmp .ge 164, [20, 6])]),
  (61, none, 0, [(.iload_n 3, []), (.ifCond .lt 160, [20, 7])]),
  (65, none, 0, [(.aload_n 0, []), (.getfield 65, [2, 3, 360]), (.iload_n 3, []), (.dup2, []), (.iaload, []), (.iconst 1, []), (.iadd, []), (.iastore, []), (.aload_n 0, []), (.getfield 65, [2, 3, 360]), (.iload_n 3, []), (.iaload, []), (.aload_n 0, []), (.aload_n 0, []), (.getfield 61, [2, 2, 359]), (.iload_n 3, []), (.iaload, []), (.invokevirtual 185, [223, 1, 2, 890, 892, 2573, 0]), (.if_icmp .lt 9, [9, 8])]),
  (94, none, 0, [(.iinc 3 (-1), []), (.goto 119, [19])]),
  (100, none, 0, [(.aload_n 0, []), (.dup, []), (.getfield 34, [2, 13, 374]), (.iconst 1, []), (.iadd, []), (.putfield 34, [2, 13, 374]), (.aload_n 0, []), (.getfield 34, [2, 13, 374]), (.sipush 1000, []), (.if_icmp .le 9, [11, 10])]),
  (120, none, 0, [(.aload_n 0, []), (.iconst 1, []), (.putfield 40, [2, 15, 380]), (.return_, [])]),
  (126, none, 0, [(.aload_n 0, []), (.iload_n 3, []), (.aload_n 0, []), (.getfield 61, [2, 2, 359]), (.iload_n 3, []), (.iaload, []), (.aload_n 0, []), (.getfield 65, [2, 3, 360]), (.iload_n 3, []), (.iaload, []), (.invokevirtual 188, [234, 1, 2, 900, 901, 902, 0]), (.istore 5, []), (.aload_n 1, []), (.ifnull 27, [13, 12])]),
  (149, none, 13, [(.aload_n 1, []), (.aload_n 0, []), (.getfield 34, [2, 13, 374]), (.iconst 1, []), (.isub, []), (.aload_n 0, []), (.getfield 61, [2, 2, 359]), (.iload_n 3, []), (.iaload, []), (.aload_n 0, []), (.getfield 65, [2, 3, 360]), (.iload_n 3, []), (.iaload, []), (.iload 5, []), (.invokevirtual 191, [214, 1, 1, 917, 918, 919, 0])]),
  (173, none, 0, [(.iload 5, []), (.ifCond .eq 26, [16, 14])]),
  (178, none, 0, [(.iload_n 3, []), (.aload_n 0, []), (.getfield 28, [2, 11, 368]), (.iconst 1, []), (.isub, []), (.if_icmp .ge 16, [16, 15])]),
  (188, none, 0, [(.iinc 3 1, []), (.aload_n 0, []), (.getfield 65, [2, 3, 360]), (.iload_n 3, []), (.iconst (-1), []), (.iastore, []), (.goto 18, [19])]),
  (201, some [0, 1, 2, 3, 4, 5], 0, [(.iload 5, []), (.ifCond .eq 13, [19, 17])]),
  (206, none, 0, [(.aload_n 0, []), (.aload_n 1, []), (.invokevirtual 181, [233, 1, 2, 870, 872, 2571, 0]), (.iload_n 2, []), (.ifCond .eq 4, [19, 18])]),
  (215, none, 0, [(.return_, [])]),
  (216, some [0, 1, 2, 3, 4], 0, [(.iinc 4 1, []), (.goto (-166), [5])]),
  (222, none, 0, [(.return_, [])])])
def pm_X2_host : sm_M := (yX2_host, prog_4_method_5_code, 6, none, 4, 0, 0, [1134, 10, 1], [
  (0, some [0, 1, 2, 3, 4], 0, [(.aload_n 0, []), (.iload_n 2, []), (.putfield 21, [2, 9, 366]), (.aload_n 0, []), (.sipush 1440, []), (.putfield 43, [2, 16, 383]), (.aload_n 0, []), (.iconst 0, []), (.putfield 46, [2, 17, 385]), (.aload_n 0, []), (.aload_n 0, []), (.getfield 31, [2, 12, 371]), (.ifCond .eq 26, [3, 1])]),
  (25, none, 0, [(.aload_n 0, []), (.iconst 0, []), (.aload_n 0, []), (.getfield 68, [2, 4, 361]), (.getfield 91, [10, 2, 126]), (.iconst (-1), []), (.iload_n 3, []), (.iload 4, []), (.invokevirtual 116, [221, 1, 2, 850, 851, 852, 0]), (.ifCond .eq 7, [3, 2])]),
  (44, none, 0, [(.iconst 1, []), (.goto 4, [4])]),
  (48, none, 4, [(.iconst 0, [])]),
  (49, none, 5, [(.putfield 31, [2, 12, 371]), (.iconst 0, []), (.istore 5, [])]),
  (55, some [0, 1, 2, 5], 0, [(.iload 5, []), (.aload_n 0, []), (.getfield 68, [2, 4, 361]), (.getfield 91, [10, 2, 126]), (.if_icmp .ge 47, [10, 6])]),
  (67, none, 0, [(.aload_n 0, []), (.getfield 68, [2, 4, 361]), (.getfield 131, [10, 8, 145]), (.iload 5, []), (.iaload, []), (.iload_n 1, []), (.if_icmp .ne 27, [9, 7])]),
  (81, none, 0, [(.aload_n 0, []), (.getfield 68, [2, 4, 361]), (.getfield 134, [10, 9, 149]), (.iload 5, []), (.iaload, []), (.iload_n 2, []), (.if_icmp .eq 13, [9, 8])]),
  (95, none, 9, [(.aload_n 0, []), (.sipush 200, []), (.iload 5, []), (.iadd, []), (.invokevirtual 85, [219, 1, 2, 862, 864, 2570, 0])]),
  (105, none, 0, [(.iinc 5 1, []), (.goto (-53), [5])]),
  (111, none, 0, [(.return_, [])])])
def pm_X2_init_6925 : sm_M := (yX2_init, prog_4_method_1_code, 6, none, 5, 7, 6925, [329, 10, 1], [
  (0, some [0, 1, 2, 3, 4, 5], 1, [(.aload_n 0, []), (.invokespecial 3, [330, 24, 25]), (.aload_n 0, []), (.iconst 0, []), (.putfield 9, [2, 6, 363]), (.aload_n 0, []), (.iconst 0, []), (.putfield 15, [2, 7, 364]), (.aload_n 0, []), (.iconst 0, []), (.putfield 18, [2, 8, 365]), (.aload_n 0, []), (.iconst (-1), []), (.putfield 21, [2, 9, 366]), (.aload_n 0, []), (.iconst 0, []), (.putfield 24, [2, 10, 367]), (.aload_n 0, []), (.iconst 0, []), (.putfield 28, [2, 11, 368]), (.aload_n 0, []), (.iconst 0, []), (.putfield 31, [2, 12, 371]), (.aload_n 0, []), (.iconst 0, []), (.putfield 34, [2, 13, 374]), (.aload_n 0, []), (.iconst 0, []), (.putfield 37, [2, 14, 376]), (.aload_n 0, []), (.iconst 0, []), (.putfield 40, [2, 15, 380]), (.aload_n 0, []), (.iconst 0, []), (.putfield 43, [2, 16, 383]), (.aload_n 0, []), (.iconst 0, []), (.putfield 46, [2, 17, 385]), (.aload_n 0, []), (.new 49, [5, 331, 332, 11])]),
  (68, none, 0, [(.dup, []), (.iload_n 1, []), (.iconst 1, []), (.iadd, []), (.iload_n 2, []), (.iconst 1, []), (.iadd, []), (.invokespecial 51, [251, 1, 5, 333, 334, 0, 0]), (.putfield 54, [2, 0, 356]), (.aload_n 0, []), (.iload_n 3, []), (.putfield 58, [2, 1, 358]), (.aload_n 0, []), (.iload_n 1, []), (.newarray .int, [0, 56]), (.putfield 61, [2, 2, 359]), (.aload_n 0, []), (.iload_n 1, []), (.newarray .int, [0, 56]), (.putfield 65, [2, 3, 360]), (.aload_n 0, []), (.aload 4, []), (.putfield 68, [2, 4, 361]), (.aload_n 0, []), (.aload 5, []), (.putfield 72, [2, 5, 362]), (.return_, [])])])
def pm_X2_init_7540 : sm_M := (yX2_init, prog_4_method_1_code, 6, none, 5, 7, 7540, [329, 10, 1], [
  (0, some [0, 1, 2, 3, 4, 5], 1, [(.aload_n 0, []), (.invokespecial 3, [330, 24, 25]), (.aload_n 0, []), (.iconst 0, []), (.putfield 9, [2, 6, 363]), (.aload_n 0, []), (.iconst 0, []), (.putfield 15, [2, 7, 364]), (.aload_n 0, []), (.iconst 0, []), (.putfield 18, [2, 8, 365]), (.aload_n 0, []), (.iconst (-1), []), (.putfield 21, [2, 9, 366]), (.aload_n 0, []), (.iconst 0, []), (.putfield 24, [2, 10, 367]), (.aload_n 0, []), (.iconst 0, []), (.putfield 28, [2, 11, 368]), (.aload_n 0, []), (.iconst 0, []), (.putfield 31, [2, 12, 371]), (.aload_n 0, []), (.iconst 0, []), (.putfield 34, [2, 13, 374]), (.aload_n 0, []), (.iconst 0, []), (.putfield 37, [2, 14, 376]), (.aload_n 0, []), (.iconst 0, []), (.putfield 40, [2, 15, 380]), (.aload_n 0, []), (.iconst 0, []), (.putfield 43, [2, 16, 383]), (.aload_n 0, []), (.iconst 0, []), (.putfield 46, [2, 17, 385]), (.aload_n 0, []), (.new 49, [5, 331, 332, 11])]),
  (68, none, 0, [(.dup, []), (.iload_n 1, []), (.iconst 1, []), (.iadd, []), (.iload_n 2, []), (.iconst 1, []), (.iadd, []), (.invokespecial 51, [252, 1, 5, 333, 334, 0, 0]), (.putfield 54, [2, 0, 356]), (.aload_n 0, []), (.iload_n 3, []), (.putfield 58, [2, 1, 358]), (.aload_n 0, []), (.iload_n 1, []), (.newarray .int, [0, 56]), (.putfield 61, [2, 2, 359]), (.aload_n 0, []), (.iload_n 1, []), (.newarray .int, [0, 56]), (.putfield 65, [2, 3, 360]), (.aload_n 0, []), (.aload 4, []), (.putfield 68, [2, 4, 361]), (.aload_n 0, []), (.aload 5, []), (.putfield 72, [2, 5, 362]), (.return_, [])])])
def pm_X2_init_9676 : sm_M := (yX2_init, prog_4_method_1_code, 6, none, 5, 7, 9676, [329, 10, 1], [
  (0, some [0, 1, 2, 3, 4, 5], 1, [(.aload_n 0, []), (.invokespecial 3, [330, 24, 25]), (.aload_n 0, []), (.iconst 0, []), (.putfield 9, [2, 6, 363]), (.aload_n 0, []), (.iconst 0, []), (.putfield 15, [2, 7, 364]), (.aload_n 0, []), (.iconst 0, []), (.putfield 18, [2, 8, 365]), (.aload_n 0, []), (.iconst (-1), []), (.putfield 21, [2, 9, 366]), (.aload_n 0, []), (.iconst 0, []), (.putfield 24, [2, 10, 367]), (.aload_n 0, []), (.iconst 0, []), (.putfield 28, [2, 11, 368]), (.aload_n 0, []), (.iconst 0, []), (.putfield 31, [2, 12, 371]), (.aload_n 0, []), (.iconst 0, []), (.putfield 34, [2, 13, 374]), (.aload_n 0, []), (.iconst 0, []), (.putfield 37, [2, 14, 376]), (.aload_n 0, []), (.iconst 0, []), (.putfield 40, [2, 15, 380]), (.aload_n 0, []), (.iconst 0, []), (.putfield 43, [2, 16, 383]), (.aload_n 0, []), (.iconst 0, []), (.putfield 46, [2, 17, 385]), (.aload_n 0, []), (.new 49, [5, 331, 332, 11])]),
  (68, none, 0, [(.dup, []), (.iload_n 1, []), (.iconst 1, []), (.iadd, []), (.iload_n 2, []), (.iconst 1, []), (.iadd, []), (.invokespecial 51, [253, 1, 5, 333, 334, 0, 0]), (.putfield 54, [2, 0, 356]), (.aload_n 0, []), (.iload_n 3, []), (.putfield 58, [2, 1, 358]), (.aload_n 0, []), (.iload_n 1, []), (.newarray .int, [0, 56]), (.putfield 61, [2, 2, 359]), (.aload_n 0, []), (.iload_n 1, []), (.newarray .int, [0, 56]), (.putfield 65, [2, 3, 360]), (.aload_n 0, []), (.aload 4, []), (.putfield 68, [2, 4, 361]), (.aload_n 0, []), (.aload 5, []), (.putfield 72, [2, 5, 362]), (.return_, [])])])
def pm_X2_layBase : sm_M := (yX2_layBase, prog_4_method_4_code, 5, none, 1, 0, 0, [837, 10, 1], [
  (0, some [0, 1], 1, [(.aload_n 0, []), (.iconst 0, []), (.putfield 9, [2, 6, 363]), (.aload_n 0, []), (.getfield 54, [2, 0, 356]), (.aload_n 0, []), (.getfield 68, [2, 4, 361]), (.getfield 91, [10, 2, 126]), (.iconst 1, []), (.iadd, []), (.iload_n 1, []), (.iadd, []), (.invokevirtual 94, [247, 1, 5, 838, 839, 840, 0]), (.aload_n 0, []), (.iconst 1, []), (.putfield 31, [2, 12, 371]), (.aload_n 0, []), (.getfield 68, [2, 4, 361]), (.getfield 97, [10, 10, 153]), (.astore_n 2, []), (.iconst 0, []), (.istore_n 3, [])]),
  (38, some [0, 2, 3], 0, [(.iload_n 3, []), (.aload_n 0, []), (.getfield 68, [2, 4, 361]), (.getfield 91, [10, 2, 126]), (.if_icmp .ge 135, [16, 2])]),
  (49, none, 0, [(.aload_n 2, []), (.getfield 101, [8, 1, 95]), (.iload_n 3, []), (.iaload, []), (.iconst (-1), []), (.if_icmp .ne 6, [4, 3])]),
  (59, none, 0, [(.goto 116, [15])]),
  (62, none, 0, [(.aload_n 0, []), (.getfield 58, [2, 1, 358]), (.ifCond .eq 66, [10, 5])]),
  (69, none, 0, [(.aload_n 0, []), (.getfield 54, [2, 0, 356]), (.iload_n 3, []), (.iconst 1, []), (.iadd, []), (.aload_n 2, []), (.getfield 101, [8, 1, 95]), (.iload_n 3, []), (.iaload, []), (.iconst 1, []), (.iadd, []), (.aload_n 2, []), (.getfield 106, [8, 2, 99]), (.iload_n 3, []), (.iaload, []), (.aload_n 2, []), (.getfield 109, [8, 3, 102]), (.iload_n 3, []), (.iaload, []), (.invokevirtual 112, [254, 1, 5, 842, 843, 844, 0]), (.aload_n 0, []), (.aload_n 0, []), (.getfield 31, [2, 12, 371]), (.ifCond .eq 21, [8, 6])]),
  (107, none, 0, [(.aload_n 0, []), (.iconst 0, []), (.iload_n 3, []), (.iconst (-1), []), (.iconst 0, []), (.sipush 1440, []), (.invokevirtual 116, [221, 1, 2, 850, 851, 852, 0]), (.ifCond .eq 7, [8, 7])]),
  (121, none, 0, [(.iconst 1, []), (.goto 4, [9])]),
  (125, none, 9, [(.iconst 0, [])]),
  (126, none, 0, [(.putfield 31, [2, 12, 371]), (.goto 46, [15])]),
  (132, none, 0, [(.aload_n 0, []), (.aload_n 0, []), (.getfield 31, [2, 12, 371]), (.ifCond .eq 34, [13, 11])]),
  (140, none, 0, [(.aload_n 0, []), (.iconst 0, []), (.iload_n 3, []), (.aload_n 2, []), (.getfield 101, [8, 1, 95]), (.iload_n 3, []), (.iaload, []), (.aload_n 2, []), (.getfield 106, [8, 2, 99]), (.iload_n 3, []), (.iaload, []), (.aload_n 2, []), (.getfield 109, [8, 3, 102]), (.iload_n 3, []), (.iaload, []), (.invokevirtual 116, [221, 1, 2, 850, 851, 852, 0]), (.ifCond .eq 7, [13, 12])]),
  (167, none, 0, [(.iconst 1, []), (.goto 4, [14])]),
  (171, none, 14, [(.iconst 0, [])]),
  (172, none, 15, [(.putfield 31, [2, 12, 371])]),
  (175, none, 0, [(.iinc 3 1, []), (.goto (-140), [1])]),
  (181, none, 17, [(.aload_n 0, []), (.getfield 72, [2, 5, 362]), (.getfield 120, [4, 4, 294]), (.astore_n 3, []), (.iconst 0, []), (.istore 4, [])]),
  (192, some [0, 3, 4], 0, [(.iload 4, []), (.aload_n 0, []), (.getfield 72, [2, 5, 362]), (.getfield 125, [4, 1, 286]), (.if_icmp .ge 61, [23, 18])]),
  (204, none, 0, [(.aload_n 0, []), (.aload_n 0, []), (.getfield 31, [2, 12, 371]), (.ifCond .eq 43, [21, 19])]),
  (212, none, 0, [(.aload_n 0, []), (.iconst 0, []), (.aload_n 3, []), (.getfield 128, [8, 0, 91]), (.iload 4, []), (.iaload, []), (.aload_n 3, []), (.getfield 101, [8, 1, 95]), (.iload 4, []), (.iaload, []), (.aload_n 3, []), (.getfield 106, [8, 2, 99]), (.iload 4, []), (.iaload, []), (.aload_n 3, []), (.getfield 109, [8, 3, 102]), (.iload 4, []), (.iaload, []), (.invokevirtual 116, [221, 1, 2, 850, 851, 852, 0]), (.ifCond .eq 7, [21, 20])]),
  (248, none, 0, [(.iconst 1, []), (.goto 4, [22])]),
  (252, none, 22, [(.iconst 0, [])]),
  (253, none, 0, [(.putfield 31, [2, 12, 371]), (.iinc 4 1, []), (.goto (-67), [17])]),
  (262, none, 0, [(.return_, [])])])
def pm_X2_minute : sm_M := (yX2_minute, prog_4_method_15_code, 4, (some .int), 3, 0, 0, [957, 10, 1], [
  (0, some [0, 1, 2, 3], 0, [(.aload_n 0, []), (.iload_n 1, []), (.iload_n 2, []), (.iconst (-1), []), (.iload_n 3, []), (.invokevirtual 216, [224, 1, 2, 958, 959, 960, 0]), (.ireturn, [])])])
def pm_X2_minuteWith : sm_M := (yX2_minuteWith, prog_4_method_18_code, 8, (some .int), 4, 0, 0, [1247, 10, 1], [
  (0, some [0, 1, 2, 3, 4], 1, [(.aload_n 0, []), (.iload_n 1, []), (.iload_n 2, []), (.iload 4, []), (.invokevirtual 224, [231, 1, 2, 1248, 955, 956, 0]), (.istore 5, []), (.iconst 0, []), (.istore 6, [])]),
  (13, some [0, 1, 2, 3, 4, 5, 6], 0, [(.iload 6, []), (.aload_n 0, []), (.getfield 68, [2, 4, 361]), (.getfield 91, [10, 2, 126]), (.if_icmp .ge 58, [8, 2])]),
  (25, none, 0, [(.aload_n 3, []), (.iload 6, []), (.iaload, []), (.iconst (-1), []), (.if_icmp .eq 44, [7, 3])]),
  (33, none, 0, [(.aload_n 3, []), (.iload 6, []), (.iaload, []), (.aload_n 0, []), (.iload_n 1, []), (.iload_n 2, []), (.iload 6, []), (.iload 4, []), (.invokevirtual 216, [224, 1, 2, 958, 959, 960, 0]), (.iadd, []), (.istore 7, []), (.iload 4, []), (.ifCond .eq 13, [5, 4])]),
  (55, none, 0, [(.iload 5, []), (.iload 7, []), (.invokestatic 205, [2, 886, 659]), (.goto 10, [6])]),
  (65, none, 6, [(.iload 5, []), (.iload 7, []), (.invokestatic 210, [1, 887, 888])]),
  (72, none, 7, [(.istore 5, [])]),
  (74, none, 0, [(.iinc 6 1, []), (.goto (-64), [1])]),
  (80, none, 0, [(.iload 5, []), (.ireturn, [])])])
def pm_X2_noteWay : sm_M := (yX2_noteWay, prog_4_method_13_code, 2, none, 1, 0, 0, [873, 10, 1], [
  (0, some [0, 1], 0, [(.aload_n 1, []), (.ifnull 23, [2, 1])]),
  (4, none, 2, [(.aload_n 1, []), (.aload_n 0, []), (.getfield 37, [2, 14, 376]), (.aload_n 0, []), (.getfield 61, [2, 2, 359]), (.aload_n 0, []), (.getfield 65, [2, 3, 360]), (.aload_n 0, []), (.getfield 28, [2, 11, 368]), (.invokevirtual 197, [215, 1, 1, 874, 875, 876, 0])]),
  (24, none, 0, [(.aload_n 0, []), (.getfield 24, [2, 10, 367]), (.ifCond .eq 68, [4, 3])]),
  (31, none, 4, [(.aload_n 0, []), (.aload_n 0, []), (.getfield 43, [2, 16, 383]), (.aload_n 0, []), (.getfield 54, [2, 0, 356]), (.aload_n 0, []), (.getfield 28, [2, 11, 368]), (.iconst 0, []), (.aload_n 0, []), (.getfield 68, [2, 4, 361]), (.getfield 91, [10, 2, 126]), (.iconst 1, []), (.iadd, []), (.invokevirtual 201, [255, 1, 5, 878, 879, 880, 0]), (.ineg, []), (.invokestatic 205, [2, 886, 659]), (.putfield 43, [2, 16, 383]), (.aload_n 0, []), (.aload_n 0, []), (.getfield 46, [2, 17, 385]), (.aload_n 0, []), (.getfield 54, [2, 0, 356]), (.aload_n 0, []), (.getfield 28, [2, 11, 368]), (.aload_n 0, []), (.getfield 68, [2, 4, 361]), (.getfield 91, [10, 2, 126]), (.iconst 1, []), (.iadd, []), (.iconst 0, []), (.invokevirtual 201, [255, 1, 5, 878, 879, 880, 0]), (.invokestatic 210, [1, 887, 888]), (.putfield 46, [2, 17, 385])]),
  (96, none, 0, [(.aload_n 0, []), (.dup, []), (.getfield 37, [2, 14, 376]), (.iconst 1, []), (.iadd, []), (.putfield 37, [2, 14, 376]), (.return_, [])])])
def pm_X2_push : sm_M := (yX2_push, prog_4_method_10_code, 9, (some .boolean), 3, 0, 0, [903, 10, 1], [
  (0, some [0, 1, 2, 3], 0, [(.aload_n 0, []), (.getfield 54, [2, 0, 356]), (.iload_n 1, []), (.invokevirtual 159, [248, 1, 5, 904, 905, 906, 0]), (.iload_n 2, []), (.bipush 100, []), (.if_icmp .lt 13, [2, 1])]),
  (14, none, 0, [(.aload_n 0, []), (.iload_n 1, []), (.iconst 1, []), (.iadd, []), (.iload_n 2, []), (.iload_n 3, []), (.invokevirtual 162, [235, 1, 2, 911, 913, 2575, 0]), (.ireturn, [])]),
  (24, none, 0, [(.aload_n 0, []), (.getfield 68, [2, 4, 361]), (.getfield 166, [10, 14, 161]), (.astore 4, []), (.aload_n 0, []), (.getfield 15, [2, 7, 364]), (.iload_n 2, []), (.ishr, []), (.iconst 1, []), (.iand, []), (.aload_n 0, []), (.getfield 18, [2, 8, 365]), (.imul, []), (.istore 5, []), (.aload_n 0, []), (.getfield 68, [2, 4, 361]), (.iload_n 2, []), (.iload_n 3, []), (.invokevirtual 169, [19, 1, 10, 915, 744, 745, 0]), (.istore 6, []), (.iload 6, []), (.aload_n 0, []), (.getfield 68, [2, 4, 361]), (.iload_n 2, []), (.iload_n 3, []), (.invokevirtual 172, [23, 1, 10, 916, 748, 749, 0]), (.iadd, []), (.istore 7, []), (.iload 6, []), (.ifCond .lt 14, [4, 3])]),
  (78, none, 0, [(.iload 7, []), (.aload 4, []), (.getfield 128, [8, 0, 91]), (.arraylength, []), (.if_icmp .le 5, [5, 4])]),
  (89, none, 0, [(.iconst 0, []), (.ireturn, [])]),
  (91, none, 6, [(.iload 6, []), (.istore 8, [])]),
  (95, some [0, 1, 4, 5, 7, 8], 0, [(.iload 8, []), (.iload 7, []), (.if_icmp .ge 59, [10, 7])]),
  (102, none, 0, [(.aload_n 0, []), (.iload_n 1, []), (.iconst 1, []), (.iadd, []), (.aload 4, []), (.getfield 128, [8, 0, 91]), (.iload 8, []), (.iaload, []), (.aload 4, []), (.getfield 101, [8, 1, 95]), (.iload 8, []), (.iaload, []), (.aload 4, []), (.getfield 106, [8, 2, 99]), (.iload 8, []), (.iaload, []), (.iload 5, []), (.isub, []), (.aload 4, []), (.getfield 109, [8, 3, 102]), (.iload 8, []), (.iaload, []), (.iload 5, []), (.iadd, []), (.invokevirtual 116, [221, 1, 2, 850, 851, 852, 0]), (.ifCond .ne 5, [9, 8])]),
  (150, none, 0, [(.iconst 0, []), (.ireturn, [])]),
  (152, none, 0, [(.iinc 8 1, []), (.goto (-60), [6])]),
  (158, none, 0, [(.iconst 1, []), (.ireturn, [])])])
def pm_X2_pushMove : sm_M := (yX2_pushMove, prog_4_method_11_code, 7, (some .boolean), 3, 0, 0, [914, 10, 1], [
  (0, some [0, 1, 2, 3], 0, [(.aload_n 0, []), (.iload_n 2, []), (.invokevirtual 148, [237, 1, 2, 895, 897, 2574, 0]), (.istore 4, []), (.iload_n 2, []), (.sipush 200, []), (.isub, []), (.istore 5, []), (.aload_n 0, []), (.getfield 68, [2, 4, 361]), (.getfield 91, [10, 2, 126]), (.istore 6, []), (.iload_n 2, []), (.sipush 200, []), (.if_icmp .ge 37, [2, 1])]),
  (30, none, 2, [(.aload_n 0, []), (.getfield 68, [2, 4, 361]), (.getfield 175, [10, 16, 168]), (.iload_n 2, []), (.bipush 100, []), (.isub, []), (.iconst (-1), []), (.invokestatic 144, [89, 0, 0, 5, 690, 0, 1]), (.istore 5, []), (.aload_n 0, []), (.getfield 68, [2, 4, 361]), (.getfield 178, [10, 17, 171]), (.iload_n 2, []), (.bipush 100, []), (.isub, []), (.iconst (-1), []), (.invokestatic 144, [89, 0, 0, 5, 690, 0, 1]), (.istore 6, [])]),
  (64, none, 0, [(.iload_n 3, []), (.ifCond .ne 23, [4, 3])]),
  (68, none, 0, [(.aload_n 0, []), (.getfield 54, [2, 0, 356]), (.iload_n 1, []), (.iload 5, []), (.iconst 1, []), (.iadd, []), (.iload 6, []), (.iconst 1, []), (.iadd, []), (.iload 4, []), (.ineg, []), (.invokevirtual 137, [256, 1, 5, 854, 855, 856, 0]), (.ireturn, [])]),
  (88, none, 0, [(.aload_n 0, []), (.getfield 54, [2, 0, 356]), (.iload_n 1, []), (.iload 6, []), (.iconst 1, []), (.iadd, []), (.iload 5, []), (.iconst 1, []), (.iadd, []), (.iload 4, []), (.ineg, []), (.invokevirtual 137, [256, 1, 5, 854, 855, 856, 0]), (.ireturn, [])])])
def pm_X2_takes : sm_M := (yX2_takes, prog_4_method_17_code, 4, (some .boolean), 2, 0, 0, [1243, 10, 1], [
  (0, some [0, 1, 2], 1, [(.iconst 0, []), (.istore_n 3, [])]),
  (2, some [0, 1, 2, 3], 0, [(.iload_n 3, []), (.aload_n 0, []), (.getfield 68, [2, 4, 361]), (.getfield 91, [10, 2, 126]), (.if_icmp .ge 49, [8, 2])]),
  (13, none, 0, [(.aload_n 2, []), (.iload_n 3, []), (.iaload, []), (.iconst (-1), []), (.if_icmp .ne 6, [4, 3])]),
  (20, none, 0, [(.goto 33, [7])]),
  (23, none, 0, [(.aload_n 0, []), (.iload_n 1, []), (.iload_n 3, []), (.aload_n 2, []), (.iconst 1, []), (.invokevirtual 220, [232, 1, 2, 1244, 1245, 1246, 0]), (.aload_n 2, []), (.iload_n 3, []), (.iaload, []), (.if_icmp .lt 17, [6, 5])]),
  (37, none, 0, [(.aload_n 0, []), (.iload_n 1, []), (.iload_n 3, []), (.aload_n 2, []), (.iconst 0, []), (.invokevirtual 220, [232, 1, 2, 1244, 1245, 1246, 0]), (.aload_n 2, []), (.iload_n 3, []), (.iaload, []), (.if_icmp .le 5, [7, 6])]),
  (51, none, 0, [(.iconst 0, []), (.ireturn, [])]),
  (53, none, 0, [(.iinc 3 1, []), (.goto (-54), [1])]),
  (59, none, 0, [(.iconst 1, []), (.ireturn, [])])])
def pm_X2_walkOf : sm_M := (yX2_walkOf, prog_4_method_9_code, 2, (some .int), 1, 0, 0, [898, 10, 1], [
  (0, some [0, 1], 0, [(.iload_n 1, []), (.sipush 200, []), (.if_icmp .lt 31, [2, 1])]),
  (7, none, 0, [(.aload_n 0, []), (.getfield 68, [2, 4, 361]), (.aload_n 0, []), (.getfield 68, [2, 4, 361]), (.getfield 134, [10, 9, 149]), (.iload_n 1, []), (.sipush 200, []), (.isub, []), (.iconst (-1), []), (.invokestatic 144, [89, 0, 0, 5, 690, 0, 1]), (.aload_n 0, []), (.getfield 21, [2, 9, 366]), (.invokevirtual 152, [27, 1, 10, 899, 772, 773, 0]), (.ireturn, [])]),
  (35, none, 0, [(.aload_n 0, []), (.getfield 68, [2, 4, 361]), (.getfield 156, [10, 18, 174]), (.iload_n 1, []), (.bipush 100, []), (.isub, []), (.bipush (-2), []), (.invokestatic 144, [89, 0, 0, 5, 690, 0, 1]), (.ireturn, [])])])
def pm_X2_widen : sm_M := (yX2_widen, prog_4_method_6_code, 3, none, 2, 0, 0, [1289, 10, 1], [
  (0, some [0, 1, 2], 0, [(.aload_n 0, []), (.iload_n 1, []), (.putfield 15, [2, 7, 364]), (.aload_n 0, []), (.iload_n 2, []), (.putfield 18, [2, 8, 365]), (.return_, [])])])
def pm_X3_clear : sm_M := (yX3_clear, prog_5_method_2_code, 1, none, 0, 0, 0, [623, 4, 1], [
  (0, some [0], 0, [(.aload_n 0, []), (.getfield 9, [3, 0, 64]), (.iconst 0, []), (.invokestatic 25, [306, 0, 0, 624, 117, 0, 0]), (.aload_n 0, []), (.iconst 0, []), (.putfield 15, [3, 1, 65]), (.return_, [])])])
def pm_X3_faultOf : sm_M := (yX3_faultOf, prog_5_method_5_code, 5, (some .int), 3, 0, 0, [628, 4, 1], [
  (0, some [0, 1, 2, 3], 0, [(.iload_n 2, []), (.bipush 9, []), (.if_icmp .eq 9, [2, 1])]),
  (6, none, 0, [(.iload_n 2, []), (.bipush 13, []), (.if_icmp .ne 7, [3, 2])]),
  (12, none, 0, [(.iconst 1, []), (.goto 4, [4])]),
  (16, none, 4, [(.iconst 0, [])]),
  (17, some [0, 1, 2, 3], 0, [(.istore 4, []), (.iload_n 1, []), (.iload_n 2, []), (.invokestatic 36, [241, 0, 0, 629, 630, 0, 0]), (.iconst (-1), []), (.if_icmp .eq 17, [7, 5])]),
  (28, none, 0, [(.iload 4, []), (.ifCond .eq 14, [8, 6])]),
  (33, none, 0, [(.aload_n 0, []), (.getfield 15, [3, 1, 65]), (.bipush 12, []), (.if_icmp .ne 5, [8, 7])]),
  (42, none, 0, [(.iconst 1, []), (.ireturn, [])]),
  (44, none, 0, [(.iload_n 2, []), (.bipush 21, []), (.if_icmp .ne 5, [10, 9])]),
  (50, none, 0, [(.iconst 0, []), (.ireturn, [])]),
  (52, none, 0, [(.iload_n 3, []), (.sipush 500, []), (.if_icmp .ge 12, [12, 11])]),
  (59, none, 0, [(.aload_n 0, []), (.iload_n 1, []), (.iload_n 2, []), (.invokevirtual 40, [242, 1, 3, 634, 636, 2307, 0]), (.ifCond .ne 7, [13, 12])]),
  (68, none, 0, [(.iconst 2, []), (.goto 4, [14])]),
  (72, none, 14, [(.iconst 0, [])]),
  (73, none, 0, [(.ireturn, [])])])
def pm_X3_follow : sm_M := (yX3_follow, prog_5_method_3_code, 3, (some .int), 2, 0, 0, [631, 4, 1], [
  (0, some [0, 1], 1, [(.iconst 0, []), (.istore_n 2, [])]),
  (2, some [0, 1, 2], 0, [(.iload_n 2, []), (.iconst 2, []), (.iadd, []), (.getstatic 33, [1001, 632]), (.arraylength, []), (.if_icmp .ge 37, [6, 2])]),
  (12, none, 0, [(.getstatic 33, [1001, 632]), (.iload_n 2, []), (.iaload, []), (.iload_n 0, []), (.if_icmp .ne 22, [5, 3])]),
  (21, none, 0, [(.getstatic 33, [1001, 632]), (.iload_n 2, []), (.iconst 1, []), (.iadd, []), (.iaload, []), (.iload_n 1, []), (.if_icmp .ne 11, [5, 4])]),
  (32, none, 0, [(.getstatic 33, [1001, 632]), (.iload_n 2, []), (.iconst 2, []), (.iadd, []), (.iaload, []), (.ireturn, [])]),
  (40, none, 0, [(.iinc 2 3, []), (.goto (-41), [1])]),
  (46, none, 0, [(.iconst (-1), []), (.ireturn, [])])])
def pm_X3_hasRoom : sm_M := (yX3_hasRoom, prog_5_method_6_code, 4, (some .boolean), 2, 0, 0, [637, 4, 1], [
  (0, some [0, 1, 2], 0, [(.iload_n 1, []), (.ifCond .ne 70, [9, 1])]),
  (4, none, 0, [(.iload_n 2, []), (.aload_n 0, []), (.getfield 9, [3, 0, 64]), (.arraylength, []), (.if_icmp .ge 61, [9, 2])]),
  (13, none, 0, [(.iload_n 2, []), (.bipush 8, []), (.if_icmp .ne 8, [4, 3])]),
  (19, none, 0, [(.bipush 6, []), (.goto 4, [5])]),
  (24, none, 5, [(.iload_n 2, [])]),
  (25, none, 0, [(.istore_n 3, []), (.aload_n 0, []), (.iload_n 2, []), (.putfield 15, [3, 1, 65]), (.aload_n 0, []), (.iconst 1, []), (.putfield 19, [3, 2, 66]), (.aload_n 0, []), (.iconst 1, []), (.putfield 22, [3, 3, 67]), (.aload_n 0, []), (.getfield 9, [3, 0, 64]), (.iload_n 3, []), (.dup2, []), (.iaload, []), (.iconst 1, []), (.iadd, []), (.iastore, []), (.aload_n 0, []), (.getfield 9, [3, 0, 64]), (.iload_n 3, []), (.iaload, []), (.getstatic 44, [1002, 638]), (.iload_n 3, []), (.iaload, []), (.if_icmp .gt 7, [7, 6])]),
  (65, none, 0, [(.iconst 1, []), (.goto 4, [8])]),
  (69, none, 8, [(.iconst 0, [])]),
  (70, none, 0, [(.ireturn, [])]),
  (71, none, 0, [(.iload_n 2, []), (.bipush 9, []), (.if_icmp .ne 21, [11, 10])]),
  (77, none, 0, [(.aload_n 0, []), (.dup, []), (.getfield 19, [3, 2, 66]), (.iconst 1, []), (.iadd, []), (.putfield 19, [3, 2, 66]), (.aload_n 0, []), (.iconst 1, []), (.putfield 22, [3, 3, 67]), (.goto 19, [13])]),
  (95, none, 0, [(.iload_n 2, []), (.bipush 13, []), (.if_icmp .ne 13, [13, 12])]),
  (101, none, 13, [(.aload_n 0, []), (.dup, []), (.getfield 22, [3, 3, 67]), (.iconst 1, []), (.iadd, []), (.putfield 22, [3, 3, 67])]),
  (111, some [0], 0, [(.aload_n 0, []), (.getfield 19, [3, 2, 66]), (.iconst 4, []), (.if_icmp .gt 15, [16, 14])]),
  (119, none, 0, [(.aload_n 0, []), (.getfield 22, [3, 3, 67]), (.iconst 3, []), (.if_icmp .gt 7, [16, 15])]),
  (127, none, 0, [(.iconst 1, []), (.goto 4, [17])]),
  (131, none, 17, [(.iconst 0, [])]),
  (132, some [], 0, [(.ireturn, [])])])
def pm_X3_init : sm_M := (yX3_init, prog_5_method_1_code, 1, none, 0, 1, 15, [62, 4, 1], [
  (0, some [0], 0, [(.aload_n 0, []), (.invokespecial 3, [63, 24, 25]), (.aload_n 0, []), (.bipush 15, []), (.newarray .int, [0, 56]), (.putfield 9, [3, 0, 64]), (.aload_n 0, []), (.iconst 0, []), (.putfield 15, [3, 1, 65]), (.aload_n 0, []), (.iconst 0, []), (.putfield 19, [3, 2, 66]), (.aload_n 0, []), (.iconst 0, []), (.putfield 22, [3, 3, 67]), (.return_, [])])])
def pm_X3_isBehindMinus : sm_M := (yX3_isBehindMinus, prog_5_method_4_code, 1, (some .boolean), 1, 0, 0, [714, 4, 1], [
  (0, some [0], 0, [(.iload_n 0, []), (.bipush 22, []), (.if_icmp .eq 9, [2, 1])]),
  (6, none, 0, [(.iload_n 0, []), (.bipush 24, []), (.if_icmp .ne 7, [3, 2])]),
  (12, none, 0, [(.iconst 1, []), (.goto 4, [4])]),
  (16, none, 4, [(.iconst 0, [])]),
  (17, none, 0, [(.ireturn, [])])])
def pm_X4_clear : sm_M := (yX4_clear, prog_6_method_2_code, 1, none, 0, 0, 0, [280, 8, 1], [
  (0, some [0], 0, [(.aload_n 0, []), (.iconst 0, []), (.putfield 30, [4, 0, 282]), (.aload_n 0, []), (.iconst 0, []), (.putfield 34, [4, 1, 285]), (.aload_n 0, []), (.getfield 9, [4, 2, 288]), (.iconst (-1), []), (.invokestatic 37, [306, 0, 0, 281, 117, 0, 0]), (.aload_n 0, []), (.getfield 15, [4, 3, 290]), (.iconst (-1), []), (.invokestatic 37, [306, 0, 0, 281, 117, 0, 0]), (.return_, [])])])
def pm_X4_init : sm_M := (yX4_init, prog_6_method_1_code, 1, none, 0, 7, 93, [273, 8, 1], [
  (0, some [0], 0, [(.aload_n 0, []), (.invokespecial 3, [274, 24, 25]), (.aload_n 0, []), (.bipush 10, []), (.newarray .int, [0, 56]), (.putfield 9, [4, 2, 288]), (.aload_n 0, []), (.bipush 55, []), (.newarray .int, [0, 56]), (.putfield 15, [4, 3, 290]), (.aload_n 0, []), (.new 18, [8, 275, 84, 6]), (.dup, []), (.bipush 6, []), (.invokespecial 20, [290, 1, 8, 276, 86, 0, 0]), (.putfield 23, [4, 4, 293]), (.aload_n 0, []), (.invokevirtual 27, [245, 1, 4, 277, 278, 279, 0]), (.return_, [])])])
def pm_X5_blank : sm_M := (yX5_blank, prog_7_method_4_code, 4, none, 1, 0, 0, [841, 11, 1], [
  (0, some [0, 1], 0, [(.iload_n 1, []), (.iconst 1, []), (.if_icmp .lt 12, [2, 1])]),
  (5, none, 0, [(.iload_n 1, []), (.aload_n 0, []), (.getfield 22, [5, 1, 338]), (.arraylength, []), (.if_icmp .le 4, [3, 2])]),
  (14, none, 0, [(.return_, [])]),
  (15, none, 4, [(.aload_n 0, []), (.iload_n 1, []), (.putfield 9, [5, 4, 341]), (.aload_n 0, []), (.iload_n 1, []), (.iload_n 1, []), (.imul, []), (.putfield 15, [5, 5, 342]), (.iconst 0, []), (.istore_n 2, [])]),
  (29, some [0, 2], 0, [(.iload_n 2, []), (.aload_n 0, []), (.getfield 9, [5, 4, 341]), (.if_icmp .ge 75, [13, 5])]),
  (37, none, 6, [(.aload_n 0, []), (.getfield 22, [5, 1, 338]), (.iload_n 2, []), (.iload_n 2, []), (.iastore, []), (.aload_n 0, []), (.getfield 25, [5, 2, 339]), (.iload_n 2, []), (.iconst 0, []), (.iastore, []), (.aload_n 0, []), (.getfield 28, [5, 3, 340]), (.iload_n 2, []), (.iconst 0, []), (.iastore, []), (.iconst 0, []), (.istore_n 3, [])]),
  (60, some [0, 2, 3], 0, [(.iload_n 3, []), (.aload_n 0, []), (.getfield 9, [5, 4, 341]), (.if_icmp .ge 38, [12, 7])]),
  (68, none, 0, [(.aload_n 0, []), (.getfield 18, [5, 0, 337]), (.iload_n 2, []), (.aload_n 0, []), (.getfield 9, [5, 4, 341]), (.imul, []), (.iload_n 3, []), (.iadd, []), (.iload_n 2, []), (.ifCond .eq 8, [9, 8])]),
  (84, none, 0, [(.iload_n 2, []), (.iload_n 3, []), (.if_icmp .ne 7, [10, 9])]),
  (89, none, 0, [(.iconst 0, []), (.goto 6, [11])]),
  (93, none, 11, [(.sipush 1440, [])]),
  (96, none, 0, [(.iastore, []), (.iinc 3 1, []), (.goto (-40), [6])]),
  (103, none, 0, [(.iinc 2 1, []), (.goto (-77), [4])]),
  (109, none, 0, [(.return_, [])])])
def pm_X5_copyUp : sm_M := (yX5_copyUp, prog_7_method_6_code, 2, none, 1, 0, 0, [907, 11, 1], [
  (0, some [0, 1], 0, [(.aload_n 0, []), (.iload_n 1, []), (.invokevirtual 35, [249, 1, 5, 882, 884, 2572, 0]), (.ifCond .eq 42, [3, 1])]),
  (8, none, 0, [(.aload_n 0, []), (.iload_n 1, []), (.iconst 1, []), (.iadd, []), (.invokevirtual 35, [249, 1, 5, 882, 884, 2572, 0]), (.ifCond .eq 32, [3, 2])]),
  (18, none, 3, [(.aload_n 0, []), (.getfield 18, [5, 0, 337]), (.iload_n 1, []), (.aload_n 0, []), (.getfield 15, [5, 5, 342]), (.imul, []), (.aload_n 0, []), (.getfield 18, [5, 0, 337]), (.iload_n 1, []), (.iconst 1, []), (.iadd, []), (.aload_n 0, []), (.getfield 15, [5, 5, 342]), (.imul, []), (.aload_n 0, []), (.getfield 15, [5, 5, 342]), (.invokestatic 38, [0, 908, 910, 909, 16])]),
  (47, none, 0, [(.return_, [])])])
def pm_X5_hasLevel : sm_M := (yX5_hasLevel, prog_7_method_2_code, 2, (some .boolean), 1, 0, 0, [885, 11, 1], [
  (0, some [0, 1], 0, [(.iload_n 1, []), (.ifCond .lt 23, [3, 1])]),
  (4, none, 0, [(.iload_n 1, []), (.iconst 1, []), (.iadd, []), (.aload_n 0, []), (.getfield 15, [5, 5, 342]), (.imul, []), (.aload_n 0, []), (.getfield 18, [5, 0, 337]), (.arraylength, []), (.if_icmp .gt 7, [3, 2])]),
  (20, none, 0, [(.iconst 1, []), (.goto 4, [4])]),
  (24, none, 4, [(.iconst 0, [])]),
  (25, none, 0, [(.ireturn, [])])])
def pm_X5_hasNode : sm_M := (yX5_hasNode, prog_7_method_3_code, 2, (some .boolean), 1, 0, 0, [849, 11, 1], [
  (0, some [0, 1], 0, [(.iload_n 1, []), (.ifCond .lt 15, [3, 1])]),
  (4, none, 0, [(.iload_n 1, []), (.aload_n 0, []), (.getfield 9, [5, 4, 341]), (.if_icmp .ge 7, [3, 2])]),
  (12, none, 0, [(.iconst 1, []), (.goto 4, [4])]),
  (16, none, 4, [(.iconst 0, [])]),
  (17, none, 0, [(.ireturn, [])])])
def pm_X5_init_6809 : sm_M := (yX5_init, prog_7_method_1_code, 3, none, 2, 4, 6809, [335, 11, 1], [
  (0, some [0, 1, 2], 0, [(.aload_n 0, []), (.invokespecial 3, [336, 24, 25]), (.aload_n 0, []), (.iconst 1, []), (.putfield 9, [5, 4, 341]), (.aload_n 0, []), (.iconst 1, []), (.putfield 15, [5, 5, 342]), (.aload_n 0, []), (.iload_n 1, []), (.iload_n 2, []), (.imul, []), (.iload_n 2, []), (.imul, []), (.newarray .int, [0, 56]), (.putfield 18, [5, 0, 337]), (.aload_n 0, []), (.iload_n 2, []), (.newarray .int, [0, 56]), (.putfield 22, [5, 1, 338]), (.aload_n 0, []), (.iload_n 2, []), (.newarray .int, [0, 56]), (.putfield 25, [5, 2, 339]), (.aload_n 0, []), (.iload_n 2, []), (.newarray .int, [0, 56]), (.putfield 28, [5, 3, 340]), (.return_, [])])])
def pm_X5_init_7414 : sm_M := (yX5_init, prog_7_method_1_code, 3, none, 2, 4, 7414, [335, 11, 1], [
  (0, some [0, 1, 2], 0, [(.aload_n 0, []), (.invokespecial 3, [336, 24, 25]), (.aload_n 0, []), (.iconst 1, []), (.putfield 9, [5, 4, 341]), (.aload_n 0, []), (.iconst 1, []), (.putfield 15, [5, 5, 342]), (.aload_n 0, []), (.iload_n 1, []), (.iload_n 2, []), (.imul, []), (.iload_n 2, []), (.imul, []), (.newarray .int, [0, 56]), (.putfield 18, [5, 0, 337]), (.aload_n 0, []), (.iload_n 2, []), (.newarray .int, [0, 56]), (.putfield 22, [5, 1, 338]), (.aload_n 0, []), (.iload_n 2, []), (.newarray .int, [0, 56]), (.putfield 25, [5, 2, 339]), (.aload_n 0, []), (.iload_n 2, []), (.newarray .int, [0, 56]), (.putfield 28, [5, 3, 340]), (.return_, [])])])
def pm_X5_init_9540 : sm_M := (yX5_init, prog_7_method_1_code, 3, none, 2, 4, 9540, [335, 11, 1], [
  (0, some [0, 1, 2], 0, [(.aload_n 0, []), (.invokespecial 3, [336, 24, 25]), (.aload_n 0, []), (.iconst 1, []), (.putfield 9, [5, 4, 341]), (.aload_n 0, []), (.iconst 1, []), (.putfield 15, [5, 5, 342]), (.aload_n 0, []), (.iload_n 1, []), (.iload_n 2, []), (.imul, []), (.iload_n 2, []), (.imul, []), (.newarray .int, [0, 56]), (.putfield 18, [5, 0, 337]), (.aload_n 0, []), (.iload_n 2, []), (.newarray .int, [0, 56]), (.putfield 22, [5, 1, 338]), (.aload_n 0, []), (.iload_n 2, []), (.newarray .int, [0, 56]), (.putfield 25, [5, 2, 339]), (.aload_n 0, []), (.iload_n 2, []), (.newarray .int, [0, 56]), (.putfield 28, [5, 3, 340]), (.return_, [])])])
def pm_X5_loose : sm_M := (yX5_loose, prog_7_method_5_code, 5, none, 4, 0, 0, [845, 11, 1], [
  (0, some [0, 1, 2, 3, 4], 0, [(.aload_n 0, []), (.iload_n 1, []), (.invokevirtual 31, [250, 1, 5, 846, 848, 2568, 0]), (.ifCond .eq 33, [3, 1])]),
  (8, none, 0, [(.aload_n 0, []), (.iload_n 2, []), (.invokevirtual 31, [250, 1, 5, 846, 848, 2568, 0]), (.ifCond .eq 25, [3, 2])]),
  (16, none, 3, [(.aload_n 0, []), (.getfield 22, [5, 1, 338]), (.iload_n 1, []), (.iload_n 2, []), (.iastore, []), (.aload_n 0, []), (.getfield 25, [5, 2, 339]), (.iload_n 1, []), (.iload_n 3, []), (.iastore, []), (.aload_n 0, []), (.getfield 28, [5, 3, 340]), (.iload_n 1, []), (.iload 4, []), (.iastore, [])]),
  (38, none, 0, [(.return_, [])])])
def pm_X5_reach : sm_M := (yX5_reach, prog_7_method_7_code, 4, (some .int), 3, 0, 0, [881, 11, 1], [
  (0, some [0, 1, 2, 3], 0, [(.aload_n 0, []), (.iload_n 1, []), (.invokevirtual 35, [249, 1, 5, 882, 884, 2572, 0]), (.ifCond .eq 19, [3, 1])]),
  (8, none, 0, [(.aload_n 0, []), (.iload_n 2, []), (.invokevirtual 31, [250, 1, 5, 846, 848, 2568, 0]), (.ifCond .eq 11, [3, 2])]),
  (16, none, 0, [(.aload_n 0, []), (.iload_n 3, []), (.invokevirtual 31, [250, 1, 5, 846, 848, 2568, 0]), (.ifCond .ne 5, [4, 3])]),
  (24, none, 0, [(.iconst 0, []), (.ireturn, [])]),
  (26, none, 0, [(.aload_n 0, []), (.getfield 18, [5, 0, 337]), (.iload_n 1, []), (.aload_n 0, []), (.getfield 15, [5, 5, 342]), (.imul, []), (.iload_n 2, []), (.aload_n 0, []), (.getfield 9, [5, 4, 341]), (.imul, []), (.iadd, []), (.iload_n 3, []), (.iadd, []), (.iaload, []), (.ireturn, [])])])
def pm_X5_tighten : sm_M := (yX5_tighten, prog_7_method_8_code, 14, (some .boolean), 4, 0, 0, [857, 11, 1], [
  (0, some [0, 1, 2, 3, 4], 0, [(.iload_n 1, []), (.ifCond .lt 23, [3, 1])]),
  (4, none, 0, [(.iload_n 1, []), (.iconst 1, []), (.iadd, []), (.aload_n 0, []), (.getfield 15, [5, 5, 342]), (.imul, []), (.aload_n 0, []), (.getfield 18, [5, 0, 337]), (.arraylength, []), (.if_icmp .gt 7, [3, 2])]),
  (20, none, 0, [(.iconst 1, []), (.goto 4, [4])]),
  (24, none, 4, [(.iconst 0, [])]),
  (25, some [0, 1, 2, 3, 4], 0, [(.istore 5, []), (.iload 5, []), (.ifCond .eq 27, [9, 5])]),
  (32, none, 0, [(.iload_n 2, []), (.ifCond .lt 23, [9, 6])]),
  (36, none, 0, [(.iload_n 2, []), (.aload_n 0, []), (.getfield 9, [5, 4, 341]), (.if_icmp .ge 15, [9, 7])]),
  (44, none, 0, [(.iload_n 3, []), (.ifCond .lt 11, [9, 8])]),
  (48, none, 0, [(.iload_n 3, []), (.aload_n 0, []), (.getfield 9, [5, 4, 341]), (.if_icmp .lt 5, [10, 9])]),
  (56, none, 0, [(.iconst 0, []), (.ireturn, [])]),
  (58, none, 0, [(.iload_n 2, []), (.iload_n 3, []), (.if_icmp .ne 14, [15, 11])]),
  (63, none, 0, [(.iload 4, []), (.ifCond .lt 7, [13, 12])]),
  (68, none, 0, [(.iconst 1, []), (.goto 4, [14])]),
  (72, none, 14, [(.iconst 0, [])]),
  (73, none, 0, [(.ireturn, [])]),
  (74, none, 16, [(.iload 4, []), (.aload_n 0, []), (.getfield 28, [5, 3, 340]), (.iload_n 2, []), (.iaload, []), (.isub, []), (.aload_n 0, []), (.getfield 25, [5, 2, 339]), (.iload_n 3, []), (.iaload, []), (.iadd, []), (.istore 6, []), (.iload_n 1, []), (.aload_n 0, []), (.getfield 15, [5, 5, 342]), (.imul, []), (.istore 7, []), (.aload_n 0, []), (.getfield 22, [5, 1, 338]), (.iload_n 2, []), (.iaload, []), (.istore 8, []), (.aload_n 0, []), (.getfield 22, [5, 1, 338]), (.iload_n 3, []), (.iaload, []), (.istore 9, []), (.iload 7, []), (.iload 9, []), (.aload_n 0, []), (.getfield 9, [5, 4, 341]), (.imul, []), (.iadd, []), (.istore 10, []), (.aload_n 0, []), (.getfield 18, [5, 0, 337]), (.iload 10, []), (.iload 8, []), (.iadd, []), (.iaload, [])]),
  (138, none, 0, [(.iload 6, []), (.iadd, []), (.ifCond .ge 5, [18, 17])]),
  (144, none, 0, [(.iconst 0, []), (.ireturn, [])]),
  (146, none, 0, [(.aload_n 0, []), (.getfield 18, [5, 0, 337]), (.iload 7, []), (.iload 8, []), (.aload_n 0, []), (.getfield 9, [5, 4, 341]), (.imul, []), (.iadd, []), (.iload 9, []), (.iadd, []), (.iaload, []), (.iload 6, []), (.if_icmp .gt 5, [20, 19])]),
  (169, none, 0, [(.iconst 1, []), (.ireturn, [])]),
  (171, none, 21, [(.iconst 0, []), (.istore 11, [])]),
  (174, some [0, 6, 7, 8, 9, 10, 11], 0, [(.iload 11, []), (.aload_n 0, []), (.getfield 9, [5, 4, 341]), (.if_icmp .ge 61, [25, 22])]),
  (183, none, 0, [(.iload 7, []), (.iload 11, []), (.aload_n 0, []), (.getfield 9, [5, 4, 341]), (.imul, []), (.iadd, []), (.istore 12, []), (.aload_n 0, []), (.getfield 18, [5, 0, 337]), (.iload 12, []), (.iload 8, []), (.iadd, []), (.iaload, []), (.iload 6, []), (.iadd, []), (.istore 13, []), (.iload 13, []), (.aload_n 0, []), (.getfield 18, [5, 0, 337]), (.iload 12, []), (.iload 9, []), (.iadd, []), (.iaload, []), (.if_icmp .ge 13, [24, 23])]),
  (225, none, 24, [(.aload_n 0, []), (.iload 12, []), (.iload 13, []), (.iload 10, []), (.invokevirtual 44, [257, 1, 5, 858, 860, 2569, 0])]),
  (235, none, 0, [(.iinc 11 1, []), (.goto (-64), [21])]),
  (241, none, 0, [(.iconst 1, []), (.ireturn, [])])])
def pm_X5_tightenRow : sm_M := (yX5_tightenRow, prog_7_method_9_code, 6, none, 3, 0, 0, [861, 11, 1], [
  (0, some [0, 1, 2, 3], 1, [(.iconst 0, []), (.istore 4, [])]),
  (3, some [0, 1, 2, 3, 4], 0, [(.iload 4, []), (.aload_n 0, []), (.getfield 9, [5, 4, 341]), (.if_icmp .ge 47, [5, 2])]),
  (12, none, 0, [(.iload_n 2, []), (.aload_n 0, []), (.getfield 18, [5, 0, 337]), (.iload_n 3, []), (.iload 4, []), (.iadd, []), (.iaload, []), (.iadd, []), (.istore 5, []), (.iload 5, []), (.aload_n 0, []), (.getfield 18, [5, 0, 337]), (.iload_n 1, []), (.iload 4, []), (.iadd, []), (.iaload, []), (.if_icmp .ge 14, [4, 3])]),
  (39, none, 4, [(.aload_n 0, []), (.getfield 18, [5, 0, 337]), (.iload_n 1, []), (.iload 4, []), (.iadd, []), (.iload 5, []), (.iastore, [])]),
  (50, none, 0, [(.iinc 4 1, []), (.goto (-50), [1])]),
  (56, none, 0, [(.return_, [])])])
def pm_X6_cheapestGiving : sm_M := (yX6_cheapestGiving, prog_8_method_11_code, 6, (some .int), 1, 0, 0, [1077, 12, 1], [
  (0, some [0, 1], 1, [(.iconst (-1), []), (.istore_n 2, []), (.iconst 0, []), (.istore_n 3, []), (.iconst 0, []), (.istore 4, [])]),
  (7, some [0, 1, 2, 3, 4], 0, [(.iload 4, []), (.aload_n 0, []), (.getfield 26, [6, 5, 438]), (.if_icmp .ge 39, [6, 2])]),
  (16, none, 0, [(.aload_n 1, []), (.aload_n 0, []), (.getfield 19, [6, 3, 434]), (.iload 4, []), (.iaload, []), (.invokevirtual 123, [26, 1, 10, 1078, 1079, 1080, 0]), (.istore 5, []), (.iload_n 2, []), (.iconst (-1), []), (.if_icmp .eq 9, [4, 3])]),
  (34, none, 0, [(.iload 5, []), (.iload_n 3, []), (.if_icmp .ge 9, [5, 4])]),
  (40, none, 5, [(.iload 4, []), (.istore_n 2, []), (.iload 5, []), (.istore_n 3, [])]),
  (46, none, 0, [(.iinc 4 1, []), (.goto (-42), [1])]),
  (52, none, 0, [(.iload_n 2, []), (.ireturn, [])])])
def pm_X6_goThroughAll : sm_M := (yX6_goThroughAll, prog_8_method_3_code, 5, (some .boolean), 3, 0, 0, [1037, 12, 1], [
  (0, some [0, 1, 2, 3], 1, [(.iconst 0, []), (.istore 4, [])]),
  (3, some [0, 1, 2, 3, 4], 0, [(.iload 4, []), (.sipush 1024, []), (.if_icmp .ge 81, [11, 2])]),
  (11, none, 0, [(.iload 4, []), (.iload_n 3, []), (.iconst (-1), []), (.ixor, []), (.iand, []), (.ifCond .eq 6, [4, 3])]),
  (20, none, 0, [(.goto 63, [10])]),
  (23, none, 0, [(.aload_n 0, []), (.getfield 48, [6, 0, 430]), (.aload_n 1, []), (.aload_n 2, []), (.iload 4, []), (.aload_n 1, []), (.getfield 58, [10, 6, 140]), (.ior, []), (.iconst 0, []), (.invokevirtual 74, [220, 1, 2, 1038, 831, 832, 0]), (.aload_n 0, []), (.getfield 48, [6, 0, 430]), (.aconst_null, []), (.iconst 1, []), (.invokevirtual 80, [225, 1, 2, 1039, 867, 868, 0]), (.aload_n 0, []), (.getfield 48, [6, 0, 430]), (.getfield 84, [2, 15, 381]), (.ifCond .eq 5, [6, 5])]),
  (59, none, 0, [(.iconst 0, []), (.ireturn, [])]),
  (61, none, 0, [(.aload_n 0, []), (.getfield 11, [6, 1, 431]), (.iload 4, []), (.aload_n 0, []), (.getfield 48, [6, 0, 430]), (.getfield 85, [2, 14, 378]), (.ifCond .le 7, [8, 7])]),
  (77, none, 0, [(.iconst 1, []), (.goto 4, [9])]),
  (81, none, 9, [(.iconst 0, [])]),
  (82, none, 10, [(.bastore, [])]),
  (83, none, 0, [(.iinc 4 1, []), (.goto (-83), [1])]),
  (89, none, 0, [(.iconst 1, []), (.ireturn, [])])])
def pm_X6_holdTogether : sm_M := (yX6_holdTogether, prog_8_method_8_code, 7, (some .boolean), 2, 0, 0, [1102, 12, 1], [
  (0, some [0, 1, 2], 1, [(.aload_n 0, []), (.getfield 48, [6, 0, 430]), (.getfield 110, [2, 12, 372]), (.istore 4, []), (.iconst 0, []), (.istore 5, []), (.iconst 0, []), (.istore 6, [])]),
  (15, some [0, 1, 2, 4, 5, 6], 0, [(.iload 6, []), (.bipush 55, []), (.if_icmp .ge 62, [7, 2])]),
  (22, none, 0, [(.iload 4, []), (.ifCond .eq 57, [7, 3])]),
  (27, none, 0, [(.aload_n 1, []), (.getfield 113, [4, 3, 291]), (.iload 6, []), (.iaload, []), (.iconst (-1), []), (.if_icmp .eq 40, [6, 4])]),
  (38, none, 0, [(.lload_n 2, []), (.iload 6, []), (.lshr, []), (.lconst 1, []), (.land, []), (.lconst 0, []), (.lcmp, []), (.ifCond .ne 29, [6, 5])]),
  (49, none, 6, [(.aload_n 0, []), (.getfield 48, [6, 0, 430]), (.iload 5, []), (.iload 6, []), (.invokestatic 116, [266, 0, 0, 1103, 1104, 0, 0]), (.aload_n 1, []), (.getfield 113, [4, 3, 291]), (.iload 6, []), (.iaload, []), (.invokevirtual 119, [234, 1, 2, 1106, 901, 902, 0]), (.istore 4, []), (.iinc 5 1, [])]),
  (75, none, 0, [(.iinc 6 1, []), (.goto (-63), [1])]),
  (81, none, 0, [(.iload 4, []), (.ireturn, [])])])
def pm_X6_init : sm_M := (yX6_init, prog_8_method_1_code, 2, none, 1, 4, 1583, [428, 12, 1], [
  (0, some [0, 1], 1, [(.aload_n 0, []), (.invokespecial 3, [429, 24, 25]), (.aload_n 0, []), (.sipush 1024, []), (.newarray .boolean, [2, 475]), (.putfield 11, [6, 1, 431]), (.aload_n 0, []), (.sipush 252, []), (.newarray .int, [0, 56]), (.putfield 15, [6, 2, 432]), (.aload_n 0, []), (.sipush 252, []), (.newarray .int, [0, 56]), (.putfield 19, [6, 3, 434]), (.aload_n 0, []), (.iconst 0, []), (.putfield 22, [6, 4, 436]), (.aload_n 0, []), (.iconst 0, []), (.putfield 26, [6, 5, 438]), (.aload_n 0, []), (.bipush 55, []), (.newarray .int, [0, 56]), (.putfield 29, [6, 6, 440]), (.aload_n 0, []), (.iconst 0, []), (.putfield 32, [6, 7, 442]), (.aload_n 0, []), (.iconst 0, []), (.putfield 35, [6, 8, 444]), (.aload_n 0, []), (.iconst 0, []), (.putfield 39, [6, 9, 446]), (.aload_n 0, []), (.iconst 0, []), (.putfield 42, [6, 10, 448]), (.aload_n 0, []), (.iconst 0, []), (.putfield 45, [6, 11, 449]), (.aload_n 0, [])]),
  (75, none, 0, [(.aload_n 1, []), (.putfield 48, [6, 0, 430]), (.return_, [])])])
def pm_X6_isGivingUp : sm_M := (yX6_isGivingUp, prog_8_method_6_code, 5, (some .boolean), 2, 0, 0, [1057, 12, 1], [
  (0, some [0, 1, 2], 0, [(.iload_n 1, []), (.iload_n 2, []), (.iconst (-1), []), (.ixor, []), (.iand, []), (.istore_n 3, []), (.aload_n 0, []), (.getfield 11, [6, 1, 431]), (.iload_n 3, []), (.baload, []), (.ifCond .ne 5, [2, 1])]),
  (15, none, 0, [(.iconst 0, []), (.ireturn, [])]),
  (17, none, 3, [(.iconst 0, []), (.istore 4, [])]),
  (20, some [0, 2, 3, 4], 0, [(.iload 4, []), (.bipush 10, []), (.if_icmp .ge 34, [8, 4])]),
  (27, none, 0, [(.iload_n 2, []), (.iload 4, []), (.ishr, []), (.iconst 1, []), (.iand, []), (.ifCond .eq 19, [7, 5])]),
  (36, none, 0, [(.aload_n 0, []), (.getfield 11, [6, 1, 431]), (.iload_n 3, []), (.iconst 1, []), (.iload 4, []), (.ishl, []), (.ior, []), (.baload, []), (.ifCond .eq 5, [7, 6])]),
  (50, none, 0, [(.iconst 0, []), (.ireturn, [])]),
  (52, none, 0, [(.iinc 4 1, []), (.goto (-35), [3])]),
  (58, none, 0, [(.iconst 1, []), (.ireturn, [])])])
def pm_X6_isKnown : sm_M := (yX6_isKnown, prog_8_method_2_code, 5, (some .boolean), 2, 0, 0, [1032, 12, 1], [
  (0, some [0, 1, 2], 0, [(.aload_n 0, []), (.getfield 35, [6, 8, 444]), (.ifCond .ne 86, [8, 1])]),
  (7, none, 0, [(.aload_n 0, []), (.iconst 1, []), (.putfield 35, [6, 8, 444]), (.aload_n 0, []), (.iconst 0, []), (.putfield 22, [6, 4, 436]), (.aload_n 0, []), (.iconst 0, []), (.putfield 26, [6, 5, 438]), (.aload_n 1, []), (.invokevirtual 52, [15, 1, 10, 1033, 827, 828, 0]), (.aload_n 1, []), (.getfield 58, [10, 6, 140]), (.iconst (-1), []), (.ixor, []), (.iand, []), (.aload_n 2, []), (.getfield 61, [4, 0, 283]), (.iconst (-1), []), (.ixor, []), (.iand, []), (.istore_n 3, []), (.aload_n 0, []), (.aload_n 0, []), (.aload_n 1, []), (.aload_n 2, []), (.iload_n 3, []), (.invokevirtual 66, [259, 1, 6, 1034, 1036, 2819, 0]), (.ifCond .ne 7, [3, 2])]),
  (52, none, 0, [(.iconst 1, []), (.goto 4, [4])]),
  (56, none, 4, [(.iconst 0, [])]),
  (57, none, 5, [(.putfield 42, [6, 10, 448]), (.iconst 0, []), (.istore 4, [])]),
  (63, some [0, 3, 4], 0, [(.iload 4, []), (.bipush 10, []), (.if_icmp .gt 23, [8, 6])]),
  (70, none, 0, [(.aload_n 0, []), (.getfield 42, [6, 10, 448]), (.ifCond .ne 16, [8, 7])]),
  (77, none, 0, [(.aload_n 0, []), (.iload_n 3, []), (.iload 4, []), (.invokevirtual 70, [268, 1, 6, 1040, 1042, 2820, 0]), (.iinc 4 1, []), (.goto (-24), [5])]),
  (90, none, 0, [(.aload_n 0, []), (.getfield 42, [6, 10, 448]), (.ifCond .ne 7, [10, 9])]),
  (97, none, 0, [(.iconst 1, []), (.goto 4, [11])]),
  (101, none, 11, [(.iconst 0, [])]),
  (102, none, 0, [(.ireturn, [])])])
def pm_X6_isQuarrel : sm_M := (yX6_isQuarrel, prog_8_method_5_code, 3, (some .boolean), 1, 0, 0, [1053, 12, 1], [
  (0, some [0, 1], 0, [(.aload_n 0, []), (.getfield 11, [6, 1, 431]), (.iload_n 1, []), (.baload, []), (.ifCond .eq 5, [2, 1])]),
  (9, none, 0, [(.iconst 0, []), (.ireturn, [])]),
  (11, none, 3, [(.iconst 0, []), (.istore_n 2, [])]),
  (13, some [0, 1, 2], 0, [(.iload_n 2, []), (.bipush 10, []), (.if_icmp .ge 34, [8, 4])]),
  (19, none, 0, [(.iload_n 1, []), (.iload_n 2, []), (.ishr, []), (.iconst 1, []), (.iand, []), (.ifCond .eq 20, [7, 5])]),
  (27, none, 0, [(.aload_n 0, []), (.getfield 11, [6, 1, 431]), (.iload_n 1, []), (.iconst 1, []), (.iload_n 2, []), (.ishl, []), (.iconst (-1), []), (.ixor, []), (.iand, []), (.baload, []), (.ifCond .ne 5, [7, 6])]),
  (42, none, 0, [(.iconst 0, []), (.ireturn, [])]),
  (44, none, 0, [(.iinc 2 1, []), (.goto (-34), [3])]),
  (50, none, 0, [(.iconst 1, []), (.ireturn, [])])])
def pm_X6_isTight : sm_M := (yX6_isTight, prog_8_method_7_code, 3, (some .boolean), 2, 0, 0, [1098, 12, 1], [
  (0, some [0, 1, 2], 0, [(.aload_n 0, []), (.getfield 39, [6, 9, 446]), (.ifCond .ne 54, [6, 1])]),
  (7, none, 0, [(.aload_n 0, []), (.iconst 1, []), (.putfield 39, [6, 9, 446]), (.aload_n 0, []), (.getfield 48, [6, 0, 430]), (.aload_n 1, []), (.aload_n 2, []), (.iconst 0, []), (.iconst 0, []), (.invokevirtual 74, [220, 1, 2, 1038, 831, 832, 0]), (.aload_n 0, []), (.aload_n 0, []), (.aload_n 2, []), (.lconst 0, []), (.invokevirtual 102, [260, 1, 6, 1099, 1101, 2823, 0]), (.ifCond .ne 7, [3, 2])]),
  (33, none, 0, [(.iconst 1, []), (.goto 4, [4])]),
  (37, none, 4, [(.iconst 0, [])]),
  (38, none, 0, [(.putfield 45, [6, 11, 449]), (.aload_n 0, []), (.iconst 0, []), (.putfield 32, [6, 7, 442]), (.aload_n 0, []), (.getfield 45, [6, 11, 449]), (.ifCond .eq 8, [6, 5])]),
  (53, none, 6, [(.aload_n 0, []), (.aload_n 2, []), (.invokevirtual 106, [267, 1, 6, 1107, 1109, 2824, 0])]),
  (58, none, 0, [(.aload_n 0, []), (.getfield 45, [6, 11, 449]), (.ireturn, [])])])
def pm_X6_itemOf : sm_M := (yX6_itemOf, prog_8_method_9_code, 1, (some .int), 1, 0, 0, [1105, 12, 1], [
  (0, some [0], 0, [(.iload_n 0, []), (.bipush 10, []), (.if_icmp .ge 7, [2, 1])]),
  (6, none, 0, [(.iload_n 0, []), (.goto 10, [3])]),
  (10, none, 3, [(.iload_n 0, []), (.bipush 10, []), (.isub, []), (.bipush 100, []), (.iadd, [])]),
  (17, none, 0, [(.ireturn, [])])])
def pm_X6_listRing : sm_M := (yX6_listRing, prog_8_method_10_code, 5, none, 1, 0, 0, [1110, 12, 1], [
  (0, some [0, 1], 1, [(.lconst 0, []), (.lstore_n 2, []), (.iconst 0, []), (.istore 4, [])]),
  (5, some [0, 1, 2, 4], 0, [(.iload 4, []), (.bipush 55, []), (.if_icmp .ge 71, [8, 2])]),
  (12, none, 0, [(.aload_n 1, []), (.getfield 113, [4, 3, 291]), (.iload 4, []), (.iaload, []), (.iconst (-1), []), (.if_icmp .ne 6, [4, 3])]),
  (23, none, 0, [(.goto 51, [7])]),
  (26, none, 0, [(.aload_n 0, []), (.aload_n 1, []), (.lload_n 2, []), (.lconst 1, []), (.iload 4, []), (.lshl, []), (.lor, []), (.invokevirtual 102, [260, 1, 6, 1099, 1101, 2823, 0]), (.ifCond .eq 30, [6, 5])]),
  (40, none, 0, [(.aload_n 0, []), (.getfield 29, [6, 6, 440]), (.aload_n 0, []), (.getfield 32, [6, 7, 442]), (.iload 4, []), (.invokestatic 116, [266, 0, 0, 1103, 1104, 0, 0]), (.iastore, []), (.aload_n 0, []), (.dup, []), (.getfield 32, [6, 7, 442]), (.iconst 1, []), (.iadd, []), (.putfield 32, [6, 7, 442]), (.goto 10, [7])]),
  (67, none, 7, [(.lload_n 2, []), (.lconst 1, []), (.iload 4, []), (.lshl, []), (.lor, []), (.lstore_n 2, [])]),
  (74, none, 0, [(.iinc 4 1, []), (.goto (-72), [1])]),
  (80, none, 0, [(.return_, [])])])
def pm_X6_listSets : sm_M := (yX6_listSets, prog_8_method_4_code, 4, none, 2, 0, 0, [1043, 12, 1], [
  (0, some [0, 1, 2], 1, [(.iconst 0, []), (.istore_n 3, [])]),
  (2, some [0, 1, 2, 3], 0, [(.iload_n 3, []), (.sipush 1024, []), (.if_icmp .ge 105, [12, 2])]),
  (9, none, 0, [(.iload_n 3, []), (.iload_n 1, []), (.iconst (-1), []), (.ixor, []), (.iand, []), (.ifCond .ne 91, [11, 3])]),
  (17, none, 0, [(.iload_n 3, []), (.invokestatic 88, [305, 0, 0, 1044, 1045, 0, 0]), (.iload_n 2, []), (.if_icmp .eq 6, [5, 4])]),
  (25, none, 0, [(.goto 80, [11])]),
  (28, none, 0, [(.aload_n 0, []), (.iload_n 3, []), (.invokevirtual 94, [264, 1, 6, 1050, 1052, 2821, 0]), (.ifCond .eq 33, [8, 6])]),
  (36, none, 0, [(.aload_n 0, []), (.getfield 22, [6, 4, 436]), (.sipush 252, []), (.if_icmp .ge 23, [8, 7])]),
  (46, none, 8, [(.aload_n 0, []), (.getfield 15, [6, 2, 432]), (.aload_n 0, []), (.getfield 22, [6, 4, 436]), (.iload_n 3, []), (.iastore, []), (.aload_n 0, []), (.dup, []), (.getfield 22, [6, 4, 436]), (.iconst 1, []), (.iadd, []), (.putfield 22, [6, 4, 436])]),
  (66, none, 0, [(.aload_n 0, []), (.iload_n 1, []), (.iload_n 3, []), (.invokevirtual 98, [262, 1, 6, 1054, 1056, 2822, 0]), (.ifCond .eq 33, [11, 9])]),
  (75, none, 0, [(.aload_n 0, []), (.getfield 26, [6, 5, 438]), (.sipush 252, []), (.if_icmp .ge 23, [11, 10])]),
  (85, none, 11, [(.aload_n 0, []), (.getfield 19, [6, 3, 434]), (.aload_n 0, []), (.getfield 26, [6, 5, 438]), (.iload_n 3, []), (.iastore, []), (.aload_n 0, []), (.dup, []), (.getfield 26, [6, 5, 438]), (.iconst 1, []), (.iadd, []), (.putfield 26, [6, 5, 438])]),
  (105, none, 0, [(.iinc 3 1, []), (.goto (-106), [1])]),
  (111, none, 0, [(.return_, [])])])
def pm_X7_changePlaces : sm_M := (yX7_changePlaces, prog_9_method_3_code, 3, (some (.object "NightHours$Told")), 1, 0, 0, [783, 2, 1], [
  (0, some [0, 1], 0, [(.aload_n 0, []), (.getfield 43, [7, 6, 221]), (.astore_n 2, []), (.aload_n 0, []), (.aload_n 1, []), (.putfield 43, [7, 6, 221]), (.aload_n 2, []), (.areturn, [])])])
def pm_X7_endPathOrOpen : sm_M := (yX7_endPathOrOpen, prog_9_method_16_code, 2, none, 1, 0, 0, [718, 2, 1], [
  (0, some [0, 1], 0, [(.aload_n 0, []), (.getfield 47, [7, 7, 222]), (.iconst 2, []), (.if_icmp .ne 22, [2, 1])]),
  (8, none, 0, [(.aload_n 0, []), (.getfield 43, [7, 6, 221]), (.aload_n 0, []), (.getfield 50, [7, 8, 223]), (.aload_n 0, []), (.getfield 53, [7, 9, 224]), (.iload_n 1, []), (.invokevirtual 202, [13, 1, 10, 719, 720, 721, 0]), (.goto 44, [3])]),
  (27, none, 3, [(.aload_n 0, []), (.getfield 43, [7, 6, 221]), (.getfield 181, [10, 10, 154]), (.aload_n 0, []), (.getfield 50, [7, 8, 223]), (.aload_n 0, []), (.getfield 50, [7, 8, 223]), (.aload_n 0, []), (.getfield 53, [7, 9, 224]), (.invokevirtual 206, [294, 1, 8, 723, 724, 725, 0]), (.aload_n 0, []), (.getfield 43, [7, 6, 221]), (.getfield 181, [10, 10, 154]), (.aload_n 0, []), (.getfield 50, [7, 8, 223]), (.aload_n 0, []), (.getfield 56, [7, 10, 225]), (.iload_n 1, []), (.invokevirtual 209, [286, 1, 8, 731, 732, 733, 0])]),
  (68, none, 0, [(.return_, [])])])
def pm_X7_endSpan : sm_M := (yX7_endSpan, prog_9_method_17_code, 5, none, 1, 0, 0, [738, 2, 1], [
  (0, some [0, 1], 0, [(.aload_n 0, []), (.getfield 47, [7, 7, 222]), (.bipush 12, []), (.if_icmp .ne 7, [2, 1])]),
  (9, none, 0, [(.iconst 1, []), (.goto 4, [3])]),
  (13, none, 3, [(.iconst 0, [])]),
  (14, none, 0, [(.istore_n 2, []), (.iload_n 2, []), (.ifCond .eq 13, [5, 4])]),
  (19, none, 0, [(.aload_n 0, []), (.getfield 43, [7, 6, 221]), (.getfield 212, [10, 15, 166]), (.goto 10, [6])]),
  (29, none, 6, [(.aload_n 0, []), (.getfield 43, [7, 6, 221]), (.getfield 215, [10, 14, 162])]),
  (36, none, 0, [(.astore_n 3, []), (.iload_n 2, []), (.ifCond .eq 15, [8, 7])]),
  (41, none, 0, [(.aload_n 0, []), (.getfield 43, [7, 6, 221]), (.getfield 154, [10, 4, 135]), (.iconst 1, []), (.isub, []), (.goto 10, [9])]),
  (53, none, 9, [(.aload_n 0, []), (.getfield 43, [7, 6, 221]), (.invokevirtual 218, [22, 1, 10, 739, 740, 741, 0])]),
  (60, none, 0, [(.istore 4, []), (.aload_n 3, []), (.iload 4, []), (.aload_n 0, []), (.getfield 50, [7, 8, 223]), (.aload_n 0, []), (.getfield 53, [7, 9, 224]), (.invokevirtual 206, [294, 1, 8, 723, 724, 725, 0]), (.aload_n 3, []), (.iload 4, []), (.aload_n 0, []), (.getfield 56, [7, 10, 225]), (.iload_n 1, []), (.invokevirtual 209, [286, 1, 8, 731, 732, 733, 0]), (.return_, [])])])
def pm_X7_find : sm_M := (yX7_find, prog_9_method_9_code, 5, (some .int), 2, 0, 0, [672, 2, 1], [
  (0, some [0, 1, 3], 1, [(.iconst 0, []), (.istore 4, [])]),
  (3, some [0, 1, 3, 4], 0, [(.iload 4, []), (.aload_n 0, []), (.getfield 36, [7, 5, 220]), (.if_icmp .ge 40, [6, 2])]),
  (12, none, 0, [(.aload_n 0, []), (.getfield 25, [7, 2, 217]), (.iload 4, []), (.laload, []), (.lload_n 1, []), (.lcmp, []), (.ifCond .ne 22, [5, 3])]),
  (24, none, 0, [(.aload_n 0, []), (.getfield 29, [7, 3, 218]), (.iload 4, []), (.iaload, []), (.iload_n 3, []), (.if_icmp .ne 11, [5, 4])]),
  (35, none, 0, [(.aload_n 0, []), (.getfield 33, [7, 4, 219]), (.iload 4, []), (.iaload, []), (.ireturn, [])]),
  (43, none, 0, [(.iinc 4 1, []), (.goto (-43), [1])]),
  (49, none, 0, [(.iconst (-1), []), (.ireturn, [])])])
def pm_X7_init : sm_M := (yX7_init, prog_9_method_1_code, 1, none, 0, 34, 2456, [30, 2, 1], [
  (0, some [0], 1, [(.aload_n 0, []), (.invokespecial 3, [31, 24, 25]), (.aload_n 0, []), (.new 9, [9, 32, 33, 3]), (.dup, []), (.invokespecial 11, [297, 1, 9, 1, 35, 0, 1]), (.putfield 12, [7, 0, 215]), (.aload_n 0, []), (.new 18, [3, 58, 59, 4]), (.dup, []), (.invokespecial 20, [243, 1, 3, 2, 61, 0, 1]), (.putfield 21, [7, 1, 216]), (.aload_n 0, []), (.bipush 35, []), (.newarray .long, [3, 57]), (.putfield 25, [7, 2, 217]), (.aload_n 0, []), (.bipush 35, []), (.newarray .int, [0, 56]), (.putfield 29, [7, 3, 218]), (.aload_n 0, []), (.bipush 35, []), (.newarray .int, [0, 56]), (.putfield 33, [7, 4, 219]), (.aload_n 0, []), (.iconst 0, []), (.putfield 36, [7, 5, 220]), (.aload_n 0, []), (.new 40, [10, 77, 78, 5]), (.dup, []), (.invokespecial 42, [20, 1, 10, 79, 80, 0, 0]), (.putfield 43, [7, 6, 221]), (.aload_n 0, []), (.iconst 0, []), (.putfield 47, [7, 7, 222]), (.aload_n 0, []), (.iconst 0, []), (.putfield 50, [7, 8, 223]), (.aload_n 0, []), (.iconst 0, [])]),
  (78, none, 0, [(.putfield 53, [7, 9, 224]), (.aload_n 0, []), (.iconst 0, []), (.putfield 56, [7, 10, 225]), (.aload_n 0, []), (.iconst (-1), []), (.putfield 59, [7, 11, 226]), (.return_, [])])])
def pm_X7_meaningFault : sm_M := (yX7_meaningFault, prog_9_method_5_code, 5, (some .int), 0, 0, 0, [644, 2, 1], [
  (0, some [0], 1, [(.iconst 0, []), (.istore_n 1, []), (.iconst 0, []), (.istore_n 2, [])]),
  (4, some [0, 1, 2], 0, [(.iload_n 2, []), (.aload_n 0, []), (.getfield 12, [7, 0, 215]), (.getfield 83, [9, 3, 45]), (.if_icmp .ge 97, [11, 2])]),
  (15, none, 0, [(.aload_n 0, []), (.getfield 12, [7, 0, 215]), (.getfield 86, [9, 0, 39]), (.iload_n 2, []), (.iaload, []), (.istore_n 3, []), (.iload_n 3, []), (.bipush 16, []), (.if_icmp .ne 23, [5, 3])]),
  (31, none, 0, [(.aload_n 0, []), (.getfield 12, [7, 0, 215]), (.getfield 100, [9, 2, 43]), (.iload_n 2, []), (.laload, []), (.ldc2_w 103, [1440, 645]), (.lcmp, []), (.ifCond .le 7, [5, 4])]),
  (47, none, 0, [(.iconst 5, []), (.goto 4, [6])]),
  (51, none, 6, [(.iconst 0, [])]),
  (52, none, 0, [(.istore 4, []), (.iload 4, []), (.ifCond .ne 20, [8, 7])]),
  (59, none, 8, [(.aload_n 0, []), (.iload_n 1, []), (.iload_n 3, []), (.aload_n 0, []), (.getfield 12, [7, 0, 215]), (.getfield 100, [9, 2, 43]), (.iload_n 2, []), (.laload, []), (.invokevirtual 105, [278, 1, 7, 646, 648, 2309, 0]), (.istore 4, [])]),
  (76, some [0, 1, 2, 3, 4], 0, [(.iload 4, []), (.ifCond .eq 19, [10, 9])]),
  (81, none, 0, [(.aload_n 0, []), (.aload_n 0, []), (.getfield 12, [7, 0, 215]), (.getfield 93, [9, 1, 41]), (.iload_n 2, []), (.iaload, []), (.putfield 59, [7, 11, 226]), (.iload 4, []), (.ireturn, [])]),
  (97, none, 0, [(.iload_n 1, []), (.iload_n 3, []), (.invokestatic 96, [241, 0, 0, 640, 630, 0, 0]), (.istore_n 1, []), (.iinc 2 1, []), (.goto (-102), [1])]),
  (109, none, 0, [(.iconst 0, []), (.ireturn, [])])])
def pm_X7_numberNew : sm_M := (yX7_numberNew, prog_9_method_8_code, 2, (some .int), 1, 0, 0, [657, 2, 1], [
  (0, some [0, 1], 0, [(.iload_n 1, []), (.lookupswitch 165 #[(0, 43), (1, 73), (3, 104), (12, 135)], [5, 1, 2, 3, 4])]),
  (44, none, 0, [(.aload_n 0, []), (.getfield 43, [7, 6, 221]), (.aload_n 0, []), (.getfield 43, [7, 6, 221]), (.getfield 140, [10, 0, 120]), (.iconst 1, []), (.iadd, []), (.iconst 4, []), (.invokestatic 143, [2, 658, 659]), (.putfield 140, [10, 0, 120]), (.aload_n 0, []), (.getfield 43, [7, 6, 221]), (.getfield 140, [10, 0, 120]), (.iconst 1, []), (.isub, []), (.ireturn, [])]),
  (74, none, 0, [(.aload_n 0, []), (.getfield 43, [7, 6, 221]), (.aload_n 0, []), (.getfield 43, [7, 6, 221]), (.getfield 148, [10, 1, 123]), (.iconst 1, []), (.iadd, []), (.bipush 6, []), (.invokestatic 143, [2, 658, 659]), (.putfield 148, [10, 1, 123]), (.aload_n 0, []), (.getfield 43, [7, 6, 221]), (.getfield 148, [10, 1, 123]), (.iconst 1, []), (.isub, []), (.ireturn, [])]),
  (105, none, 0, [(.aload_n 0, []), (.getfield 43, [7, 6, 221]), (.aload_n 0, []), (.getfield 43, [7, 6, 221]), (.getfield 151, [10, 2, 127]), (.iconst 1, []), (.iadd, []), (.bipush 10, []), (.invokestatic 143, [2, 658, 659]), (.putfield 151, [10, 2, 127]), (.aload_n 0, []), (.getfield 43, [7, 6, 221]), (.getfield 151, [10, 2, 127]), (.iconst 1, []), (.isub, []), (.ireturn, [])]),
  (136, none, 0, [(.aload_n 0, []), (.getfield 43, [7, 6, 221]), (.aload_n 0, []), (.getfield 43, [7, 6, 221]), (.getfield 154, [10, 4, 135]), (.iconst 1, []), (.iadd, []), (.iconst 5, []), (.invokestatic 143, [2, 658, 659]), (.putfield 154, [10, 4, 135]), (.aload_n 0, []), (.getfield 43, [7, 6, 221]), (.getfield 154, [10, 4, 135]), (.iconst 1, []), (.isub, []), (.ireturn, [])]),
  (166, none, 0, [(.aload_n 0, []), (.getfield 43, [7, 6, 221]), (.aload_n 0, []), (.getfield 47, [7, 7, 222]), (.bipush 8, []), (.if_icmp .ne 7, [7, 6])]),
  (179, none, 0, [(.iconst 1, []), (.goto 4, [8])]),
  (183, none, 8, [(.iconst 0, [])]),
  (184, none, 0, [(.invokevirtual 157, [14, 1, 10, 661, 662, 663, 0]), (.aload_n 0, []), (.getfield 43, [7, 6, 221]), (.getfield 160, [10, 3, 131]), (.iconst 1, []), (.isub, []), (.ireturn, [])])])
def pm_X7_readTape : sm_M := (yX7_readTape, prog_9_method_2_code, 4, (some .int), 2, 0, 0, [581, 2, 1], [
  (0, some [0, 1, 2], 0, [(.aload_n 0, []), (.getfield 43, [7, 6, 221]), (.invokevirtual 62, [16, 1, 10, 582, 113, 114, 0]), (.aload_n 0, []), (.iconst 0, []), (.putfield 36, [7, 5, 220]), (.aload_n 0, []), (.getfield 12, [7, 0, 215]), (.aload_n 1, []), (.iload_n 2, []), (.invokevirtual 65, [301, 1, 9, 583, 584, 585, 0]), (.aload_n 0, []), (.invokevirtual 69, [277, 1, 7, 616, 618, 2306, 0]), (.istore_n 3, []), (.iload_n 3, []), (.ifCond .ne 8, [2, 1])]),
  (30, none, 2, [(.aload_n 0, []), (.invokevirtual 73, [274, 1, 7, 641, 643, 2308, 0]), (.istore_n 3, [])]),
  (35, none, 0, [(.iload_n 3, []), (.ifCond .ne 17, [4, 3])]),
  (39, none, 4, [(.aload_n 0, []), (.getfield 43, [7, 6, 221]), (.invokevirtual 76, [18, 1, 10, 751, 768, 769, 0]), (.aload_n 0, []), (.getfield 43, [7, 6, 221]), (.invokevirtual 79, [17, 1, 10, 776, 777, 778, 0])]),
  (53, none, 0, [(.iload_n 3, []), (.ireturn, [])])])
def pm_X7_syntaxFault : sm_M := (yX7_syntaxFault, prog_9_method_4_code, 4, (some .int), 0, 0, 0, [619, 2, 1], [
  (0, some [0], 1, [(.aload_n 0, []), (.getfield 21, [7, 1, 216]), (.invokevirtual 82, [239, 1, 3, 620, 621, 622, 0]), (.iconst 0, []), (.istore_n 1, []), (.iconst 0, []), (.istore_n 2, [])]),
  (11, some [0, 1, 2], 0, [(.iload_n 2, []), (.aload_n 0, []), (.getfield 12, [7, 0, 215]), (.getfield 83, [9, 3, 45]), (.if_icmp .gt 61, [5, 2])]),
  (22, none, 0, [(.aload_n 0, []), (.getfield 21, [7, 1, 216]), (.iload_n 1, []), (.aload_n 0, []), (.getfield 12, [7, 0, 215]), (.getfield 86, [9, 0, 39]), (.iload_n 2, []), (.iaload, []), (.iload_n 2, []), (.invokevirtual 89, [240, 1, 3, 625, 626, 627, 0]), (.istore_n 3, []), (.iload_n 3, []), (.ifCond .eq 18, [4, 3])]),
  (45, none, 0, [(.aload_n 0, []), (.aload_n 0, []), (.getfield 12, [7, 0, 215]), (.getfield 93, [9, 1, 41]), (.iload_n 2, []), (.iaload, []), (.putfield 59, [7, 11, 226]), (.iload_n 3, []), (.ireturn, [])]),
  (60, none, 0, [(.iload_n 1, []), (.aload_n 0, []), (.getfield 12, [7, 0, 215]), (.getfield 86, [9, 0, 39]), (.iload_n 2, []), (.iaload, []), (.invokestatic 96, [241, 0, 0, 640, 630, 0, 0]), (.istore_n 1, []), (.iinc 2 1, []), (.goto (-66), [1])]),
  (80, none, 0, [(.iconst 0, []), (.ireturn, [])])])
def pm_X7_take : sm_M := (yX7_take, prog_9_method_6_code, 5, (some .int), 3, 0, 0, [649, 2, 1], [
  (0, some [0, 1, 2, 3], 0, [(.iload_n 1, []), (.tableswitch 215 0 29 #[135, 142, 215, 148, 148, 215, 142, 215, 155, 215, 155, 142, 215, 208, 142, 142, 215, 169, 215, 215, 169, 215, 215, 215, 215, 215, 176, 162, 215, 162], [15, 1, 2, 15, 3, 3, 15, 2, 15, 4, 15, 4, 2, 15, 14, 2, 2, 15, 6, 15, 15, 6, 15, 15, 15, 15, 15, 7, 5, 15, 5])]),
  (136, none, 0, [(.aload_n 0, []), (.iload_n 2, []), (.putfield 47, [7, 7, 222]), (.iconst 0, []), (.ireturn, [])]),
  (143, none, 0, [(.aload_n 0, []), (.lload_n 3, []), (.invokevirtual 109, [280, 1, 7, 650, 652, 2310, 0]), (.ireturn, [])]),
  (149, none, 0, [(.aload_n 0, []), (.iload_n 1, []), (.lload_n 3, []), (.invokevirtual 113, [282, 1, 7, 665, 667, 2312, 0]), (.ireturn, [])]),
  (156, none, 0, [(.aload_n 0, []), (.iload_n 1, []), (.lload_n 3, []), (.invokevirtual 117, [285, 1, 7, 673, 675, 2314, 0]), (.ireturn, [])]),
  (163, none, 0, [(.aload_n 0, []), (.iload_n 1, []), (.lload_n 3, []), (.invokevirtual 120, [281, 1, 7, 681, 683, 2315, 0]), (.ireturn, [])]),
  (170, none, 0, [(.aload_n 0, []), (.iload_n 1, []), (.lload_n 3, []), (.invokevirtual 123, [283, 1, 7, 692, 694, 2316, 0]), (.ireturn, [])]),
  (177, none, 0, [(.iload_n 2, []), (.bipush 9, []), (.if_icmp .eq 9, [9, 8])]),
  (183, none, 0, [(.iload_n 2, []), (.bipush 13, []), (.if_icmp .ne 21, [13, 9])]),
  (189, some [0, 2], 0, [(.aload_n 0, []), (.getfield 43, [7, 6, 221]), (.iload_n 2, []), (.bipush 9, []), (.if_icmp .ne 7, [11, 10])]),
  (199, none, 0, [(.iconst 1, []), (.goto 4, [12])]),
  (203, none, 12, [(.iconst 0, [])]),
  (204, some [], 13, [(.invokevirtual 126, [12, 1, 10, 696, 697, 698, 0])]),
  (207, some [], 0, [(.iconst 0, []), (.ireturn, [])]),
  (209, none, 0, [(.aload_n 0, []), (.lload_n 3, []), (.l2i, []), (.invokevirtual 130, [284, 1, 7, 700, 702, 2317, 0]), (.ireturn, [])]),
  (216, none, 0, [(.aload_n 0, []), (.iload_n 1, []), (.iload_n 2, []), (.lload_n 3, []), (.l2i, []), (.invokevirtual 134, [279, 1, 7, 708, 710, 2318, 0]), (.ireturn, [])])])
def pm_X7_takeInt : sm_M := (yX7_takeInt, prog_9_method_15_code, 5, (some .int), 3, 0, 0, [711, 2, 1], [
  (0, some [0, 1, 2, 3], 0, [(.iload_n 2, []), (.bipush 16, []), (.if_icmp .ne 57, [9, 1])]),
  (6, none, 0, [(.iload_n 1, []), (.invokestatic 193, [244, 0, 0, 712, 713, 0, 0]), (.ifCond .eq 8, [3, 2])]),
  (13, none, 0, [(.iload_n 3, []), (.ineg, []), (.goto 4, [4])]),
  (18, none, 4, [(.iload_n 3, [])]),
  (19, none, 0, [(.istore 4, []), (.iload_n 1, []), (.iconst 5, []), (.if_icmp .ne 12, [6, 5])]),
  (26, none, 0, [(.aload_n 0, []), (.iload 4, []), (.invokevirtual 196, [270, 1, 7, 715, 717, 2319, 0]), (.goto 28, [9])]),
  (35, none, 0, [(.iload_n 1, []), (.iload_n 2, []), (.invokestatic 96, [241, 0, 0, 640, 630, 0, 0]), (.bipush 26, []), (.if_icmp .ne 12, [8, 7])]),
  (45, none, 0, [(.aload_n 0, []), (.iload 4, []), (.invokevirtual 199, [271, 1, 7, 735, 737, 2561, 0]), (.goto 9, [9])]),
  (54, none, 9, [(.aload_n 0, []), (.iload 4, []), (.putfield 56, [7, 10, 225])]),
  (60, none, 0, [(.iconst 0, []), (.ireturn, [])])])
def pm_X7_takeNew : sm_M := (yX7_takeNew, prog_9_method_7_code, 4, (some .int), 1, 0, 0, [653, 2, 1], [
  (0, some [0, 1], 1, [(.iconst 0, []), (.istore_n 3, [])]),
  (2, some [0, 1, 3], 0, [(.iload_n 3, []), (.aload_n 0, []), (.getfield 36, [7, 5, 220]), (.if_icmp .ge 22, [5, 2])]),
  (10, none, 0, [(.aload_n 0, []), (.getfield 25, [7, 2, 217]), (.iload_n 3, []), (.laload, []), (.lload_n 1, []), (.lcmp, []), (.ifCond .ne 5, [4, 3])]),
  (21, none, 0, [(.iconst 3, []), (.ireturn, [])]),
  (23, none, 0, [(.iinc 3 1, []), (.goto (-24), [1])]),
  (29, none, 0, [(.aload_n 0, []), (.getfield 47, [7, 7, 222]), (.bipush 8, []), (.if_icmp .ne 8, [7, 6])]),
  (38, none, 0, [(.bipush 6, []), (.goto 7, [8])]),
  (43, none, 8, [(.aload_n 0, []), (.getfield 47, [7, 7, 222])]),
  (47, none, 0, [(.istore_n 3, []), (.aload_n 0, []), (.getfield 36, [7, 5, 220]), (.bipush 35, []), (.if_icmp .ge 47, [10, 9])]),
  (57, none, 10, [(.aload_n 0, []), (.getfield 25, [7, 2, 217]), (.aload_n 0, []), (.getfield 36, [7, 5, 220]), (.lload_n 1, []), (.lastore, []), (.aload_n 0, []), (.getfield 29, [7, 3, 218]), (.aload_n 0, []), (.getfield 36, [7, 5, 220]), (.iload_n 3, []), (.iastore, []), (.aload_n 0, []), (.getfield 33, [7, 4, 219]), (.aload_n 0, []), (.getfield 36, [7, 5, 220]), (.aload_n 0, []), (.iload_n 3, []), (.invokevirtual 137, [275, 1, 7, 654, 656, 2311, 0]), (.iastore, []), (.aload_n 0, []), (.dup, []), (.getfield 36, [7, 5, 220]), (.iconst 1, []), (.iadd, []), (.putfield 36, [7, 5, 220])]),
  (101, none, 0, [(.iconst 0, []), (.ireturn, [])])])
def pm_X7_takeOpen : sm_M := (yX7_takeOpen, prog_9_method_12_code, 6, (some .int), 2, 0, 0, [684, 2, 1], [
  (0, some [0, 1, 2], 0, [(.aload_n 0, []), (.lload_n 2, []), (.iconst 3, []), (.invokevirtual 163, [272, 1, 7, 669, 671, 2313, 0]), (.istore 4, []), (.iload 4, []), (.iconst (-1), []), (.if_icmp .ne 5, [2, 1])]),
  (14, none, 0, [(.iconst 4, []), (.ireturn, [])]),
  (16, none, 0, [(.iload_n 1, []), (.bipush 27, []), (.if_icmp .ne 29, [7, 3])]),
  (22, none, 0, [(.aload_n 0, []), (.iload 4, []), (.putfield 50, [7, 8, 223]), (.aload_n 0, []), (.getfield 43, [7, 6, 221]), (.aload_n 0, []), (.getfield 50, [7, 8, 223]), (.invokevirtual 177, [21, 1, 10, 685, 686, 687, 0]), (.ifCond .eq 7, [5, 4])]),
  (42, none, 0, [(.iconst 5, []), (.goto 4, [6])]),
  (46, none, 6, [(.iconst 0, [])]),
  (47, none, 0, [(.ireturn, [])]),
  (48, none, 0, [(.aload_n 0, []), (.iload 4, []), (.putfield 53, [7, 9, 224]), (.aload_n 0, []), (.getfield 50, [7, 8, 223]), (.aload_n 0, []), (.getfield 53, [7, 9, 224]), (.if_icmp .eq 17, [9, 8])]),
  (65, none, 0, [(.aload_n 0, []), (.getfield 43, [7, 6, 221]), (.aload_n 0, []), (.getfield 53, [7, 9, 224]), (.invokevirtual 177, [21, 1, 10, 685, 686, 687, 0]), (.ifCond .eq 5, [10, 9])]),
  (79, none, 0, [(.iconst 5, []), (.ireturn, [])]),
  (81, none, 11, [(.iconst 0, []), (.istore 5, [])]),
  (84, some [0, 5], 0, [(.iload 5, []), (.aload_n 0, []), (.getfield 43, [7, 6, 221]), (.getfield 151, [10, 2, 127]), (.if_icmp .ge 31, [15, 12])]),
  (96, none, 0, [(.aload_n 0, []), (.getfield 43, [7, 6, 221]), (.getfield 181, [10, 10, 154]), (.getfield 185, [8, 1, 96]), (.iload 5, []), (.iaload, []), (.aload_n 0, []), (.getfield 50, [7, 8, 223]), (.if_icmp .ne 5, [14, 13])]),
  (116, none, 0, [(.iconst 5, []), (.ireturn, [])]),
  (118, none, 0, [(.iinc 5 1, []), (.goto (-37), [11])]),
  (124, none, 0, [(.iconst 0, []), (.ireturn, [])])])
def pm_X7_takePath : sm_M := (yX7_takePath, prog_9_method_10_code, 5, (some .int), 2, 0, 0, [668, 2, 1], [
  (0, some [0, 1, 2], 0, [(.aload_n 0, []), (.lload_n 2, []), (.iconst 1, []), (.invokevirtual 163, [272, 1, 7, 669, 671, 2313, 0]), (.istore 4, []), (.iload 4, []), (.iconst (-1), []), (.if_icmp .ne 5, [2, 1])]),
  (14, none, 0, [(.iconst 4, []), (.ireturn, [])]),
  (16, none, 0, [(.iload_n 1, []), (.iconst 3, []), (.if_icmp .ne 11, [4, 3])]),
  (21, none, 0, [(.aload_n 0, []), (.iload 4, []), (.putfield 50, [7, 8, 223]), (.iconst 0, []), (.ireturn, [])]),
  (29, none, 0, [(.aload_n 0, []), (.iload 4, []), (.putfield 53, [7, 9, 224]), (.aload_n 0, []), (.getfield 50, [7, 8, 223]), (.aload_n 0, []), (.getfield 53, [7, 9, 224]), (.if_icmp .ne 7, [6, 5])]),
  (46, none, 0, [(.iconst 5, []), (.goto 4, [7])]),
  (50, none, 7, [(.iconst 0, [])]),
  (51, none, 0, [(.ireturn, [])])])
def pm_X7_takeSpanTime : sm_M := (yX7_takeSpanTime, prog_9_method_13_code, 5, (some .int), 2, 0, 0, [695, 2, 1], [
  (0, some [0, 1, 2], 0, [(.aload_n 0, []), (.lload_n 2, []), (.iconst 3, []), (.invokevirtual 163, [272, 1, 7, 669, 671, 2313, 0]), (.istore 4, []), (.iload 4, []), (.iconst (-1), []), (.if_icmp .ne 5, [2, 1])]),
  (14, none, 0, [(.iconst 4, []), (.ireturn, [])]),
  (16, none, 0, [(.iload_n 1, []), (.bipush 17, []), (.if_icmp .ne 17, [4, 3])]),
  (22, none, 0, [(.aload_n 0, []), (.iload 4, []), (.putfield 50, [7, 8, 223]), (.aload_n 0, []), (.iconst (-1), []), (.putfield 53, [7, 9, 224]), (.goto 9, [5])]),
  (36, none, 5, [(.aload_n 0, []), (.iload 4, []), (.putfield 53, [7, 9, 224])]),
  (42, none, 0, [(.iconst 0, []), (.ireturn, [])])])
def pm_X7_takeTrust : sm_M := (yX7_takeTrust, prog_9_method_14_code, 2, (some .int), 1, 0, 0, [703, 2, 1], [
  (0, some [0, 1], 0, [(.iload_n 1, []), (.ifCond .eq 9, [2, 1])]),
  (4, none, 0, [(.iload_n 1, []), (.bipush 100, []), (.if_icmp .le 5, [3, 2])]),
  (10, none, 0, [(.iconst 5, []), (.ireturn, [])]),
  (12, none, 0, [(.aload_n 0, []), (.getfield 43, [7, 6, 221]), (.iload_n 1, []), (.invokevirtual 189, [25, 1, 10, 704, 705, 706, 0]), (.iconst 0, []), (.ireturn, [])])])
def pm_X7_takeWhere : sm_M := (yX7_takeWhere, prog_9_method_11_code, 6, (some .int), 2, 0, 0, [676, 2, 1], [
  (0, some [0, 1, 2], 0, [(.iload_n 1, []), (.bipush 8, []), (.if_icmp .ne 7, [2, 1])]),
  (6, none, 0, [(.iconst 1, []), (.goto 4, [3])]),
  (10, none, 3, [(.iconst 0, [])]),
  (11, none, 0, [(.istore 4, []), (.aload_n 0, []), (.lload_n 2, []), (.iload 4, []), (.ifCond .eq 7, [5, 4])]),
  (20, none, 0, [(.iconst 0, []), (.goto 4, [6])]),
  (24, none, 6, [(.iconst 1, [])]),
  (25, none, 0, [(.invokevirtual 163, [272, 1, 7, 669, 671, 2313, 0]), (.istore 5, []), (.iload 5, []), (.iconst (-1), []), (.if_icmp .ne 5, [8, 7])]),
  (36, none, 0, [(.iconst 4, []), (.ireturn, [])]),
  (38, none, 0, [(.aload_n 0, []), (.getfield 43, [7, 6, 221]), (.iload 4, []), (.ifCond .eq 13, [10, 9])]),
  (47, none, 0, [(.aload_n 0, []), (.getfield 43, [7, 6, 221]), (.getfield 167, [10, 8, 146]), (.goto 10, [11])]),
  (57, none, 11, [(.aload_n 0, []), (.getfield 43, [7, 6, 221]), (.getfield 170, [10, 9, 150])]),
  (64, none, 0, [(.iload 5, []), (.invokevirtual 173, [24, 1, 10, 677, 678, 679, 0]), (.iconst 0, []), (.ireturn, [])])])
def pm_X8_bound : sm_M := (yX8_bound, prog_10_method_3_code, 4, none, 3, 0, 0, [734, 6, 1], [
  (0, some [0, 1, 2, 3], 0, [(.aload_n 0, []), (.iload_n 1, []), (.invokevirtual 24, [287, 1, 8, 727, 729, 2560, 0]), (.ifCond .eq 17, [2, 1])]),
  (8, none, 2, [(.aload_n 0, []), (.getfield 18, [8, 2, 97]), (.iload_n 1, []), (.iload_n 2, []), (.iastore, []), (.aload_n 0, []), (.getfield 21, [8, 3, 100]), (.iload_n 1, []), (.iload_n 3, []), (.iastore, [])]),
  (22, none, 0, [(.return_, [])])])
def pm_X8_hasRow : sm_M := (yX8_hasRow, prog_10_method_4_code, 2, (some .boolean), 1, 0, 0, [730, 6, 1], [
  (0, some [0, 1], 0, [(.iload_n 1, []), (.ifCond .lt 16, [3, 1])]),
  (4, none, 0, [(.iload_n 1, []), (.aload_n 0, []), (.getfield 9, [8, 0, 89]), (.arraylength, []), (.if_icmp .ge 7, [3, 2])]),
  (13, none, 0, [(.iconst 1, []), (.goto 4, [4])]),
  (17, none, 4, [(.iconst 0, [])]),
  (18, none, 0, [(.ireturn, [])])])
def pm_X8_holds : sm_M := (yX8_holds, prog_10_method_6_code, 4, (some .boolean), 2, 0, 0, [1000, 6, 1], [
  (0, some [0, 1, 2], 0, [(.aload_n 0, []), (.iload_n 1, []), (.invokevirtual 24, [287, 1, 8, 727, 729, 2560, 0]), (.ifCond .ne 5, [2, 1])]),
  (8, none, 0, [(.iconst 0, []), (.ireturn, [])]),
  (10, none, 0, [(.aload_n 2, []), (.aload_n 0, []), (.getfield 9, [8, 0, 89]), (.iload_n 1, []), (.iaload, []), (.iconst 0, []), (.invokestatic 28, [89, 0, 0, 6, 690, 0, 1]), (.aload_n 2, []), (.aload_n 0, []), (.getfield 15, [8, 1, 92]), (.iload_n 1, []), (.iaload, []), (.iconst 0, []), (.invokestatic 28, [89, 0, 0, 6, 690, 0, 1]), (.isub, []), (.istore_n 3, []), (.aload_n 0, []), (.getfield 18, [8, 2, 97]), (.iload_n 1, []), (.iaload, []), (.iload_n 3, []), (.if_icmp .gt 17, [5, 3])]),
  (44, none, 0, [(.iload_n 3, []), (.aload_n 0, []), (.getfield 21, [8, 3, 100]), (.iload_n 1, []), (.iaload, []), (.if_icmp .gt 7, [5, 4])]),
  (54, none, 0, [(.iconst 1, []), (.goto 4, [6])]),
  (58, none, 6, [(.iconst 0, [])]),
  (59, none, 0, [(.ireturn, [])])])
def pm_X8_init_20 : sm_M := (yX8_init, prog_10_method_1_code, 2, none, 1, 4, 20, [87, 6, 1], [
  (0, some [0, 1], 0, [(.aload_n 0, []), (.invokespecial 3, [88, 24, 25]), (.aload_n 0, []), (.iload_n 1, []), (.newarray .int, [0, 56]), (.putfield 9, [8, 0, 89]), (.aload_n 0, []), (.iload_n 1, []), (.newarray .int, [0, 56]), (.putfield 15, [8, 1, 92]), (.aload_n 0, []), (.iload_n 1, []), (.newarray .int, [0, 56]), (.putfield 18, [8, 2, 97]), (.aload_n 0, []), (.iload_n 1, []), (.newarray .int, [0, 56]), (.putfield 21, [8, 3, 100]), (.return_, [])])])
def pm_X8_init_24 : sm_M := (yX8_init, prog_10_method_1_code, 2, none, 1, 4, 24, [87, 6, 1], [
  (0, some [0, 1], 0, [(.aload_n 0, []), (.invokespecial 3, [88, 24, 25]), (.aload_n 0, []), (.iload_n 1, []), (.newarray .int, [0, 56]), (.putfield 9, [8, 0, 89]), (.aload_n 0, []), (.iload_n 1, []), (.newarray .int, [0, 56]), (.putfield 15, [8, 1, 92]), (.aload_n 0, []), (.iload_n 1, []), (.newarray .int, [0, 56]), (.putfield 18, [8, 2, 97]), (.aload_n 0, []), (.iload_n 1, []), (.newarray .int, [0, 56]), (.putfield 21, [8, 3, 100]), (.return_, [])])])
def pm_X8_init_40 : sm_M := (yX8_init, prog_10_method_1_code, 2, none, 1, 4, 40, [87, 6, 1], [
  (0, some [0, 1], 0, [(.aload_n 0, []), (.invokespecial 3, [88, 24, 25]), (.aload_n 0, []), (.iload_n 1, []), (.newarray .int, [0, 56]), (.putfield 9, [8, 0, 89]), (.aload_n 0, []), (.iload_n 1, []), (.newarray .int, [0, 56]), (.putfield 15, [8, 1, 92]), (.aload_n 0, []), (.iload_n 1, []), (.newarray .int, [0, 56]), (.putfield 18, [8, 2, 97]), (.aload_n 0, []), (.iload_n 1, []), (.newarray .int, [0, 56]), (.putfield 21, [8, 3, 100]), (.return_, [])])])
def pm_X8_init_480 : sm_M := (yX8_init, prog_10_method_1_code, 2, none, 1, 4, 480, [87, 6, 1], [
  (0, some [0, 1], 0, [(.aload_n 0, []), (.invokespecial 3, [88, 24, 25]), (.aload_n 0, []), (.iload_n 1, []), (.newarray .int, [0, 56]), (.putfield 9, [8, 0, 89]), (.aload_n 0, []), (.iload_n 1, []), (.newarray .int, [0, 56]), (.putfield 15, [8, 1, 92]), (.aload_n 0, []), (.iload_n 1, []), (.newarray .int, [0, 56]), (.putfield 18, [8, 2, 97]), (.aload_n 0, []), (.iload_n 1, []), (.newarray .int, [0, 56]), (.putfield 21, [8, 3, 100]), (.return_, [])])])
def pm_X8_isSet : sm_M := (yX8_isSet, prog_10_method_5_code, 3, (some .boolean), 2, 0, 0, [995, 6, 1], [
  (0, some [0, 1, 2], 0, [(.aload_n 0, []), (.iload_n 1, []), (.invokevirtual 24, [287, 1, 8, 727, 729, 2560, 0]), (.ifCond .eq 47, [5, 1])]),
  (8, none, 0, [(.aload_n 2, []), (.aload_n 0, []), (.getfield 9, [8, 0, 89]), (.iload_n 1, []), (.iaload, []), (.iconst (-1), []), (.invokestatic 28, [89, 0, 0, 6, 690, 0, 1]), (.iconst (-1), []), (.if_icmp .eq 32, [5, 2])]),
  (23, none, 0, [(.aload_n 0, []), (.getfield 15, [8, 1, 92]), (.iload_n 1, []), (.iaload, []), (.iconst (-1), []), (.if_icmp .eq 18, [4, 3])]),
  (33, none, 0, [(.aload_n 2, []), (.aload_n 0, []), (.getfield 15, [8, 1, 92]), (.iload_n 1, []), (.iaload, []), (.iconst (-1), []), (.invokestatic 28, [89, 0, 0, 6, 690, 0, 1]), (.iconst (-1), []), (.if_icmp .eq 7, [5, 4])]),
  (48, none, 0, [(.iconst 1, []), (.goto 4, [6])]),
  (52, none, 6, [(.iconst 0, [])]),
  (53, none, 0, [(.ireturn, [])])])
def pm_X8_put : sm_M := (yX8_put, prog_10_method_2_code, 4, none, 3, 0, 0, [726, 6, 1], [
  (0, some [0, 1, 2, 3], 0, [(.aload_n 0, []), (.iload_n 1, []), (.invokevirtual 24, [287, 1, 8, 727, 729, 2560, 0]), (.ifCond .eq 17, [2, 1])]),
  (8, none, 2, [(.aload_n 0, []), (.getfield 9, [8, 0, 89]), (.iload_n 1, []), (.iload_n 2, []), (.iastore, []), (.aload_n 0, []), (.getfield 15, [8, 1, 92]), (.iload_n 1, []), (.iload_n 3, []), (.iastore, [])]),
  (22, none, 0, [(.return_, [])])])
def pm_X9_endOfDigits : sm_M := (yX9_endOfDigits, prog_11_method_5_code, 4, (some .int), 3, 0, 0, [610, 3, 1], [
  (0, some [0, 1, 2], 1, [(.iload_n 1, []), (.istore_n 3, [])]),
  (2, some [0, 2, 3], 0, [(.iload_n 3, []), (.iload_n 2, []), (.if_icmp .ge 18, [4, 2])]),
  (7, none, 0, [(.aload_n 0, []), (.iload_n 3, []), (.baload, []), (.invokestatic 44, [299, 0, 0, 605, 606, 0, 0]), (.ifCond .eq 9, [4, 3])]),
  (16, none, 0, [(.iinc 3 1, []), (.goto (-17), [1])]),
  (22, none, 0, [(.iload_n 3, []), (.ireturn, [])])])
def pm_X9_endOfLetters : sm_M := (yX9_endOfLetters, prog_11_method_4_code, 4, (some .int), 3, 0, 0, [599, 3, 1], [
  (0, some [0, 1, 2], 1, [(.iload_n 1, []), (.istore_n 3, [])]),
  (2, some [0, 2, 3], 0, [(.iload_n 3, []), (.iload_n 2, []), (.if_icmp .ge 18, [4, 2])]),
  (7, none, 0, [(.aload_n 0, []), (.iload_n 3, []), (.baload, []), (.invokestatic 34, [300, 0, 0, 594, 595, 0, 0]), (.ifCond .eq 9, [4, 3])]),
  (16, none, 0, [(.iinc 3 1, []), (.goto (-17), [1])]),
  (22, none, 0, [(.iload_n 3, []), (.ireturn, [])])])
def pm_X9_init : sm_M := (yX9_init, prog_11_method_1_code, 1, none, 0, 3, 1506, [36, 3, 1], [
  (0, some [0], 0, [(.aload_n 0, []), (.invokespecial 3, [37, 24, 25]), (.aload_n 0, []), (.sipush 502, []), (.newarray .int, [0, 56]), (.putfield 9, [9, 0, 38]), (.aload_n 0, []), (.sipush 502, []), (.newarray .int, [0, 56]), (.putfield 15, [9, 1, 40]), (.aload_n 0, []), (.sipush 502, []), (.newarray .long, [3, 57]), (.putfield 18, [9, 2, 42]), (.aload_n 0, []), (.iconst 0, []), (.putfield 22, [9, 3, 44]), (.return_, [])])])
def pm_X9_isBlank : sm_M := (yX9_isBlank, prog_11_method_8_code, 1, (some .boolean), 1, 0, 0, [589, 3, 1], [
  (0, some [0], 0, [(.iload_n 0, []), (.bipush 9, []), (.if_icmp .eq 21, [4, 1])]),
  (6, none, 0, [(.iload_n 0, []), (.bipush 10, []), (.if_icmp .eq 15, [4, 2])]),
  (12, none, 0, [(.iload_n 0, []), (.bipush 13, []), (.if_icmp .eq 9, [4, 3])]),
  (18, none, 0, [(.iload_n 0, []), (.bipush 32, []), (.if_icmp .ne 7, [5, 4])]),
  (24, none, 0, [(.iconst 1, []), (.goto 4, [6])]),
  (28, none, 6, [(.iconst 0, [])]),
  (29, none, 0, [(.ireturn, [])])])
def pm_X9_isDigit : sm_M := (yX9_isDigit, prog_11_method_10_code, 1, (some .boolean), 1, 0, 0, [607, 3, 1], [
  (0, some [0], 0, [(.iload_n 0, []), (.bipush 48, []), (.if_icmp .lt 13, [3, 1])]),
  (6, none, 0, [(.iload_n 0, []), (.bipush 57, []), (.if_icmp .gt 7, [3, 2])]),
  (12, none, 0, [(.iconst 1, []), (.goto 4, [4])]),
  (16, none, 4, [(.iconst 0, [])]),
  (17, none, 0, [(.ireturn, [])])])
def pm_X9_isLetter : sm_M := (yX9_isLetter, prog_11_method_9_code, 1, (some .boolean), 1, 0, 0, [596, 3, 1], [
  (0, some [0], 0, [(.iload_n 0, []), (.bipush 97, []), (.if_icmp .lt 13, [3, 1])]),
  (6, none, 0, [(.iload_n 0, []), (.bipush 122, []), (.if_icmp .gt 7, [3, 2])]),
  (12, none, 0, [(.iconst 1, []), (.goto 4, [4])]),
  (16, none, 4, [(.iconst 0, [])]),
  (17, none, 0, [(.ireturn, [])])])
def pm_X9_scan : sm_M := (yX9_scan, prog_11_method_2_code, 5, none, 2, 0, 0, [586, 3, 1], [
  (0, some [0, 1, 2], 1, [(.aload_n 0, []), (.iconst 0, []), (.putfield 22, [9, 3, 44]), (.iconst 0, []), (.istore_n 3, []), (.iconst 0, []), (.istore 4, [])]),
  (10, some [0, 1, 2, 3, 4], 0, [(.iload 4, []), (.sipush 2000, []), (.if_icmp .ge 47, [8, 2])]),
  (18, none, 0, [(.iload_n 3, []), (.iload_n 2, []), (.if_icmp .ge 42, [8, 3])]),
  (23, none, 0, [(.aload_n 0, []), (.getfield 22, [9, 3, 44]), (.sipush 500, []), (.if_icmp .gt 32, [8, 4])]),
  (33, none, 0, [(.aload_n 1, []), (.iload_n 3, []), (.baload, []), (.invokestatic 26, [298, 0, 0, 587, 588, 0, 0]), (.ifCond .eq 9, [6, 5])]),
  (42, none, 0, [(.iinc 3 1, []), (.goto 11, [7])]),
  (48, none, 7, [(.aload_n 0, []), (.aload_n 1, []), (.iload_n 3, []), (.iload_n 2, []), (.invokevirtual 30, [302, 1, 9, 590, 592, 2305, 0]), (.istore_n 3, [])]),
  (56, none, 0, [(.iinc 4 1, []), (.goto (-49), [1])]),
  (62, none, 0, [(.aload_n 0, []), (.getfield 9, [9, 0, 38]), (.aload_n 0, []), (.getfield 22, [9, 3, 44]), (.bipush 21, []), (.iastore, []), (.aload_n 0, []), (.getfield 15, [9, 1, 40]), (.aload_n 0, []), (.getfield 22, [9, 3, 44]), (.iload_n 2, []), (.iastore, []), (.return_, [])])])
def pm_X9_scanOne : sm_M := (yX9_scanOne, prog_11_method_3_code, 8, (some .int), 3, 0, 0, [593, 3, 1], [
  (0, some [0, 1, 2, 3], 0, [(.iload_n 2, []), (.iconst 1, []), (.iadd, []), (.istore 4, []), (.lconst 0, []), (.lstore 5, []), (.aload_n 0, []), (.getfield 15, [9, 1, 40]), (.aload_n 0, []), (.getfield 22, [9, 3, 44]), (.iload_n 2, []), (.iastore, []), (.aload_n 1, []), (.iload_n 2, []), (.baload, []), (.invokestatic 34, [300, 0, 0, 594, 595, 0, 0]), (.ifCond .eq 71, [8, 1])]),
  (27, none, 2, [(.aload_n 1, []), (.iload_n 2, []), (.iload_n 3, []), (.invokestatic 37, [296, 0, 0, 597, 598, 0, 0]), (.istore 4, []), (.iload_n 2, []), (.istore 7, [])]),
  (38, some [0, 1, 2, 4, 5, 7], 0, [(.iload 7, []), (.iload 4, []), (.if_icmp .ge 22, [4, 3])]),
  (45, none, 0, [(.lload 5, []), (.bipush 8, []), (.lshl, []), (.aload_n 1, []), (.iload 7, []), (.baload, []), (.i2l, []), (.lor, []), (.lstore 5, []), (.iinc 7 1, []), (.goto (-23), [2])]),
  (64, none, 0, [(.aload_n 0, []), (.getfield 9, [9, 0, 38]), (.aload_n 0, []), (.getfield 22, [9, 3, 44]), (.iload 4, []), (.iload_n 2, []), (.isub, []), (.bipush 8, []), (.if_icmp .le 8, [6, 5])]),
  (81, none, 0, [(.bipush 20, []), (.goto 8, [7])]),
  (86, none, 7, [(.lload 5, []), (.invokestatic 40, [304, 0, 0, 600, 601, 0, 0])]),
  (91, none, 0, [(.iastore, []), (.goto 96, [17])]),
  (95, none, 0, [(.aload_n 1, []), (.iload_n 2, []), (.baload, []), (.invokestatic 44, [299, 0, 0, 605, 606, 0, 0]), (.ifCond .eq 72, [16, 9])]),
  (104, none, 10, [(.aload_n 1, []), (.iload_n 2, []), (.iload_n 3, []), (.invokestatic 47, [295, 0, 0, 608, 609, 0, 0]), (.istore 4, []), (.iload_n 2, []), (.istore 7, [])]),
  (115, some [0, 1, 2, 4, 5, 7], 0, [(.iload 7, []), (.iload 4, []), (.if_icmp .ge 27, [12, 11])]),
  (122, none, 0, [(.lload 5, []), (.ldc2_w 50, [10, 611]), (.lmul, []), (.aload_n 1, []), (.iload 7, []), (.baload, []), (.i2l, []), (.ladd, []), (.ldc2_w 52, [48, 612]), (.lsub, []), (.lstore 5, []), (.iinc 7 1, []), (.goto (-28), [10])]),
  (146, none, 0, [(.aload_n 0, []), (.getfield 9, [9, 0, 38]), (.aload_n 0, []), (.getfield 22, [9, 3, 44]), (.iload 4, []), (.iload_n 2, []), (.isub, []), (.iconst 4, []), (.if_icmp .le 8, [14, 13])]),
  (162, none, 0, [(.bipush 20, []), (.goto 5, [15])]),
  (167, none, 15, [(.bipush 16, [])]),
  (169, none, 0, [(.iastore, []), (.goto 18, [17])]),
  (173, none, 17, [(.aload_n 0, []), (.getfield 9, [9, 0, 38]), (.aload_n 0, []), (.getfield 22, [9, 3, 44]), (.aload_n 1, []), (.iload_n 2, []), (.baload, []), (.invokestatic 54, [303, 0, 0, 613, 614, 0, 0]), (.iastore, [])]),
  (188, none, 0, [(.aload_n 0, []), (.getfield 18, [9, 2, 42]), (.aload_n 0, []), (.getfield 22, [9, 3, 44]), (.lload 5, []), (.lastore, []), (.aload_n 0, []), (.dup, []), (.getfield 22, [9, 3, 44]), (.iconst 1, []), (.iadd, []), (.putfield 22, [9, 3, 44]), (.iload 4, []), (.ireturn, [])])])
def pm_X9_sign : sm_M := (yX9_sign, prog_11_method_7_code, 1, (some .int), 1, 0, 0, [615, 3, 1], [
  (0, some [0], 0, [(.iload_n 0, []), (.lookupswitch 44 #[(45, 41), (58, 38), (59, 35)], [4, 3, 2, 1])]),
  (36, none, 0, [(.bipush 17, []), (.ireturn, [])]),
  (39, none, 0, [(.bipush 18, []), (.ireturn, [])]),
  (42, none, 0, [(.bipush 19, []), (.ireturn, [])]),
  (45, none, 0, [(.bipush 20, []), (.ireturn, [])])])
def pm_X9_wordOrName : sm_M := (yX9_wordOrName, prog_11_method_6_code, 3, (some .int), 1, 0, 0, [602, 3, 1], [
  (0, some [0], 1, [(.iconst 0, []), (.istore_n 2, [])]),
  (2, some [0, 2], 0, [(.iload_n 2, []), (.getstatic 58, [1000, 603]), (.arraylength, []), (.if_icmp .ge 21, [5, 2])]),
  (10, none, 0, [(.getstatic 58, [1000, 603]), (.iload_n 2, []), (.laload, []), (.lload_n 0, []), (.lcmp, []), (.ifCond .ne 5, [4, 3])]),
  (20, none, 0, [(.iload_n 2, []), (.ireturn, [])]),
  (22, none, 0, [(.iinc 2 1, []), (.goto (-23), [1])]),
  (28, none, 0, [(.bipush 15, []), (.ireturn, [])])])
def pm_J6_bitCount_0f7a4 : sm_M := (yJ6_bitCount_0f7a4, prog_15_method_49_code, 1, (some .int), 1, 0, 0, [1046, 17, 1], [
  (0, some [0], 1, [(.iload_n 0, []), (.iload_n 0, []), (.iconst 1, []), (.iushr, []), (.ldc_w 265, [1431655765, 1047]), (.iand, []), (.isub, []), (.istore_n 0, []), (.iload_n 0, []), (.ldc_w 266, [858993459, 1048]), (.iand, []), (.iload_n 0, []), (.iconst 2, []), (.iushr, []), (.ldc_w 266, [858993459, 1048]), (.iand, []), (.iadd, []), (.istore_n 0, []), (.iload_n 0, []), (.iload_n 0, []), (.iconst 4, []), (.iushr, []), (.iadd, []), (.ldc_w 267, [252645135, 1049]), (.iand, []), (.istore_n 0, []), (.iload_n 0, []), (.iload_n 0, []), (.bipush 8, []), (.iushr, []), (.iadd, []), (.istore_n 0, []), (.iload_n 0, []), (.iload_n 0, []), (.bipush 16, []), (.iushr, []), (.iadd, []), (.istore_n 0, []), (.iload_n 0, []), (.bipush 63, [])]),
  (51, none, 0, [(.iand, []), (.ireturn, [])])])
def pm_J7_fill_53178 : sm_M := (yJ7_fill_53178, prog_18_method_103_code, 4, none, 2, 0, 0, [118, 7, 1], [
  (0, some [0, 1], 1, [(.iconst 0, []), (.istore_n 2, []), (.aload_n 0, []), (.arraylength, []), (.istore_n 3, [])]),
  (5, some [0, 1, 2, 3], 0, [(.iload_n 2, []), (.iload_n 3, []), (.if_icmp .ge 13, [3, 2])]),
  (10, none, 0, [(.aload_n 0, []), (.iload_n 2, []), (.iload_n 1, []), (.iastore, []), (.iinc 2 1, []), (.goto (-12), [1])]),
  (20, none, 0, [(.return_, [])])])
def pb_L_law_0 : sm_B := (0, some [0], 1, [(.new 7, [11, 18, 19, 1]), (.dup, []), (.invokespecial 9, [54, 1, 11, 20, 21, 0, 0]), (.astore_n 1, []), (.new 10, [12, 1315, 1316, 14]), (.dup, []), (.invokespecial 12, [142, 1, 12, 1317, 1318, 0, 0]), (.astore_n 2, []), (.iconst 0, []), (.istore_n 3, [])])
def pb_L_law_1 : sm_B := (18, some [0, 1, 2, 3], 0, [(.iload_n 3, []), (.aload_n 0, []), (.arraylength, []), (.bipush 6, []), (.isub, []), (.if_icmp .gt 1601, [97, 2])])
def pb_L_law_2 : sm_B := (27, none, 0, [(.aload_n 0, []), (.iload_n 3, []), (.iaload, []), (.bipush 63, []), (.iand, []), (.tableswitch 1586 0 46 #[203, 266, 289, 302, 315, 364, 397, 430, 443, 476, 509, 568, 637, 686, 719, 742, 775, 798, 811, 824, 847, 860, 883, 896, 909, 942, 955, 968, 991, 1044, 1103, 1152, 1165, 1198, 1221, 1244, 1297, 1310, 1343, 1356, 1415, 1458, 1471, 1494, 1517, 1530, 1563], [96, 3, 5, 6, 7, 8, 15, 16, 17, 18, 19, 20, 27, 34, 41, 42, 43, 44, 45, 46, 47, 48, 49, 50, 51, 52, 53, 54, 55, 56, 58, 65, 72, 73, 74, 75, 76, 78, 79, 81, 82, 89, 90, 91, 92, 93, 94, 95])])
def pb_L_law_3 : sm_B := (236, none, 4, [(.aload_n 1, []), (.aload_n 0, []), (.iload_n 3, []), (.iconst 1, []), (.iadd, []), (.iaload, []), (.aload_n 0, []), (.iload_n 3, []), (.iconst 2, []), (.iadd, []), (.iaload, []), (.aload_n 0, []), (.iload_n 3, []), (.iconst 3, []), (.iadd, []), (.iaload, []), (.aload_n 0, []), (.iload_n 3, []), (.iconst 4, []), (.iadd, []), (.iaload, []), (.aload_n 0, []), (.iload_n 3, []), (.iconst 5, []), (.iadd, []), (.iaload, []), (.invokevirtual 13, [42, 1, 11, 562, 563, 564, 0]), (.pop, []), (.aload_n 2, []), (.aload_n 0, []), (.iload_n 3, []), (.iconst 1, []), (.iadd, []), (.iaload, []), (.aload_n 0, []), (.iload_n 3, []), (.iconst 2, []), (.iadd, []), (.iaload, []), (.aload_n 0, [])])
def pb_L_law_4 : sm_B := (278, none, 0, [(.iload_n 3, []), (.iconst 3, []), (.iadd, []), (.iaload, []), (.aload_n 0, []), (.iload_n 3, []), (.iconst 4, []), (.iadd, []), (.iaload, []), (.aload_n 0, []), (.iload_n 3, []), (.iconst 5, []), (.iadd, []), (.iaload, []), (.invokevirtual 17, [124, 1, 12, 1635, 1636, 1637, 0]), (.pop, []), (.goto 1323, [96])])
def pb_L_law_5 : sm_B := (299, none, 0, [(.aload_n 1, []), (.aload_n 0, []), (.iload_n 3, []), (.iconst 1, []), (.iadd, []), (.iaload, []), (.invokevirtual 18, [30, 1, 11, 570, 571, 572, 0]), (.pop, []), (.aload_n 2, []), (.aload_n 0, []), (.iload_n 3, []), (.iconst 1, []), (.iadd, []), (.iaload, []), (.invokevirtual 22, [99, 1, 12, 1643, 1644, 1645, 0]), (.pop, []), (.goto 1300, [96])])
def pb_L_law_6 : sm_B := (322, none, 0, [(.aload_n 1, []), (.invokevirtual 23, [80, 1, 11, 574, 575, 576, 0]), (.pop, []), (.aload_n 2, []), (.invokevirtual 27, [182, 1, 12, 1647, 1648, 1649, 0]), (.pop, []), (.goto 1287, [96])])
def pb_L_law_7 : sm_B := (335, none, 0, [(.aload_n 1, []), (.invokevirtual 28, [73, 1, 11, 789, 790, 791, 0]), (.pop, []), (.aload_n 2, []), (.invokevirtual 31, [174, 1, 12, 1756, 1757, 1758, 0]), (.pop, []), (.goto 1274, [96])])
def pb_L_law_8 : sm_B := (348, none, 0, [(.aload_n 1, []), (.aload_n 0, []), (.iload_n 3, []), (.iconst 1, []), (.iadd, []), (.iaload, []), (.aload_n 0, []), (.iload_n 3, []), (.iconst 2, []), (.iadd, []), (.iaload, []), (.ifCond .eq 7, [10, 9])])
def pb_L_law_9 : sm_B := (362, none, 0, [(.iconst 1, []), (.goto 4, [11])])
def pb_L_law_10 : sm_B := (366, none, 11, [(.iconst 0, [])])
def pb_L_law_11 : sm_B := (367, none, 0, [(.invokevirtual 32, [39, 1, 11, 793, 794, 795, 0]), (.pop, []), (.aload_n 2, []), (.aload_n 0, []), (.iload_n 3, []), (.iconst 1, []), (.iadd, []), (.iaload, []), (.aload_n 0, []), (.iload_n 3, []), (.iconst 2, []), (.iadd, []), (.iaload, []), (.ifCond .eq 7, [13, 12])])
def pb_L_law_12 : sm_B := (385, none, 0, [(.iconst 1, []), (.goto 4, [14])])
def pb_L_law_13 : sm_B := (389, none, 14, [(.iconst 0, [])])
def pb_L_law_14 : sm_B := (390, none, 0, [(.invokevirtual 36, [120, 1, 12, 1775, 1792, 1793, 0]), (.pop, []), (.goto 1225, [96])])
def pb_L_law_15 : sm_B := (397, none, 0, [(.aload_n 1, []), (.aload_n 0, []), (.iload_n 3, []), (.iconst 1, []), (.iadd, []), (.iaload, []), (.aload_n 0, []), (.iload_n 3, []), (.iconst 2, []), (.iadd, []), (.iaload, []), (.invokevirtual 37, [90, 1, 11, 805, 806, 807, 0]), (.pop, []), (.aload_n 2, []), (.aload_n 0, []), (.iload_n 3, []), (.iconst 1, []), (.iadd, []), (.iaload, []), (.aload_n 0, []), (.iload_n 3, []), (.iconst 2, []), (.iadd, []), (.iaload, []), (.invokevirtual 41, [209, 1, 12, 1799, 1800, 1801, 0]), (.pop, []), (.goto 1192, [96])])
def pb_L_law_16 : sm_B := (430, none, 0, [(.aload_n 1, []), (.aload_n 0, []), (.iload_n 3, []), (.iconst 1, []), (.iadd, []), (.iaload, []), (.aload_n 0, []), (.iload_n 3, []), (.iconst 2, []), (.iadd, []), (.iaload, []), (.invokevirtual 42, [70, 1, 11, 814, 815, 816, 0]), (.pop, []), (.aload_n 2, []), (.aload_n 0, []), (.iload_n 3, []), (.iconst 1, []), (.iadd, []), (.iaload, []), (.aload_n 0, []), (.iload_n 3, []), (.iconst 2, []), (.iadd, []), (.iaload, []), (.invokevirtual 45, [164, 1, 12, 1803, 1804, 1805, 0]), (.pop, []), (.goto 1159, [96])])
def pb_L_law_17 : sm_B := (463, none, 0, [(.aload_n 1, []), (.invokevirtual 46, [91, 1, 11, 818, 819, 820, 0]), (.pop, []), (.aload_n 2, []), (.invokevirtual 49, [211, 1, 12, 1807, 1808, 1809, 0]), (.pop, []), (.goto 1146, [96])])
def pb_L_law_18 : sm_B := (476, none, 0, [(.aload_n 1, []), (.aload_n 0, []), (.iload_n 3, []), (.iconst 1, []), (.iadd, []), (.iaload, []), (.aload_n 0, []), (.iload_n 3, []), (.iconst 2, []), (.iadd, []), (.iaload, []), (.invokevirtual 50, [36, 1, 11, 921, 922, 923, 0]), (.pop, []), (.aload_n 2, []), (.aload_n 0, []), (.iload_n 3, []), (.iconst 1, []), (.iadd, []), (.iaload, []), (.aload_n 0, []), (.iload_n 3, []), (.iconst 2, []), (.iadd, []), (.iaload, []), (.invokevirtual 53, [112, 1, 12, 1867, 1868, 1869, 0]), (.pop, []), (.goto 1113, [96])])
def pb_L_law_19 : sm_B := (509, none, 0, [(.aload_n 1, []), (.aload_n 0, []), (.iload_n 3, []), (.iconst 1, []), (.iadd, []), (.iaload, []), (.aload_n 0, []), (.iload_n 3, []), (.iconst 2, []), (.iadd, []), (.iaload, []), (.invokevirtual 54, [51, 1, 11, 942, 943, 944, 0]), (.pop, []), (.aload_n 2, []), (.aload_n 0, []), (.iload_n 3, []), (.iconst 1, []), (.iadd, []), (.iaload, []), (.aload_n 0, []), (.iload_n 3, []), (.iconst 2, []), (.iadd, []), (.iaload, []), (.invokevirtual 57, [134, 1, 12, 1879, 1880, 1881, 0]), (.pop, []), (.goto 1080, [96])])
def pb_L_law_20 : sm_B := (542, none, 0, [(.aload_n 1, []), (.aload_n 0, []), (.iload_n 3, []), (.iconst 1, []), (.iadd, []), (.iaload, []), (.aload_n 0, []), (.iload_n 3, []), (.iconst 2, []), (.iadd, []), (.iaload, []), (.aload_n 0, []), (.iload_n 3, []), (.iconst 3, []), (.iadd, []), (.iaload, []), (.ifCond .eq 7, [22, 21])])
def pb_L_law_21 : sm_B := (561, none, 0, [(.iconst 1, []), (.goto 4, [23])])
def pb_L_law_22 : sm_B := (565, none, 23, [(.iconst 0, [])])
def pb_L_law_23 : sm_B := (566, none, 0, [(.invokevirtual 58, [53, 1, 11, 946, 947, 948, 0]), (.pop, []), (.aload_n 2, []), (.aload_n 0, []), (.iload_n 3, []), (.iconst 1, []), (.iadd, []), (.iaload, []), (.aload_n 0, []), (.iload_n 3, []), (.iconst 2, []), (.iadd, []), (.iaload, []), (.aload_n 0, []), (.iload_n 3, []), (.iconst 3, []), (.iadd, []), (.iaload, []), (.ifCond .eq 7, [25, 24])])
def pb_L_law_24 : sm_B := (589, none, 0, [(.iconst 1, []), (.goto 4, [26])])
def pb_L_law_25 : sm_B := (593, none, 26, [(.iconst 0, [])])
def pb_L_law_26 : sm_B := (594, none, 0, [(.invokevirtual 62, [140, 1, 12, 1883, 1884, 1885, 0]), (.pop, []), (.goto 1021, [96])])
def pb_L_law_27 : sm_B := (601, none, 0, [(.aload_n 1, []), (.aload_n 0, []), (.iload_n 3, []), (.iconst 1, []), (.iadd, []), (.iaload, []), (.aload_n 0, []), (.iload_n 3, []), (.iconst 2, []), (.iadd, []), (.iaload, []), (.aload_n 0, []), (.iload_n 3, []), (.iconst 3, []), (.iadd, []), (.iaload, []), (.aload_n 0, []), (.iload_n 3, []), (.iconst 4, []), (.iadd, []), (.iaload, []), (.ifCond .eq 7, [29, 28])])
def pb_L_law_28 : sm_B := (625, none, 0, [(.iconst 1, []), (.goto 4, [30])])
def pb_L_law_29 : sm_B := (629, none, 30, [(.iconst 0, [])])
def pb_L_law_30 : sm_B := (630, none, 0, [(.invokevirtual 63, [46, 1, 11, 962, 963, 964, 0]), (.pop, []), (.aload_n 2, []), (.aload_n 0, []), (.iload_n 3, []), (.iconst 1, []), (.iadd, []), (.iaload, []), (.aload_n 0, []), (.iload_n 3, []), (.iconst 2, []), (.iadd, []), (.iaload, []), (.aload_n 0, []), (.iload_n 3, []), (.iconst 3, []), (.iadd, []), (.iaload, []), (.aload_n 0, []), (.iload_n 3, []), (.iconst 4, []), (.iadd, []), (.iaload, []), (.ifCond .eq 7, [32, 31])])
def pb_L_law_31 : sm_B := (658, none, 0, [(.iconst 1, []), (.goto 4, [33])])
def pb_L_law_32 : sm_B := (662, none, 33, [(.iconst 0, [])])
def pb_L_law_33 : sm_B := (663, none, 0, [(.invokevirtual 67, [128, 1, 12, 1895, 1896, 1897, 0]), (.pop, []), (.goto 952, [96])])
def pb_L_law_34 : sm_B := (670, none, 0, [(.aload_n 1, []), (.aload_n 0, []), (.iload_n 3, []), (.iconst 1, []), (.iadd, []), (.iaload, []), (.aload_n 0, []), (.iload_n 3, []), (.iconst 2, []), (.iadd, []), (.iaload, []), (.ifCond .eq 7, [36, 35])])
def pb_L_law_35 : sm_B := (684, none, 0, [(.iconst 1, []), (.goto 4, [37])])
def pb_L_law_36 : sm_B := (688, none, 37, [(.iconst 0, [])])
def pb_L_law_37 : sm_B := (689, none, 0, [(.invokevirtual 68, [41, 1, 11, 967, 968, 969, 0]), (.pop, []), (.aload_n 2, []), (.aload_n 0, []), (.iload_n 3, []), (.iconst 1, []), (.iadd, []), (.iaload, []), (.aload_n 0, []), (.iload_n 3, []), (.iconst 2, []), (.iadd, []), (.iaload, []), (.ifCond .eq 7, [39, 38])])
def pb_L_law_38 : sm_B := (707, none, 0, [(.iconst 1, []), (.goto 4, [40])])
def pb_L_law_39 : sm_B := (711, none, 40, [(.iconst 0, [])])
def pb_L_law_40 : sm_B := (712, none, 0, [(.invokevirtual 72, [122, 1, 12, 1899, 1900, 1901, 0]), (.pop, []), (.goto 903, [96])])
def pb_L_law_41 : sm_B := (719, none, 0, [(.aload_n 1, []), (.aload_n 0, []), (.iload_n 3, []), (.iconst 1, []), (.iadd, []), (.iaload, []), (.aload_n 0, []), (.iload_n 3, []), (.iconst 2, []), (.iadd, []), (.iaload, []), (.invokevirtual 73, [34, 1, 11, 971, 972, 973, 0]), (.pop, []), (.aload_n 2, []), (.aload_n 0, []), (.iload_n 3, []), (.iconst 1, []), (.iadd, []), (.iaload, []), (.aload_n 0, []), (.iload_n 3, []), (.iconst 2, []), (.iadd, []), (.iaload, []), (.invokevirtual 76, [109, 1, 12, 1903, 1904, 1905, 0]), (.pop, []), (.goto 870, [96])])
def pb_L_law_42 : sm_B := (752, none, 0, [(.aload_n 1, []), (.aload_n 0, []), (.iload_n 3, []), (.iconst 1, []), (.iadd, []), (.iaload, []), (.invokevirtual 77, [45, 1, 11, 978, 979, 980, 0]), (.pop, []), (.aload_n 2, []), (.aload_n 0, []), (.iload_n 3, []), (.iconst 1, []), (.iadd, []), (.iaload, []), (.invokevirtual 80, [127, 1, 12, 1911, 1912, 1913, 0]), (.pop, []), (.goto 847, [96])])
def pb_L_law_43 : sm_B := (775, none, 0, [(.aload_n 1, []), (.aload_n 0, []), (.iload_n 3, []), (.iconst 1, []), (.iadd, []), (.iaload, []), (.aload_n 0, []), (.iload_n 3, []), (.iconst 2, []), (.iadd, []), (.iaload, []), (.invokevirtual 81, [83, 1, 11, 982, 983, 984, 0]), (.pop, []), (.aload_n 2, []), (.aload_n 0, []), (.iload_n 3, []), (.iconst 1, []), (.iadd, []), (.iaload, []), (.aload_n 0, []), (.iload_n 3, []), (.iconst 2, []), (.iadd, []), (.iaload, []), (.invokevirtual 85, [188, 1, 12, 1915, 1916, 1917, 0]), (.pop, []), (.goto 814, [96])])
def pb_L_law_44 : sm_B := (808, none, 0, [(.aload_n 1, []), (.aload_n 0, []), (.iload_n 3, []), (.iconst 1, []), (.iadd, []), (.iaload, []), (.invokevirtual 86, [31, 1, 11, 986, 987, 988, 0]), (.pop, []), (.aload_n 2, []), (.aload_n 0, []), (.iload_n 3, []), (.iconst 1, []), (.iadd, []), (.iaload, []), (.invokevirtual 89, [100, 1, 12, 1919, 1920, 1921, 0]), (.pop, []), (.goto 791, [96])])
def pb_L_law_45 : sm_B := (831, none, 0, [(.aload_n 1, []), (.invokevirtual 90, [33, 1, 11, 1001, 1002, 1003, 0]), (.pop, []), (.aload_n 2, []), (.invokevirtual 93, [107, 1, 12, 1927, 1928, 1929, 0]), (.pop, []), (.goto 778, [96])])
def pb_L_law_46 : sm_B := (844, none, 0, [(.aload_n 1, []), (.invokevirtual 94, [79, 1, 11, 1025, 1026, 1027, 0]), (.pop, []), (.aload_n 2, []), (.invokevirtual 97, [181, 1, 12, 1931, 1932, 1933, 0]), (.pop, []), (.goto 765, [96])])
def pb_L_law_47 : sm_B := (857, none, 0, [(.aload_n 1, []), (.aload_n 0, []), (.iload_n 3, []), (.iconst 1, []), (.iadd, []), (.iaload, []), (.invokevirtual 98, [78, 1, 11, 1058, 1059, 1060, 0]), (.pop, []), (.aload_n 2, []), (.aload_n 0, []), (.iload_n 3, []), (.iconst 1, []), (.iadd, []), (.iaload, []), (.invokevirtual 101, [180, 1, 12, 1950, 1951, 1952, 0]), (.pop, []), (.goto 742, [96])])
def pb_L_law_48 : sm_B := (880, none, 0, [(.aload_n 1, []), (.invokevirtual 102, [49, 1, 11, 1062, 1063, 1064, 0]), (.pop, []), (.aload_n 2, []), (.invokevirtual 105, [133, 1, 12, 1954, 1955, 1956, 0]), (.pop, []), (.goto 729, [96])])
def pb_L_law_49 : sm_B := (893, none, 0, [(.aload_n 1, []), (.aload_n 0, []), (.iload_n 3, []), (.iconst 1, []), (.iadd, []), (.iaload, []), (.invokevirtual 106, [48, 1, 11, 1066, 1067, 1068, 0]), (.pop, []), (.aload_n 2, []), (.aload_n 0, []), (.iload_n 3, []), (.iconst 1, []), (.iadd, []), (.iaload, []), (.invokevirtual 109, [132, 1, 12, 1958, 1959, 1960, 0]), (.pop, []), (.goto 706, [96])])
def pb_L_law_50 : sm_B := (916, none, 0, [(.aload_n 1, []), (.invokevirtual 110, [35, 1, 11, 1070, 1071, 1072, 0]), (.pop, []), (.aload_n 2, []), (.invokevirtual 113, [111, 1, 12, 1962, 1963, 1964, 0]), (.pop, []), (.goto 693, [96])])
def pb_L_law_51 : sm_B := (929, none, 0, [(.aload_n 1, []), (.invokevirtual 114, [76, 1, 11, 1082, 1083, 1084, 0]), (.pop, []), (.aload_n 2, []), (.invokevirtual 117, [178, 1, 12, 1970, 1971, 1972, 0]), (.pop, []), (.goto 680, [96])])
def pb_L_law_52 : sm_B := (942, none, 0, [(.aload_n 1, []), (.aload_n 0, []), (.iload_n 3, []), (.iconst 1, []), (.iadd, []), (.iaload, []), (.aload_n 0, []), (.iload_n 3, []), (.iconst 2, []), (.iadd, []), (.iaload, []), (.invokevirtual 118, [72, 1, 11, 1087, 1088, 1089, 0]), (.pop, []), (.aload_n 2, []), (.aload_n 0, []), (.iload_n 3, []), (.iconst 1, []), (.iadd, []), (.iaload, []), (.aload_n 0, []), (.iload_n 3, []), (.iconst 2, []), (.iadd, []), (.iaload, []), (.invokevirtual 121, [172, 1, 12, 1975, 1976, 1977, 0]), (.pop, []), (.goto 647, [96])])
def pb_L_law_53 : sm_B := (975, none, 0, [(.aload_n 1, []), (.invokevirtual 122, [87, 1, 11, 1091, 1092, 1093, 0]), (.pop, []), (.aload_n 2, []), (.invokevirtual 125, [193, 1, 12, 1983, 1984, 1985, 0]), (.pop, []), (.goto 634, [96])])
def pb_L_law_54 : sm_B := (988, none, 0, [(.aload_n 1, []), (.invokevirtual 126, [81, 1, 11, 1111, 1112, 1113, 0]), (.pop, []), (.aload_n 2, []), (.invokevirtual 129, [183, 1, 12, 1991, 1992, 1993, 0]), (.pop, []), (.goto 621, [96])])
def pb_L_law_55 : sm_B := (1001, none, 0, [(.aload_n 1, []), (.aload_n 0, []), (.iload_n 3, []), (.iconst 1, []), (.iadd, []), (.iaload, []), (.invokevirtual 130, [82, 1, 11, 1115, 1116, 1117, 0]), (.pop, []), (.aload_n 2, []), (.aload_n 0, []), (.iload_n 3, []), (.iconst 1, []), (.iadd, []), (.iaload, []), (.invokevirtual 133, [184, 1, 12, 2003, 2004, 2005, 0]), (.pop, []), (.goto 598, [96])])
def pb_L_law_56 : sm_B := (1024, none, 57, [(.aload_n 1, []), (.aload_n 0, []), (.iload_n 3, []), (.iconst 1, []), (.iadd, []), (.iaload, []), (.aload_n 0, []), (.iload_n 3, []), (.iconst 2, []), (.iadd, []), (.iaload, []), (.aload_n 0, []), (.iload_n 3, []), (.iconst 3, []), (.iadd, []), (.iaload, []), (.aload_n 0, []), (.iload_n 3, []), (.iconst 4, []), (.iadd, []), (.iaload, []), (.invokevirtual 134, [37, 1, 11, 1119, 1120, 1121, 0]), (.pop, []), (.aload_n 2, []), (.aload_n 0, []), (.iload_n 3, []), (.iconst 1, []), (.iadd, []), (.iaload, []), (.aload_n 0, []), (.iload_n 3, []), (.iconst 2, []), (.iadd, []), (.iaload, []), (.aload_n 0, []), (.iload_n 3, []), (.iconst 3, []), (.iadd, []), (.iaload, []), (.aload_n 0, [])])
def pb_L_law_57 : sm_B := (1066, none, 0, [(.iload_n 3, []), (.iconst 4, []), (.iadd, []), (.iaload, []), (.invokevirtual 138, [117, 1, 12, 2007, 2008, 2009, 0]), (.pop, []), (.goto 545, [96])])
def pb_L_law_58 : sm_B := (1077, none, 0, [(.aload_n 1, []), (.aload_n 0, []), (.iload_n 3, []), (.iconst 1, []), (.iadd, []), (.iaload, []), (.aload_n 0, []), (.iload_n 3, []), (.iconst 2, []), (.iadd, []), (.iaload, []), (.aload_n 0, []), (.iload_n 3, []), (.iconst 3, []), (.iadd, []), (.iaload, []), (.ifCond .eq 7, [60, 59])])
def pb_L_law_59 : sm_B := (1096, none, 0, [(.iconst 1, []), (.goto 4, [61])])
def pb_L_law_60 : sm_B := (1100, none, 61, [(.iconst 0, [])])
def pb_L_law_61 : sm_B := (1101, none, 0, [(.invokevirtual 139, [32, 1, 11, 1135, 1136, 1137, 0]), (.pop, []), (.aload_n 2, []), (.aload_n 0, []), (.iload_n 3, []), (.iconst 1, []), (.iadd, []), (.iaload, []), (.aload_n 0, []), (.iload_n 3, []), (.iconst 2, []), (.iadd, []), (.iaload, []), (.aload_n 0, []), (.iload_n 3, []), (.iconst 3, []), (.iadd, []), (.iaload, []), (.ifCond .eq 7, [63, 62])])
def pb_L_law_62 : sm_B := (1124, none, 0, [(.iconst 1, []), (.goto 4, [64])])
def pb_L_law_63 : sm_B := (1128, none, 64, [(.iconst 0, [])])
def pb_L_law_64 : sm_B := (1129, none, 0, [(.invokevirtual 142, [102, 1, 12, 2019, 2020, 2021, 0]), (.pop, []), (.goto 486, [96])])
def pb_L_law_65 : sm_B := (1136, none, 0, [(.aload_n 1, []), (.aload_n 0, []), (.iload_n 3, []), (.iconst 1, []), (.iadd, []), (.iaload, []), (.aload_n 0, []), (.iload_n 3, []), (.iconst 2, []), (.iadd, []), (.iaload, []), (.ifCond .eq 7, [67, 66])])
def pb_L_law_66 : sm_B := (1150, none, 0, [(.iconst 1, []), (.goto 4, [68])])
def pb_L_law_67 : sm_B := (1154, none, 68, [(.iconst 0, [])])
def pb_L_law_68 : sm_B := (1155, none, 0, [(.invokevirtual 143, [29, 1, 11, 1139, 1140, 1141, 0]), (.pop, []), (.aload_n 2, []), (.aload_n 0, []), (.iload_n 3, []), (.iconst 1, []), (.iadd, []), (.iaload, []), (.aload_n 0, []), (.iload_n 3, []), (.iconst 2, []), (.iadd, []), (.iaload, []), (.ifCond .eq 7, [70, 69])])
def pb_L_law_69 : sm_B := (1173, none, 0, [(.iconst 1, []), (.goto 4, [71])])
def pb_L_law_70 : sm_B := (1177, none, 71, [(.iconst 0, [])])
def pb_L_law_71 : sm_B := (1178, none, 0, [(.invokevirtual 146, [96, 1, 12, 2031, 2048, 2049, 0]), (.pop, []), (.goto 437, [96])])
def pb_L_law_72 : sm_B := (1185, none, 0, [(.aload_n 1, []), (.invokevirtual 147, [71, 1, 11, 1149, 1150, 1151, 0]), (.pop, []), (.aload_n 2, []), (.invokevirtual 150, [167, 1, 12, 2063, 2064, 2065, 0]), (.pop, []), (.goto 424, [96])])
def pb_L_law_73 : sm_B := (1198, none, 0, [(.aload_n 1, []), (.aload_n 0, []), (.iload_n 3, []), (.iconst 1, []), (.iadd, []), (.iaload, []), (.aload_n 0, []), (.iload_n 3, []), (.iconst 2, []), (.iadd, []), (.iaload, []), (.invokevirtual 151, [67, 1, 11, 1154, 1155, 1156, 0]), (.pop, []), (.aload_n 2, []), (.aload_n 0, []), (.iload_n 3, []), (.iconst 1, []), (.iadd, []), (.iaload, []), (.aload_n 0, []), (.iload_n 3, []), (.iconst 2, []), (.iadd, []), (.iaload, []), (.invokevirtual 154, [158, 1, 12, 2067, 2068, 2069, 0]), (.pop, []), (.goto 391, [96])])
def pb_L_law_74 : sm_B := (1231, none, 0, [(.aload_n 1, []), (.aload_n 0, []), (.iload_n 3, []), (.iconst 1, []), (.iadd, []), (.iaload, []), (.invokevirtual 155, [74, 1, 11, 1173, 1174, 1175, 0]), (.pop, []), (.aload_n 2, []), (.aload_n 0, []), (.iload_n 3, []), (.iconst 1, []), (.iadd, []), (.iaload, []), (.invokevirtual 158, [175, 1, 12, 2071, 2072, 2073, 0]), (.pop, []), (.goto 368, [96])])
def pb_L_law_75 : sm_B := (1254, none, 0, [(.aload_n 1, []), (.aload_n 0, []), (.iload_n 3, []), (.iconst 1, []), (.iadd, []), (.iaload, []), (.invokevirtual 159, [44, 1, 11, 1208, 1209, 1210, 0]), (.pop, []), (.aload_n 2, []), (.aload_n 0, []), (.iload_n 3, []), (.iconst 1, []), (.iadd, []), (.iaload, []), (.invokevirtual 162, [126, 1, 12, 2083, 2084, 2085, 0]), (.pop, []), (.goto 345, [96])])
def pb_L_law_76 : sm_B := (1277, none, 77, [(.aload_n 1, []), (.aload_n 0, []), (.iload_n 3, []), (.iconst 1, []), (.iadd, []), (.iaload, []), (.aload_n 0, []), (.iload_n 3, []), (.iconst 2, []), (.iadd, []), (.iaload, []), (.aload_n 0, []), (.iload_n 3, []), (.iconst 3, []), (.iadd, []), (.iaload, []), (.aload_n 0, []), (.iload_n 3, []), (.iconst 4, []), (.iadd, []), (.iaload, []), (.invokevirtual 163, [69, 1, 11, 1216, 1217, 1218, 0]), (.pop, []), (.aload_n 2, []), (.aload_n 0, []), (.iload_n 3, []), (.iconst 1, []), (.iadd, []), (.iaload, []), (.aload_n 0, []), (.iload_n 3, []), (.iconst 2, []), (.iadd, []), (.iaload, []), (.aload_n 0, []), (.iload_n 3, []), (.iconst 3, []), (.iadd, []), (.iaload, []), (.aload_n 0, [])])
def pb_L_law_77 : sm_B := (1319, none, 0, [(.iload_n 3, []), (.iconst 4, []), (.iadd, []), (.iaload, []), (.invokevirtual 166, [163, 1, 12, 1760, 1761, 1762, 0]), (.pop, []), (.goto 292, [96])])
def pb_L_law_78 : sm_B := (1330, none, 0, [(.aload_n 1, []), (.invokevirtual 167, [43, 1, 11, 1223, 1224, 1225, 0]), (.pop, []), (.aload_n 2, []), (.invokevirtual 170, [125, 1, 12, 1771, 1772, 1773, 0]), (.pop, []), (.goto 279, [96])])
def pb_L_law_79 : sm_B := (1343, none, 0, [(.aload_n 1, []), (.aload_n 0, []), (.iload_n 3, []), (.iconst 1, []), (.iadd, []), (.iaload, []), (.aload_n 0, []), (.iload_n 3, []), (.iconst 2, []), (.iadd, []), (.iaload, []), (.invokevirtual 171, [88, 1, 11, 1227, 1228, 1229, 0]), (.aload_n 2, []), (.aload_n 0, []), (.iload_n 3, []), (.iconst 1, []), (.iadd, []), (.iaload, []), (.aload_n 0, []), (.iload_n 3, []), (.iconst 2, []), (.iadd, []), (.iaload, []), (.invokevirtual 174, [206, 1, 12, 2087, 2088, 2089, 0]), (.if_icmp .eq 248, [96, 80])])
def pb_L_law_80 : sm_B := (1374, none, 0, [(.iconst 0, []), (.ireturn, [])])
def pb_L_law_81 : sm_B := (1376, none, 0, [(.aload_n 1, []), (.invokevirtual 175, [84, 1, 11, 1236, 1237, 1238, 0]), (.pop, []), (.aload_n 2, []), (.invokevirtual 178, [189, 1, 12, 2091, 2092, 2093, 0]), (.pop, []), (.goto 233, [96])])
def pb_L_law_82 : sm_B := (1389, none, 0, [(.aload_n 1, []), (.aload_n 0, []), (.iload_n 3, []), (.iconst 1, []), (.iadd, []), (.iaload, []), (.aload_n 0, []), (.iload_n 3, []), (.iconst 2, []), (.iadd, []), (.iaload, []), (.aload_n 0, []), (.iload_n 3, []), (.iconst 3, []), (.iadd, []), (.iaload, []), (.ifCond .eq 7, [84, 83])])
def pb_L_law_83 : sm_B := (1408, none, 0, [(.iconst 1, []), (.goto 4, [85])])
def pb_L_law_84 : sm_B := (1412, none, 85, [(.iconst 0, [])])
def pb_L_law_85 : sm_B := (1413, none, 0, [(.invokevirtual 179, [85, 1, 11, 1249, 1250, 1251, 0]), (.pop, []), (.aload_n 2, []), (.aload_n 0, []), (.iload_n 3, []), (.iconst 1, []), (.iadd, []), (.iaload, []), (.aload_n 0, []), (.iload_n 3, []), (.iconst 2, []), (.iadd, []), (.iaload, []), (.aload_n 0, []), (.iload_n 3, []), (.iconst 3, []), (.iadd, []), (.iaload, []), (.ifCond .eq 7, [87, 86])])
def pb_L_law_86 : sm_B := (1436, none, 0, [(.iconst 1, []), (.goto 4, [88])])
def pb_L_law_87 : sm_B := (1440, none, 88, [(.iconst 0, [])])
def pb_L_law_88 : sm_B := (1441, none, 0, [(.invokevirtual 182, [192, 1, 12, 2099, 2100, 2101, 0]), (.pop, []), (.goto 174, [96])])
def pb_L_law_89 : sm_B := (1448, none, 0, [(.aload_n 1, []), (.aload_n 0, []), (.iload_n 3, []), (.iconst 1, []), (.iadd, []), (.iaload, []), (.aload_n 0, []), (.iload_n 3, []), (.iconst 2, []), (.iadd, []), (.iaload, []), (.aload_n 0, []), (.iload_n 3, []), (.iconst 3, []), (.iadd, []), (.iaload, []), (.invokevirtual 183, [40, 1, 11, 1254, 1255, 1256, 0]), (.pop, []), (.aload_n 2, []), (.aload_n 0, []), (.iload_n 3, []), (.iconst 1, []), (.iadd, []), (.iaload, []), (.aload_n 0, []), (.iload_n 3, []), (.iconst 2, []), (.iadd, []), (.iaload, []), (.aload_n 0, []), (.iload_n 3, []), (.iconst 3, []), (.iadd, []), (.iaload, []), (.invokevirtual 187, [121, 1, 12, 2103, 2104, 2105, 0]), (.pop, []), (.goto 131, [96])])
def pb_L_law_90 : sm_B := (1491, none, 0, [(.aload_n 1, []), (.invokevirtual 188, [47, 1, 11, 1262, 1263, 1280, 0]), (.pop, []), (.aload_n 2, []), (.invokevirtual 191, [130, 1, 12, 2107, 2108, 2109, 0]), (.pop, []), (.goto 118, [96])])
def pb_L_law_91 : sm_B := (1504, none, 0, [(.aload_n 1, []), (.aload_n 0, []), (.iload_n 3, []), (.iconst 1, []), (.iadd, []), (.iaload, []), (.invokevirtual 192, [28, 1, 11, 1290, 1291, 1292, 0]), (.pop, []), (.aload_n 2, []), (.aload_n 0, []), (.iload_n 3, []), (.iconst 1, []), (.iadd, []), (.iaload, []), (.invokevirtual 195, [93, 1, 12, 2115, 2116, 2117, 0]), (.pop, []), (.goto 95, [96])])
def pb_L_law_92 : sm_B := (1527, none, 0, [(.aload_n 1, []), (.aload_n 0, []), (.iload_n 3, []), (.iconst 1, []), (.iadd, []), (.iaload, []), (.invokevirtual 196, [65, 1, 11, 1294, 1295, 1296, 0]), (.pop, []), (.aload_n 2, []), (.aload_n 0, []), (.iload_n 3, []), (.iconst 1, []), (.iadd, []), (.iaload, []), (.invokevirtual 199, [153, 1, 12, 2119, 2120, 2121, 0]), (.pop, []), (.goto 72, [96])])
def pb_L_law_93 : sm_B := (1550, none, 0, [(.aload_n 1, []), (.invokevirtual 200, [64, 1, 11, 1302, 1303, 1304, 0]), (.pop, []), (.aload_n 2, []), (.invokevirtual 203, [152, 1, 12, 2123, 2124, 2125, 0]), (.pop, []), (.goto 59, [96])])
def pb_L_law_94 : sm_B := (1563, none, 0, [(.aload_n 1, []), (.aload_n 0, []), (.iload_n 3, []), (.iconst 1, []), (.iadd, []), (.iaload, []), (.aload_n 0, []), (.iload_n 3, []), (.iconst 2, []), (.iadd, []), (.iaload, []), (.invokevirtual 204, [52, 1, 11, 1306, 1307, 1308, 0]), (.pop, []), (.aload_n 2, []), (.aload_n 0, []), (.iload_n 3, []), (.iconst 1, []), (.iadd, []), (.iaload, []), (.aload_n 0, []), (.iload_n 3, []), (.iconst 2, []), (.iadd, []), (.iaload, []), (.invokevirtual 207, [137, 1, 12, 2127, 2128, 2129, 0]), (.pop, []), (.goto 26, [96])])
def pb_L_law_95 : sm_B := (1596, none, 0, [(.aload_n 1, []), (.aload_n 0, []), (.iload_n 3, []), (.iconst 1, []), (.iadd, []), (.iaload, []), (.invokevirtual 208, [38, 1, 11, 1311, 1312, 1313, 0]), (.pop, []), (.aload_n 2, []), (.aload_n 0, []), (.iload_n 3, []), (.iconst 1, []), (.iadd, []), (.iaload, []), (.invokevirtual 211, [118, 1, 12, 2131, 2132, 2133, 0]), (.pop, []), (.goto 3, [96])])
def pb_L_law_96 : sm_B := (1619, none, 0, [(.iinc 3 6, []), (.goto (-1604), [1])])
def pb_L_law_97 : sm_B := (1625, none, 0, [(.iconst 1, []), (.ireturn, [])])
def pm_L_law : sm_M := (yL_law, code, 4, (some .boolean), 1, 166, 118202, [0, 0, 0], [
  pb_L_law_0,
  pb_L_law_1,
  pb_L_law_2,
  pb_L_law_3,
  pb_L_law_4,
  pb_L_law_5,
  pb_L_law_6,
  pb_L_law_7,
  pb_L_law_8,
  pb_L_law_9,
  pb_L_law_10,
  pb_L_law_11,
  pb_L_law_12,
  pb_L_law_13,
  pb_L_law_14,
  pb_L_law_15,
  pb_L_law_16,
  pb_L_law_17,
  pb_L_law_18,
  pb_L_law_19,
  pb_L_law_20,
  pb_L_law_21,
  pb_L_law_22,
  pb_L_law_23,
  pb_L_law_24,
  pb_L_law_25,
  pb_L_law_26,
  pb_L_law_27,
  pb_L_law_28,
  pb_L_law_29,
  pb_L_law_30,
  pb_L_law_31,
  pb_L_law_32,
  pb_L_law_33,
  pb_L_law_34,
  pb_L_law_35,
  pb_L_law_36,
  pb_L_law_37,
  pb_L_law_38,
  pb_L_law_39,
  pb_L_law_40,
  pb_L_law_41,
  pb_L_law_42,
  pb_L_law_43,
  pb_L_law_44,
  pb_L_law_45,
  pb_L_law_46,
  pb_L_law_47,
  pb_L_law_48,
  pb_L_law_49,
  pb_L_law_50,
  pb_L_law_51,
  pb_L_law_52,
  pb_L_law_53,
  pb_L_law_54,
  pb_L_law_55,
  pb_L_law_56,
  pb_L_law_57,
  pb_L_law_58,
  pb_L_law_59,
  pb_L_law_60,
  pb_L_law_61,
  pb_L_law_62,
  pb_L_law_63,
  pb_L_law_64,
  pb_L_law_65,
  pb_L_law_66,
  pb_L_law_67,
  pb_L_law_68,
  pb_L_law_69,
  pb_L_law_70,
  pb_L_law_71,
  pb_L_law_72,
  pb_L_law_73,
  pb_L_law_74,
  pb_L_law_75,
  pb_L_law_76,
  pb_L_law_77,
  pb_L_law_78,
  pb_L_law_79,
  pb_L_law_80,
  pb_L_law_81,
  pb_L_law_82,
  pb_L_law_83,
  pb_L_law_84,
  pb_L_law_85,
  pb_L_law_86,
  pb_L_law_87,
  pb_L_law_88,
  pb_L_law_89,
  pb_L_law_90,
  pb_L_law_91,
  pb_L_law_92,
  pb_L_law_93,
  pb_L_law_94,
  pb_L_law_95,
  pb_L_law_96,
  pb_L_law_97])
def sm_prog_0 : List sm_M := [pm_X0_answer, pm_X0_answered, pm_X0_answersOf, pm_X0_countLeft, pm_X0_countStates, pm_X0_firstQuestion, pm_X0_init, pm_X0_isLeft, pm_X0_leftWith, pm_X0_neededWith, pm_X0_spread, pm_X0_workOut, pm_X10_addPart, pm_X10_addPath, pm_X10_addSaying, pm_X10_allBits]
def sm_prog_1 : List sm_M := [pm_X10_clear, pm_X10_findMoves, pm_X10_findWalks, pm_X10_firstSpan, pm_X10_init, pm_X10_isOpen, pm_X10_lastSpan, pm_X10_partsOf, pm_X10_putLastTime, pm_X10_trustLast, pm_X10_trustOf, pm_X10_walkBetween, pm_X11_alone, pm_X11_ask, pm_X11_back, pm_X11_bears]
def sm_prog_2 : List sm_M := [pm_X11_been, pm_X11_breaks, pm_X11_can, pm_X11_cheapest, pm_X11_choice, pm_X11_could, pm_X11_count, pm_X11_doubt, pm_X11_drawn, pm_X11_ends, pm_X11_feed, pm_X11_fewer, pm_X11_first, pm_X11_forced, pm_X11_gap, pm_X11_give]
def sm_prog_3 : List sm_M := [pm_X11_givingUp, pm_X11_givingUps, pm_X11_goWithGuest, pm_X11_goes, pm_X11_hand, pm_X11_hour, pm_X11_init, pm_X11_isDoubted, pm_X11_isGoneThrough, pm_X11_isKept, pm_X11_isMinute, pm_X11_isPerson, pm_X11_isPlace, pm_X11_isSay, pm_X11_isSaying, pm_X11_isTime]
def sm_prog_4 : List sm_M := [pm_X11_keep, pm_X11_kept, pm_X11_leastGive, pm_X11_left, pm_X11_levelOf, pm_X11_more, pm_X11_move, pm_X11_next, pm_X11_pick, pm_X11_place, pm_X11_plan, pm_X11_planTo, pm_X11_price, pm_X11_putFour, pm_X11_quarrel, pm_X11_quarrels]
def sm_prog_5 : List sm_M := [pm_X11_read, pm_X11_ring, pm_X11_ringAt, pm_X11_set, pm_X11_setWays, pm_X11_slack, pm_X11_stale, pm_X11_stands, pm_X11_tried, pm_X11_valueAt, pm_X11_walk, pm_X11_ways, pm_X11_whereAt, pm_X12_alone, pm_X12_answers, pm_X12_appends]
def sm_prog_6 : List sm_M := [pm_X12_ask, pm_X12_asks, pm_X12_atMost, pm_X12_back, pm_X12_bears, pm_X12_bearsSpan, pm_X12_been, pm_X12_begins, pm_X12_between, pm_X12_bits, pm_X12_bound, pm_X12_breaks, pm_X12_byteAt, pm_X12_can, pm_X12_changes, pm_X12_cheapest]
def sm_prog_7 : List sm_M := [pm_X12_choice, pm_X12_choiceOf, pm_X12_choices, pm_X12_chooses, pm_X12_copies, pm_X12_could, pm_X12_count, pm_X12_cut, pm_X12_doubt, pm_X12_drawn, pm_X12_ends, pm_X12_fail, pm_X12_feed, pm_X12_fewer, pm_X12_first, pm_X12_forced]
def sm_prog_8 : List sm_M := [pm_X12_gap, pm_X12_gapNow, pm_X12_give, pm_X12_gives, pm_X12_givingUp, pm_X12_givingUps, pm_X12_goes, pm_X12_goesAll, pm_X12_goesOn, pm_X12_hand, pm_X12_hasWay, pm_X12_holdsSpan, pm_X12_hour, pm_X12_in, pm_X12_init, pm_X12_is]
def sm_prog_9 : List sm_M := [pm_X12_isDigit, pm_X12_isLeft, pm_X12_isLetter, pm_X12_isMinute, pm_X12_isPerson, pm_X12_isSaying, pm_X12_isTime, pm_X12_itemAt, pm_X12_keep, pm_X12_kept, pm_X12_known, pm_X12_knows, pm_X12_lays, pm_X12_laysSet, pm_X12_left, pm_X12_leftOf]
def sm_prog_10 : List sm_M := [pm_X12_lists, pm_X12_meets, pm_X12_meetsAll, pm_X12_more, pm_X12_move, pm_X12_must, pm_X12_named, pm_X12_next, pm_X12_notes, pm_X12_number, pm_X12_oneMore, pm_X12_openAt, pm_X12_pick, pm_X12_pickedStands, pm_X12_place, pm_X12_plan]
def sm_prog_11 : List sm_M := [pm_X12_planOf, pm_X12_plans, pm_X12_price, pm_X12_put, pm_X12_quarrel, pm_X12_quarrels, pm_X12_read, pm_X12_ring, pm_X12_ringAt, pm_X12_rings, pm_X12_searches, pm_X12_sees, pm_X12_set, pm_X12_setWays, pm_X12_sets, pm_X12_sign]
def sm_prog_12 : List sm_M := [pm_X12_slack, pm_X12_stands, pm_X12_sureOnes, pm_X12_tell, pm_X12_tellAll, pm_X12_tellName, pm_X12_tellOpen, pm_X12_tellQuestion, pm_X12_tellSaying, pm_X12_tellSpan, pm_X12_tellTime, pm_X12_tellWay, pm_X12_token, pm_X12_toldItem, pm_X12_tried, pm_X12_trustIn]
def sm_prog_13 : List sm_M := [pm_X12_undoubted, pm_X12_walk, pm_X12_walks, pm_X12_ways, pm_X12_word, pm_X12_wrong, pm_X1_addTry, pm_X1_addWay, pm_X1_choiceOf, pm_X1_init, pm_X1_tryOf, pm_X2_addItem, pm_X2_begin, pm_X2_bind, pm_X2_bring, pm_X2_choicesOf]
def sm_prog_14 : List sm_M := [pm_X2_distance, pm_X2_goThrough, pm_X2_host, pm_X2_init_6925, pm_X2_init_7540, pm_X2_init_9676, pm_X2_layBase, pm_X2_minute, pm_X2_minuteWith, pm_X2_noteWay, pm_X2_push, pm_X2_pushMove, pm_X2_takes, pm_X2_walkOf, pm_X2_widen, pm_X3_clear]
def sm_prog_15 : List sm_M := [pm_X3_faultOf, pm_X3_follow, pm_X3_hasRoom, pm_X3_init, pm_X3_isBehindMinus, pm_X4_clear, pm_X4_init, pm_X5_blank, pm_X5_copyUp, pm_X5_hasLevel, pm_X5_hasNode, pm_X5_init_6809, pm_X5_init_7414, pm_X5_init_9540, pm_X5_loose, pm_X5_reach]
def sm_prog_16 : List sm_M := [pm_X5_tighten, pm_X5_tightenRow, pm_X6_cheapestGiving, pm_X6_goThroughAll, pm_X6_holdTogether, pm_X6_init, pm_X6_isGivingUp, pm_X6_isKnown, pm_X6_isQuarrel, pm_X6_isTight, pm_X6_itemOf, pm_X6_listRing, pm_X6_listSets, pm_X7_changePlaces, pm_X7_endPathOrOpen, pm_X7_endSpan]
def sm_prog_17 : List sm_M := [pm_X7_find, pm_X7_init, pm_X7_meaningFault, pm_X7_numberNew, pm_X7_readTape, pm_X7_syntaxFault, pm_X7_take, pm_X7_takeInt, pm_X7_takeNew, pm_X7_takeOpen, pm_X7_takePath, pm_X7_takeSpanTime, pm_X7_takeTrust, pm_X7_takeWhere, pm_X8_bound, pm_X8_hasRow]
def sm_prog_18 : List sm_M := [pm_X8_holds, pm_X8_init_20, pm_X8_init_24, pm_X8_init_40, pm_X8_init_480, pm_X8_isSet, pm_X8_put, pm_X9_endOfDigits, pm_X9_endOfLetters, pm_X9_init, pm_X9_isBlank, pm_X9_isDigit, pm_X9_isLetter, pm_X9_scan, pm_X9_scanOne, pm_X9_sign]
def sm_prog_19 : List sm_M := [pm_X9_wordOrName, pm_J6_bitCount_0f7a4, pm_J7_fill_53178, pm_L_law]
def sm_prog : List (List sm_M) := [sm_prog_0, sm_prog_1, sm_prog_2, sm_prog_3, sm_prog_4, sm_prog_5, sm_prog_6, sm_prog_7, sm_prog_8, sm_prog_9, sm_prog_10, sm_prog_11, sm_prog_12, sm_prog_13, sm_prog_14, sm_prog_15, sm_prog_16, sm_prog_17, sm_prog_18, sm_prog_19]
def sm_P (f : Nat) : sm_M := (sm_prog.getD (f / 16) []).getD (f % 16) pm_X0_answer

