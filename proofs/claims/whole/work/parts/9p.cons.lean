/-! The constructors: rows, checks. Printed by wip/gen/cons.py. -/
def yc_X8_init : List xm_I := [(0, .aload_n 0, 0, 0, 0, 0, 0, 0, []),
  (1, .invokespecial 1, 187, 0, 0, 1, 0, 0, []),
  (4, .return_, 0, 0, 0, 0, 0, 0, [])]
def yo_X8_init : xm_M := (yX8_init, cX8_init, 1, none, yc_X8_init, (1, 7, 0), (186, 185, 0, 114))
def yc_X0_init : List xm_I := [(0, .aload_n 0, 0, 0, 0, 0, 0, 0, []),
  (1, .invokespecial 3, 181, 0, 0, 1, 0, 0, []),
  (4, .aload_n 0, 0, 0, 0, 0, 0, 0, []),
  (5, .new 9, 182, 7, 183, 114, 0, 0, []),
  (8, .dup, 0, 0, 0, 0, 0, 0, []),
  (9, .invokespecial 11, 3, 0, 0, 5, 0, 0, []),
  (12, .putfield 12, 246, 0, 12, 2, 0, 0, []),
  (15, .aload_n 0, 0, 0, 0, 0, 0, 0, []),
  (16, .bipush 6, 0, 0, 0, 0, 6, 0, []),
  (18, .newarray .int, 0, 0, 302, 0, 0, 0, []),
  (20, .putfield 18, 250, 0, 13, 2, 0, 0, []),
  (23, .aload_n 0, 0, 0, 0, 0, 0, 0, []),
  (24, .bipush 6, 0, 0, 0, 0, 6, 0, []),
  (26, .newarray .int, 0, 0, 302, 0, 0, 0, []),
  (28, .putfield 22, 252, 0, 14, 2, 0, 0, []),
  (31, .aload_n 0, 0, 0, 0, 0, 0, 0, []),
  (32, .bipush 6, 0, 0, 0, 0, 6, 0, []),
  (34, .newarray .int, 0, 0, 302, 0, 0, 0, []),
  (36, .putfield 25, 254, 0, 15, 2, 0, 0, []),
  (39, .aload_n 0, 0, 0, 0, 0, 0, 0, []),
  (40, .iconst 4, 0, 0, 0, 0, 4, 0, []),
  (41, .newarray .int, 0, 0, 302, 0, 0, 0, []),
  (43, .putfield 28, 256, 0, 16, 2, 0, 0, []),
  (46, .aload_n 0, 0, 0, 0, 0, 0, 0, []),
  (47, .iconst 4, 0, 0, 0, 0, 4, 0, []),
  (48, .newarray .int, 0, 0, 302, 0, 0, 0, []),
  (50, .putfield 31, 258, 0, 17, 2, 0, 0, []),
  (53, .aload_n 0, 0, 0, 0, 0, 0, 0, []),
  (54, .bipush 6, 0, 0, 0, 0, 6, 0, []),
  (56, .newarray .int, 0, 0, 302, 0, 0, 0, []),
  (58, .putfield 34, 260, 0, 18, 2, 0, 0, []),
  (61, .return_, 0, 0, 0, 0, 0, 0, [])]
def yo_X0_init : xm_M := (yX0_init, cX0_init, 1, none, yc_X0_init, (1, 0, 0), (180, 179, 0, 113))
def yc_X6_init : List xm_I := [(0, .aload_n 0, 0, 0, 0, 0, 0, 0, []),
  (1, .invokespecial 3, 143, 0, 0, 1, 0, 0, []),
  (4, .aload_n 0, 0, 0, 0, 0, 0, 0, []),
  (5, .sipush 1000, 0, 0, 0, 0, 1000, 0, []),
  (8, .newarray .byte, 0, 0, 169, 1, 0, 0, []),
  (10, .putfield 11, 144, 5, 0, 2, 0, 0, []),
  (13, .aload_n 0, 0, 0, 0, 0, 0, 0, []),
  (14, .iconst (-1), 0, 0, 0, 0, (-1), 0, []),
  (15, .putfield 15, 149, 5, 3, 0, 0, 0, []),
  (18, .return_, 0, 0, 0, 0, 0, 0, [])]
def yo_X6_init : xm_M := (yX6_init, cX6_init, 1, none, yc_X6_init, (1, 5, 0), (142, 141, 0, 111))
def yc_X9_init : List xm_I := [(0, .aload_n 0, 0, 0, 0, 0, 0, 0, []),
  (1, .invokespecial 3, 175, 0, 0, 1, 0, 0, []),
  (4, .aload_n 0, 0, 0, 0, 0, 0, 0, []),
  (5, .new 9, 176, 0, 177, 113, 0, 0, []),
  (8, .dup, 0, 0, 0, 0, 0, 0, []),
  (9, .invokespecial 11, 2, 1, 0, 5, 0, 0, []),
  (12, .putfield 12, 303, 8, 0, 2, 0, 0, []),
  (15, .aload_n 0, 0, 0, 0, 0, 0, 0, []),
  (16, .bipush 60, 0, 0, 0, 0, 60, 0, []),
  (18, .newarray .int, 0, 0, 302, 0, 0, 0, []),
  (20, .putfield 18, 306, 8, 1, 2, 0, 0, []),
  (23, .return_, 0, 0, 0, 0, 0, 0, [])]
def yo_X9_init : xm_M := (yX9_init, cX9_init, 1, none, yc_X9_init, (1, 8, 0), (174, 173, 0, 112))
def yc_X2_init : List xm_I := [(0, .aload_n 0, 0, 0, 0, 0, 0, 0, []),
  (1, .invokespecial 3, 461, 0, 0, 1, 0, 0, []),
  (4, .aload_n 0, 0, 0, 0, 0, 0, 0, []),
  (5, .bipush 60, 0, 0, 0, 0, 60, 0, []),
  (7, .newarray .long, 0, 0, 391, 3, 0, 0, []),
  (9, .putfield 9, 462, 2, 0, 2, 0, 0, []),
  (12, .return_, 0, 0, 0, 0, 0, 0, [])]
def yo_X2_init : xm_M := (yX2_init, cX2_init, 1, none, yc_X2_init, (1, 2, 0), (460, 459, 0, 119))
def yc_X3_init : List xm_I := [(0, .aload_n 0, 0, 0, 0, 0, 0, 0, []),
  (1, .invokespecial 3, 339, 0, 0, 1, 0, 0, []),
  (4, .aload_n 0, 0, 0, 0, 0, 0, 0, []),
  (5, .sipush 2304, 0, 0, 0, 0, 2304, 0, []),
  (8, .newarray .int, 0, 0, 302, 0, 0, 0, []),
  (10, .putfield 9, 340, 3, 0, 2, 0, 0, []),
  (13, .aload_n 0, 0, 0, 0, 0, 0, 0, []),
  (14, .sipush 1440, 0, 0, 0, 0, 1440, 0, []),
  (17, .newarray .int, 0, 0, 302, 0, 0, 0, []),
  (19, .putfield 15, 341, 3, 1, 2, 0, 0, []),
  (22, .aload_n 0, 0, 0, 0, 0, 0, 0, []),
  (23, .sipush 640, 0, 0, 0, 0, 640, 0, []),
  (26, .newarray .int, 0, 0, 302, 0, 0, 0, []),
  (28, .putfield 18, 342, 3, 2, 2, 0, 0, []),
  (31, .aload_n 0, 0, 0, 0, 0, 0, 0, []),
  (32, .sipush 6400, 0, 0, 0, 0, 6400, 0, []),
  (35, .newarray .int, 0, 0, 302, 0, 0, 0, []),
  (37, .putfield 21, 343, 3, 3, 2, 0, 0, []),
  (40, .aload_n 0, 0, 0, 0, 0, 0, 0, []),
  (41, .sipush 640, 0, 0, 0, 0, 640, 0, []),
  (44, .newarray .int, 0, 0, 302, 0, 0, 0, []),
  (46, .putfield 24, 344, 3, 4, 2, 0, 0, []),
  (49, .aload_n 0, 0, 0, 0, 0, 0, 0, []),
  (50, .sipush 640, 0, 0, 0, 0, 640, 0, []),
  (53, .newarray .int, 0, 0, 302, 0, 0, 0, []),
  (55, .putfield 27, 345, 3, 5, 2, 0, 0, []),
  (58, .aload_n 0, 0, 0, 0, 0, 0, 0, []),
  (59, .sipush 640, 0, 0, 0, 0, 640, 0, []),
  (62, .newarray .int, 0, 0, 302, 0, 0, 0, []),
  (64, .putfield 30, 346, 3, 6, 2, 0, 0, []),
  (67, .aload_n 0, 0, 0, 0, 0, 0, 0, []),
  (68, .sipush 640, 0, 0, 0, 0, 640, 0, []),
  (71, .newarray .int, 0, 0, 302, 0, 0, 0, []),
  (73, .putfield 33, 347, 3, 7, 2, 0, 0, []),
  (76, .aload_n 0, 0, 0, 0, 0, 0, 0, []),
  (77, .sipush 640, 0, 0, 0, 0, 640, 0, []),
  (80, .newarray .int, 0, 0, 302, 0, 0, 0, []),
  (82, .putfield 36, 348, 3, 8, 2, 0, 0, []),
  (85, .aload_n 0, 0, 0, 0, 0, 0, 0, []),
  (86, .sipush 640, 0, 0, 0, 0, 640, 0, []),
  (89, .newarray .long, 0, 0, 391, 3, 0, 0, []),
  (91, .putfield 39, 349, 3, 9, 2, 0, 0, []),
  (94, .aload_n 0, 0, 0, 0, 0, 0, 0, []),
  (95, .sipush 640, 0, 0, 0, 0, 640, 0, []),
  (98, .newarray .long, 0, 0, 391, 3, 0, 0, []),
  (100, .putfield 43, 350, 3, 10, 2, 0, 0, []),
  (103, .return_, 0, 0, 0, 0, 0, 0, [])]
def yo_X3_init : xm_M := (yX3_init, cX3_init, 1, none, yc_X3_init, (1, 3, 0), (338, 337, 0, 115))
def yc_X7_init : List xm_I := [(0, .aload_n 0, 0, 0, 0, 0, 0, 0, []),
  (1, .invokespecial 3, 397, 0, 0, 1, 0, 0, []),
  (4, .return_, 0, 0, 0, 0, 0, 0, [])]
def yo_X7_init : xm_M := (yX7_init, cX7_init, 1, none, yc_X7_init, (1, 6, 0), (396, 395, 0, 116))
def yc_X4_init : List xm_I := [(0, .aload_n 0, 0, 0, 0, 0, 0, 0, []),
  (1, .invokespecial 3, 423, 0, 0, 1, 0, 0, []),
  (4, .aload_n 0, 0, 0, 0, 0, 0, 0, []),
  (5, .sipush 1805, 0, 0, 0, 0, 1805, 0, []),
  (8, .newarray .int, 0, 0, 302, 0, 0, 0, []),
  (10, .putfield 11, 424, 4, 0, 2, 0, 0, []),
  (13, .aload_n 0, 0, 0, 0, 0, 0, 0, []),
  (14, .iconst 5, 0, 0, 0, 0, 5, 0, []),
  (15, .newarray .int, 0, 0, 302, 0, 0, 0, []),
  (17, .putfield 15, 425, 4, 1, 2, 0, 0, []),
  (20, .aload_n 0, 0, 0, 0, 0, 0, 0, []),
  (21, .bipush 6, 0, 0, 0, 0, 6, 0, []),
  (23, .newarray .int, 0, 0, 302, 0, 0, 0, []),
  (25, .putfield 18, 426, 4, 2, 2, 0, 0, []),
  (28, .aload_n 0, 0, 0, 0, 0, 0, 0, []),
  (29, .bipush 6, 0, 0, 0, 0, 6, 0, []),
  (31, .newarray .int, 0, 0, 302, 0, 0, 0, []),
  (33, .putfield 21, 427, 4, 3, 2, 0, 0, []),
  (36, .return_, 0, 0, 0, 0, 0, 0, [])]
def yo_X4_init : xm_M := (yX4_init, cX4_init, 1, none, yc_X4_init, (1, 4, 0), (422, 421, 0, 117))
def yc_X1_init : List xm_I := [(0, .aload_n 0, 0, 0, 0, 0, 0, 0, []),
  (1, .invokespecial 3, 448, 0, 0, 1, 0, 0, []),
  (4, .aload_n 0, 0, 0, 0, 0, 0, 0, []),
  (5, .sipush 1000, 0, 0, 0, 0, 1000, 0, []),
  (8, .newarray .boolean, 0, 0, 456, 2, 0, 0, []),
  (10, .putfield 9, 449, 1, 0, 2, 0, 0, []),
  (13, .aload_n 0, 0, 0, 0, 0, 0, 0, []),
  (14, .bipush 60, 0, 0, 0, 0, 60, 0, []),
  (16, .newarray .long, 0, 0, 391, 3, 0, 0, []),
  (18, .putfield 15, 450, 1, 1, 2, 0, 0, []),
  (21, .return_, 0, 0, 0, 0, 0, 0, [])]
def yo_X1_init : xm_M := (yX1_init, cX1_init, 1, none, yc_X1_init, (1, 1, 0), (447, 446, 0, 118))
def yc_X10_init : List xm_I := [(0, .aload_n 0, 0, 0, 0, 0, 0, 0, []),
  (1, .invokespecial 1, 135, 0, 0, 1, 0, 0, []),
  (4, .aload_n 0, 0, 0, 0, 0, 0, 0, []),
  (5, .new 7, 138, 5, 139, 111, 0, 0, []),
  (8, .dup, 0, 0, 0, 0, 0, 0, []),
  (9, .invokespecial 9, 0, 2, 0, 5, 0, 0, []),
  (12, .putfield 10, 481, 9, 0, 2, 0, 0, []),
  (15, .aload_n 0, 0, 0, 0, 0, 0, 0, []),
  (16, .new 16, 170, 8, 171, 112, 0, 0, []),
  (19, .dup, 0, 0, 0, 0, 0, 0, []),
  (20, .invokespecial 18, 1, 3, 0, 5, 0, 0, []),
  (23, .putfield 19, 482, 9, 1, 2, 0, 0, []),
  (26, .aload_n 0, 0, 0, 0, 0, 0, 0, []),
  (27, .new 23, 329, 0, 177, 113, 0, 0, []),
  (30, .dup, 0, 0, 0, 0, 0, 0, []),
  (31, .invokespecial 25, 4, 1, 0, 5, 0, 0, []),
  (34, .putfield 26, 483, 9, 2, 2, 0, 0, []),
  (37, .aload_n 0, 0, 0, 0, 0, 0, 0, []),
  (38, .iconst 3, 0, 0, 0, 0, 3, 0, []),
  (39, .anewarray 16, 170, 0, 0, 4, 0, 0, []),
  (42, .putfield 30, 484, 9, 3, 2, 0, 0, []),
  (45, .aload_n 0, 0, 0, 0, 0, 0, 0, []),
  (46, .iconst 4, 0, 0, 0, 0, 4, 0, []),
  (47, .anewarray 34, 332, 0, 0, 5, 0, 0, []),
  (50, .putfield 36, 485, 9, 4, 2, 0, 0, []),
  (53, .aload_n 0, 0, 0, 0, 0, 0, 0, []),
  (54, .new 40, 334, 3, 335, 115, 0, 0, []),
  (57, .dup, 0, 0, 0, 0, 0, 0, []),
  (58, .invokespecial 42, 5, 5, 0, 5, 0, 0, []),
  (61, .putfield 43, 486, 9, 5, 2, 0, 0, []),
  (64, .aload_n 0, 0, 0, 0, 0, 0, 0, []),
  (65, .new 47, 392, 6, 393, 116, 0, 0, []),
  (68, .dup, 0, 0, 0, 0, 0, 0, []),
  (69, .invokespecial 49, 6, 6, 0, 5, 0, 0, []),
  (72, .putfield 50, 487, 9, 6, 2, 0, 0, []),
  (75, .aload_n 0, 0, 0, 0, 0, 0, 0, []),
  (76, .new 54, 418, 4, 419, 117, 0, 0, []),
  (79, .dup, 0, 0, 0, 0, 0, 0, []),
  (80, .invokespecial 56, 7, 7, 0, 5, 0, 0, []),
  (83, .putfield 57, 488, 9, 7, 2, 0, 0, []),
  (86, .aload_n 0, 0, 0, 0, 0, 0, 0, []),
  (87, .new 61, 443, 1, 444, 118, 0, 0, []),
  (90, .dup, 0, 0, 0, 0, 0, 0, []),
  (91, .invokespecial 63, 8, 8, 0, 5, 0, 0, []),
  (94, .putfield 64, 489, 9, 8, 2, 0, 0, []),
  (97, .iconst 0, 0, 0, 0, 0, 0, 0, []),
  (98, .istore_n 1, 0, 0, 0, 0, 0, 0, []),
  (99, .iload_n 1, 0, 0, 0, 0, 0, 0, []),
  (100, .iconst 3, 0, 0, 0, 0, 3, 0, []),
  (101, .if_icmp .ge 22, 0, 0, 59, 0, 0, 0, []),
  (104, .aload_n 0, 0, 0, 0, 0, 0, 0, []),
  (105, .getfield 30, 484, 9, 3, 2, 0, 0, []),
  (108, .iload_n 1, 0, 0, 0, 0, 0, 0, []),
  (109, .new 16, 170, 8, 171, 112, 0, 0, []),
  (112, .dup, 0, 0, 0, 0, 0, 0, []),
  (113, .invokespecial 18, 1, 3, 0, 5, 0, 0, []),
  (116, .aastore, 0, 0, 0, 0, 0, 0, []),
  (117, .iinc 1 1, 0, 0, 0, 0, 1, 0, []),
  (120, .goto (-21), 0, 0, 47, 0, 0, 0, []),
  (123, .iconst 0, 0, 0, 0, 0, 0, 0, []),
  (124, .istore_n 1, 0, 0, 0, 0, 0, 0, []),
  (125, .iload_n 1, 0, 0, 0, 0, 0, 0, []),
  (126, .iconst 4, 0, 0, 0, 0, 4, 0, []),
  (127, .if_icmp .ge 22, 0, 0, 73, 0, 0, 0, []),
  (130, .aload_n 0, 0, 0, 0, 0, 0, 0, []),
  (131, .getfield 36, 485, 9, 4, 2, 0, 0, []),
  (134, .iload_n 1, 0, 0, 0, 0, 0, 0, []),
  (135, .new 34, 332, 2, 457, 119, 0, 0, []),
  (138, .dup, 0, 0, 0, 0, 0, 0, []),
  (139, .invokespecial 68, 9, 4, 0, 5, 0, 0, []),
  (142, .aastore, 0, 0, 0, 0, 0, 0, []),
  (143, .iinc 1 1, 0, 0, 0, 0, 1, 0, []),
  (146, .goto (-21), 0, 0, 61, 0, 0, 0, []),
  (149, .return_, 0, 0, 0, 0, 0, 0, [])]
def yo_X10_init : xm_M := (yX10_init, cX10_init, 2, none, yc_X10_init, (1, 9, 0), (134, 133, 0, 110))
def yc_X11_init : List xm_I := [(0, .aload_n 0, 0, 0, 0, 0, 0, 0, []),
  (1, .invokespecial 3, 1378, 0, 0, 1, 0, 0, []),
  (4, .aload_n 0, 0, 0, 0, 0, 0, 0, []),
  (5, .bipush 110, 0, 0, 0, 0, 110, 0, []),
  (7, .newarray .int, 0, 0, 302, 0, 0, 0, []),
  (9, .putfield 9, 1381, 10, 1, 2, 0, 0, []),
  (12, .aload_n 0, 0, 0, 0, 0, 0, 0, []),
  (13, .sipush 330, 0, 0, 0, 0, 330, 0, []),
  (16, .newarray .int, 0, 0, 302, 0, 0, 0, []),
  (18, .putfield 13, 1382, 10, 2, 2, 0, 0, []),
  (21, .aload_n 0, 0, 0, 0, 0, 0, 0, []),
  (22, .iconst 3, 0, 0, 0, 0, 3, 0, []),
  (23, .newarray .boolean, 0, 0, 456, 2, 0, 0, []),
  (25, .putfield 16, 1383, 10, 3, 2, 0, 0, []),
  (28, .aload_n 0, 0, 0, 0, 0, 0, 0, []),
  (29, .sipush 1000, 0, 0, 0, 0, 1000, 0, []),
  (32, .newarray .byte, 0, 0, 169, 1, 0, 0, []),
  (34, .putfield 20, 1384, 10, 4, 2, 0, 0, []),
  (37, .aload_n 0, 0, 0, 0, 0, 0, 0, []),
  (38, .iconst 5, 0, 0, 0, 0, 5, 0, []),
  (39, .newarray .int, 0, 0, 302, 0, 0, 0, []),
  (41, .putfield 24, 1386, 10, 6, 2, 0, 0, []),
  (44, .aload_n 0, 0, 0, 0, 0, 0, 0, []),
  (45, .iconst (-1), 0, 0, 0, 0, (-1), 0, []),
  (46, .putfield 27, 1393, 10, 13, 0, 0, 0, []),
  (49, .aload_n 0, 0, 0, 0, 0, 0, 0, []),
  (50, .bipush 110, 0, 0, 0, 0, 110, 0, []),
  (52, .newarray .int, 0, 0, 302, 0, 0, 0, []),
  (54, .putfield 31, 1394, 10, 14, 2, 0, 0, []),
  (57, .aload_n 0, 0, 0, 0, 0, 0, 0, []),
  (58, .ldc 34, 1379, 0, 0, 0, 120050, 0, []),
  (60, .newarray .int, 0, 0, 302, 0, 0, 0, []),
  (62, .putfield 35, 1400, 10, 20, 2, 0, 0, []),
  (65, .aload_n 0, 0, 0, 0, 0, 0, 0, []),
  (66, .ldc 34, 1379, 0, 0, 0, 120050, 0, []),
  (68, .newarray .boolean, 0, 0, 456, 2, 0, 0, []),
  (70, .putfield 38, 1401, 10, 21, 2, 0, 0, []),
  (73, .aload_n 0, 0, 0, 0, 0, 0, 0, []),
  (74, .ldc 34, 1379, 0, 0, 0, 120050, 0, []),
  (76, .newarray .int, 0, 0, 302, 0, 0, 0, []),
  (78, .putfield 41, 1402, 10, 22, 2, 0, 0, []),
  (81, .aload_n 0, 0, 0, 0, 0, 0, 0, []),
  (82, .sipush 2401, 0, 0, 0, 0, 2401, 0, []),
  (85, .newarray .boolean, 0, 0, 456, 2, 0, 0, []),
  (87, .putfield 44, 1406, 10, 26, 2, 0, 0, []),
  (90, .aload_n 0, 0, 0, 0, 0, 0, 0, []),
  (91, .ldc 34, 1379, 0, 0, 0, 120050, 0, []),
  (93, .newarray .long, 0, 0, 391, 3, 0, 0, []),
  (95, .putfield 47, 1407, 10, 27, 2, 0, 0, []),
  (98, .aload_n 0, 0, 0, 0, 0, 0, 0, []),
  (99, .ldc 34, 1379, 0, 0, 0, 120050, 0, []),
  (101, .newarray .long, 0, 0, 391, 3, 0, 0, []),
  (103, .putfield 51, 1408, 10, 28, 2, 0, 0, []),
  (106, .aload_n 0, 0, 0, 0, 0, 0, 0, []),
  (107, .ldc 54, 1380, 0, 0, 0, 1560650, 0, []),
  (109, .newarray .boolean, 0, 0, 456, 2, 0, 0, []),
  (111, .putfield 55, 1409, 10, 29, 2, 0, 0, []),
  (114, .aload_n 0, 0, 0, 0, 0, 0, 0, []),
  (115, .sipush 1000, 0, 0, 0, 0, 1000, 0, []),
  (118, .newarray .boolean, 0, 0, 456, 2, 0, 0, []),
  (120, .putfield 58, 1410, 10, 30, 2, 0, 0, []),
  (123, .aload_n 0, 0, 0, 0, 0, 0, 0, []),
  (124, .bipush 6, 0, 0, 0, 0, 6, 0, []),
  (126, .newarray .int, 0, 0, 302, 0, 0, 0, []),
  (128, .putfield 61, 1411, 10, 31, 2, 0, 0, []),
  (131, .aload_n 0, 0, 0, 0, 0, 0, 0, []),
  (132, .bipush 6, 0, 0, 0, 0, 6, 0, []),
  (134, .newarray .int, 0, 0, 302, 0, 0, 0, []),
  (136, .putfield 64, 1412, 10, 32, 2, 0, 0, []),
  (139, .aload_n 0, 0, 0, 0, 0, 0, 0, []),
  (140, .iconst 4, 0, 0, 0, 0, 4, 0, []),
  (141, .newarray .int, 0, 0, 302, 0, 0, 0, []),
  (143, .dup, 0, 0, 0, 0, 0, 0, []),
  (144, .iconst 0, 0, 0, 0, 0, 0, 0, []),
  (145, .iconst (-1), 0, 0, 0, 0, (-1), 0, []),
  (146, .iastore, 0, 0, 0, 0, 0, 0, []),
  (147, .dup, 0, 0, 0, 0, 0, 0, []),
  (148, .iconst 1, 0, 0, 0, 0, 1, 0, []),
  (149, .iconst (-1), 0, 0, 0, 0, (-1), 0, []),
  (150, .iastore, 0, 0, 0, 0, 0, 0, []),
  (151, .dup, 0, 0, 0, 0, 0, 0, []),
  (152, .iconst 2, 0, 0, 0, 0, 2, 0, []),
  (153, .iconst (-1), 0, 0, 0, 0, (-1), 0, []),
  (154, .iastore, 0, 0, 0, 0, 0, 0, []),
  (155, .dup, 0, 0, 0, 0, 0, 0, []),
  (156, .iconst 3, 0, 0, 0, 0, 3, 0, []),
  (157, .iconst (-1), 0, 0, 0, 0, (-1), 0, []),
  (158, .iastore, 0, 0, 0, 0, 0, 0, []),
  (159, .putfield 67, 1415, 10, 35, 2, 0, 0, []),
  (162, .aload_n 0, 0, 0, 0, 0, 0, 0, []),
  (163, .iconst 4, 0, 0, 0, 0, 4, 0, []),
  (164, .newarray .int, 0, 0, 302, 0, 0, 0, []),
  (166, .putfield 70, 1416, 10, 36, 2, 0, 0, []),
  (169, .aload_n 0, 0, 0, 0, 0, 0, 0, []),
  (170, .sipush 240, 0, 0, 0, 0, 240, 0, []),
  (173, .newarray .long, 0, 0, 391, 3, 0, 0, []),
  (175, .putfield 73, 1417, 10, 37, 2, 0, 0, []),
  (178, .aload_n 0, 0, 0, 0, 0, 0, 0, []),
  (179, .bipush 60, 0, 0, 0, 0, 60, 0, []),
  (181, .newarray .long, 0, 0, 391, 3, 0, 0, []),
  (183, .putfield 76, 1418, 10, 38, 2, 0, 0, []),
  (186, .return_, 0, 0, 0, 0, 0, 0, [])]
def yo_X11_init : xm_M := (yX11_init, cX11_init, 1, none, yc_X11_init, (1, 10, 0), (1377, 1376, 0, 120))
def ym_P : List xm_M := [yo_X8_init, yo_X0_init, yo_X6_init, yo_X9_init, yo_X2_init, yo_X3_init, yo_X7_init, yo_X4_init, yo_X1_init, yo_X10_init, yo_X11_init]
def ym_NW : List (String × Nat × MethodName × String) := [("SheetByTwo", 9, yX6_init, "SheetByTwo"), ("SheetByTwo", 18, yX9_init, "SheetByTwo"), ("SheetByTwo$Work", 11, yX0_init, "SheetByTwo"), ("SheetByTwo$Linen", 11, yX8_init, "SheetByTwo"), ("SheetByTwo", 25, yX0_init, "SheetByTwo"), ("SheetByTwo", 42, yX3_init, "SheetByTwo"), ("SheetByTwo", 49, yX7_init, "SheetByTwo"), ("SheetByTwo", 56, yX4_init, "SheetByTwo"), ("SheetByTwo", 63, yX1_init, "SheetByTwo"), ("SheetByTwo", 68, yX2_init, "SheetByTwo")]
set_option maxRecDepth 100000 in
theorem yk_X8_init : ym_okM lw_tbl vwCl ym_NW ym_P yo_X8_init = true := by decide +kernel
set_option maxRecDepth 100000 in
theorem yw_X8_init : Cond.code (xm_y yo_X8_init) (xm_cc yo_X8_init) (xm_ml yo_X8_init) none ∈ xm_T := xm_T_in (List.mem_of_getElem? (i := 186) rfl) rfl
set_option maxRecDepth 100000 in
theorem yk_X0_init : ym_okM lw_tbl vwCl ym_NW ym_P yo_X0_init = true := by decide +kernel
set_option maxRecDepth 100000 in
theorem yw_X0_init : Cond.code (xm_y yo_X0_init) (xm_cc yo_X0_init) (xm_ml yo_X0_init) none ∈ xm_T := xm_T_in (List.mem_of_getElem? (i := 180) rfl) rfl
set_option maxRecDepth 100000 in
theorem yk_X6_init : ym_okM lw_tbl vwCl ym_NW ym_P yo_X6_init = true := by decide +kernel
set_option maxRecDepth 100000 in
theorem yw_X6_init : Cond.code (xm_y yo_X6_init) (xm_cc yo_X6_init) (xm_ml yo_X6_init) none ∈ xm_T := xm_T_in (List.mem_of_getElem? (i := 142) rfl) rfl
set_option maxRecDepth 100000 in
theorem yk_X9_init : ym_okM lw_tbl vwCl ym_NW ym_P yo_X9_init = true := by decide +kernel
set_option maxRecDepth 100000 in
theorem yw_X9_init : Cond.code (xm_y yo_X9_init) (xm_cc yo_X9_init) (xm_ml yo_X9_init) none ∈ xm_T := xm_T_in (List.mem_of_getElem? (i := 174) rfl) rfl
set_option maxRecDepth 100000 in
theorem yk_X2_init : ym_okM lw_tbl vwCl ym_NW ym_P yo_X2_init = true := by decide +kernel
set_option maxRecDepth 100000 in
theorem yw_X2_init : Cond.code (xm_y yo_X2_init) (xm_cc yo_X2_init) (xm_ml yo_X2_init) none ∈ xm_T := xm_T_in (List.mem_of_getElem? (i := 460) rfl) rfl
set_option maxRecDepth 100000 in
theorem yk_X3_init : ym_okM lw_tbl vwCl ym_NW ym_P yo_X3_init = true := by decide +kernel
set_option maxRecDepth 100000 in
theorem yw_X3_init : Cond.code (xm_y yo_X3_init) (xm_cc yo_X3_init) (xm_ml yo_X3_init) none ∈ xm_T := xm_T_in (List.mem_of_getElem? (i := 338) rfl) rfl
set_option maxRecDepth 100000 in
theorem yk_X7_init : ym_okM lw_tbl vwCl ym_NW ym_P yo_X7_init = true := by decide +kernel
set_option maxRecDepth 100000 in
theorem yw_X7_init : Cond.code (xm_y yo_X7_init) (xm_cc yo_X7_init) (xm_ml yo_X7_init) none ∈ xm_T := xm_T_in (List.mem_of_getElem? (i := 396) rfl) rfl
set_option maxRecDepth 100000 in
theorem yk_X4_init : ym_okM lw_tbl vwCl ym_NW ym_P yo_X4_init = true := by decide +kernel
set_option maxRecDepth 100000 in
theorem yw_X4_init : Cond.code (xm_y yo_X4_init) (xm_cc yo_X4_init) (xm_ml yo_X4_init) none ∈ xm_T := xm_T_in (List.mem_of_getElem? (i := 422) rfl) rfl
set_option maxRecDepth 100000 in
theorem yk_X1_init : ym_okM lw_tbl vwCl ym_NW ym_P yo_X1_init = true := by decide +kernel
set_option maxRecDepth 100000 in
theorem yw_X1_init : Cond.code (xm_y yo_X1_init) (xm_cc yo_X1_init) (xm_ml yo_X1_init) none ∈ xm_T := xm_T_in (List.mem_of_getElem? (i := 447) rfl) rfl
set_option maxRecDepth 100000 in
theorem yk_X10_init : ym_okM lw_tbl vwCl ym_NW ym_P yo_X10_init = true := by decide +kernel
set_option maxRecDepth 100000 in
theorem yw_X10_init : Cond.code (xm_y yo_X10_init) (xm_cc yo_X10_init) (xm_ml yo_X10_init) none ∈ xm_T := xm_T_in (List.mem_of_getElem? (i := 134) rfl) rfl
set_option maxRecDepth 100000 in
theorem yk_X11_init : ym_okM lw_tbl vwCl ym_NW ym_P yo_X11_init = true := by decide +kernel
set_option maxRecDepth 100000 in
theorem yw_X11_init : Cond.code (xm_y yo_X11_init) (xm_cc yo_X11_init) (xm_ml yo_X11_init) none ∈ xm_T := xm_T_in (List.mem_of_getElem? (i := 1377) rfl) rfl
theorem ym_PK_ok : ym_PK lw_tbl xm_T vwCl ym_NW ym_P := ⟨fun w hw => good_of_word (List.mem_filter.mp hw).2, fun mi M h => (show ∀ M ∈ ym_P, ym_okM lw_tbl vwCl ym_NW ym_P M = true ∧ Cond.code (xm_y M) (xm_cc M) (xm_ml M) none ∈ xm_T from List.forall_mem_cons.mpr ⟨⟨yk_X8_init, yw_X8_init⟩, List.forall_mem_cons.mpr ⟨⟨yk_X0_init, yw_X0_init⟩, List.forall_mem_cons.mpr ⟨⟨yk_X6_init, yw_X6_init⟩, List.forall_mem_cons.mpr ⟨⟨yk_X9_init, yw_X9_init⟩, List.forall_mem_cons.mpr ⟨⟨yk_X2_init, yw_X2_init⟩, List.forall_mem_cons.mpr ⟨⟨yk_X3_init, yw_X3_init⟩, List.forall_mem_cons.mpr ⟨⟨yk_X7_init, yw_X7_init⟩, List.forall_mem_cons.mpr ⟨⟨yk_X4_init, yw_X4_init⟩, List.forall_mem_cons.mpr ⟨⟨yk_X1_init, yw_X1_init⟩, List.forall_mem_cons.mpr ⟨⟨yk_X10_init, yw_X10_init⟩, List.forall_mem_cons.mpr ⟨⟨yk_X11_init, yw_X11_init⟩, fun _ h => by cases h⟩⟩⟩⟩⟩⟩⟩⟩⟩⟩⟩) M (List.mem_of_getElem? h)⟩
set_option maxRecDepth 100000 in
theorem ym_OI : Cond.instanceMethod Lib.objectInit ∈ xm_T ∧ Cond.code Lib.objectInit ⟨#[0xb1]⟩ 1 none ∈ xm_T := ⟨xm_T_in (List.mem_of_getElem? (i := 136) rfl) rfl, xm_T_in (List.mem_of_getElem? (i := 137) rfl) rfl⟩
set_option maxRecDepth 100000 in
theorem yn_0 : Cond.methodLinkNest "SheetByTwo" 9 yX6_init "SheetByTwo" ∈ lw_tbl := List.mem_of_getElem? (i := 140) rfl
set_option maxRecDepth 100000 in
theorem yn_1 : Cond.methodLinkNest "SheetByTwo" 18 yX9_init "SheetByTwo" ∈ lw_tbl := List.mem_of_getElem? (i := 172) rfl
set_option maxRecDepth 100000 in
theorem yn_2 : Cond.methodLinkNest "SheetByTwo$Work" 11 yX0_init "SheetByTwo" ∈ lw_tbl := List.mem_of_getElem? (i := 178) rfl
set_option maxRecDepth 100000 in
theorem yn_3 : Cond.methodLinkNest "SheetByTwo$Linen" 11 yX8_init "SheetByTwo" ∈ lw_tbl := List.mem_of_getElem? (i := 184) rfl
set_option maxRecDepth 100000 in
theorem yn_4 : Cond.methodLinkNest "SheetByTwo" 25 yX0_init "SheetByTwo" ∈ lw_tbl := List.mem_of_getElem? (i := 330) rfl
set_option maxRecDepth 100000 in
theorem yn_5 : Cond.methodLinkNest "SheetByTwo" 42 yX3_init "SheetByTwo" ∈ lw_tbl := List.mem_of_getElem? (i := 336) rfl
set_option maxRecDepth 100000 in
theorem yn_6 : Cond.methodLinkNest "SheetByTwo" 49 yX7_init "SheetByTwo" ∈ lw_tbl := List.mem_of_getElem? (i := 394) rfl
set_option maxRecDepth 100000 in
theorem yn_7 : Cond.methodLinkNest "SheetByTwo" 56 yX4_init "SheetByTwo" ∈ lw_tbl := List.mem_of_getElem? (i := 420) rfl
set_option maxRecDepth 100000 in
theorem yn_8 : Cond.methodLinkNest "SheetByTwo" 63 yX1_init "SheetByTwo" ∈ lw_tbl := List.mem_of_getElem? (i := 445) rfl
set_option maxRecDepth 100000 in
theorem yn_9 : Cond.methodLinkNest "SheetByTwo" 68 yX2_init "SheetByTwo" ∈ lw_tbl := List.mem_of_getElem? (i := 458) rfl
set_option maxRecDepth 100000 in
theorem ya_Work : Cond.arrayOver (.object "SheetByTwo$Work") ∈ lw_tbl := List.mem_of_getElem? (i := 331) rfl
set_option maxRecDepth 100000 in
theorem ya_Row : Cond.arrayOver (.object "SheetByTwo$Row") ∈ lw_tbl := List.mem_of_getElem? (i := 333) rfl
set_option maxRecDepth 100000 in
theorem ya_int : Cond.arrayClass .int ∈ xm_T := xm_T_in (List.mem_of_getElem? (i := 302) rfl) rfl
set_option maxRecDepth 100000 in
theorem ya_byte : Cond.arrayClass .byte ∈ xm_T := xm_T_in (List.mem_of_getElem? (i := 169) rfl) rfl
set_option maxRecDepth 100000 in
theorem ya_boolean : Cond.arrayClass .boolean ∈ xm_T := xm_T_in (List.mem_of_getElem? (i := 456) rfl) rfl
set_option maxRecDepth 100000 in
theorem ya_long : Cond.arrayClass .long ∈ xm_T := xm_T_in (List.mem_of_getElem? (i := 391) rfl) rfl
theorem ym_NW_in : ∀ q ∈ ym_NW, Cond.methodLinkNest q.1 q.2.1 q.2.2.1 q.2.2.2 ∈ lw_tbl := List.forall_mem_cons.mpr ⟨yn_0, List.forall_mem_cons.mpr ⟨yn_1, List.forall_mem_cons.mpr ⟨yn_2, List.forall_mem_cons.mpr ⟨yn_3, List.forall_mem_cons.mpr ⟨yn_4, List.forall_mem_cons.mpr ⟨yn_5, List.forall_mem_cons.mpr ⟨yn_6, List.forall_mem_cons.mpr ⟨yn_7, List.forall_mem_cons.mpr ⟨yn_8, List.forall_mem_cons.mpr ⟨yn_9, fun _ h => by cases h⟩⟩⟩⟩⟩⟩⟩⟩⟩⟩
