def mz_d1 : DecidableEq ((Option Int32 × List (Option Int32 × Int32 × Int × Int)) ⊕ Nat) := @instDecidableEqSum _ _ inferInstance inferInstance
def mz_d2 : DecidableEq ((Int × Int) ⊕ (Option Int32 × List (Option Int32 × Int32 × Int × Int)) ⊕ Nat) := @instDecidableEqSum _ _ inferInstance mz_d1
def mz_d3 : DecidableEq ((Int × Int) ⊕ (Int × Int) ⊕ (Option Int32 × List (Option Int32 × Int32 × Int × Int)) ⊕ Nat) := @instDecidableEqSum _ _ inferInstance mz_d2
def mz_d4 : DecidableEq (Option Nat ⊕ (Int × Int) ⊕ (Int × Int) ⊕ (Option Int32 × List (Option Int32 × Int32 × Int × Int)) ⊕ Nat) := @instDecidableEqSum _ _ inferInstance mz_d3
def mz_d5 : DecidableEq (Int64 ⊕ Option Nat ⊕ (Int × Int) ⊕ (Int × Int) ⊕ (Option Int32 × List (Option Int32 × Int32 × Int × Int)) ⊕ Nat) := @instDecidableEqSum _ _ inferInstance mz_d4
def mz_dV : DecidableEq mz_V := @instDecidableEqSum _ _ inferInstance mz_d5
def mz_dA : DecidableEq (List (Nat × mz_V)) := @instDecidableEqList _ (@instDecidableEqProd _ _ inferInstance mz_dV)
def mz_dL : DecidableEq (List mz_V) := @instDecidableEqList _ mz_dV
def mz_dC : DecidableEq mz_C := @instDecidableEqSum _ _ (@instDecidableEqProd _ _ inferInstance (@instDecidableEqProd _ _ inferInstance mz_dA)) (@instDecidableEqProd _ _ inferInstance mz_dL)
def mz_dS : DecidableEq mz_S := @instDecidableEqProd _ _ mz_dA (@instDecidableEqProd _ _ mz_dL (@instDecidableEqList _ mz_dC))
def mz_eqO (o : Option mz_S) (s : mz_S) : Bool := match o with
  | none => false
  | some t => @decide (t = s) (mz_dS t s)
theorem mz_eqO_ok {o : Option mz_S} {s : mz_S} (h : mz_eqO o s = true) : o = some s := by
  unfold mz_eqO at h
  split at h
  next => cases h
  next t => rw [@of_decide_eq_true _ (mz_dS t s) h]
/-! ===== the state behind the two constructors ===== -/
def mz_w_3 : List (Nat × mz_V) := [(0, .inl 0), (1, .inl 1), (2, .inl 2), (10, .inl 3), (3, .inl 4), (11, .inl 5), (12, .inl 6), (46, .inl 7), (4, .inl 8), (13, .inl 9), (14, .inl 10), (47, .inl 11), (15, .inl 12), (48, .inl 13), (49, .inl 14), (130, .inl 15), (5, .inl 16), (16, .inl 17), (17, .inl 18), (50, .inl 19), (18, .inl 20), (51, .inl 21), (52, .inl 22), (131, .inl 23), (19, .inl 24), (53, .inl 25), (54, .inl 26), (132, .inl 27), (55, .inl 28), (133, .inl 29), (134, .inl 30), (256, .inl 31), (6, .inl 32), (20, .inl 33), (21, .inl 34), (56, .inl 35), (22, .inl 36), (57, .inl 37), (58, .inl 38), (135, .inl 39), (23, .inl 40), (59, .inl 41), (60, .inl 42), (136, .inl 43), (61, .inl 44), (137, .inl 45), (138, .inl 46), (257, .inl 47), (24, .inl 48), (62, .inl 49), (63, .inl 50), (139, .inl 51), (64, .inl 52), (140, .inl 53), (141, .inl 54), (258, .inl 55), (65, .inl 56), (142, .inl 57), (143, .inl 58), (259, .inl 59), (144, .inl 60), (260, .inl 61), (261, .inl 62), (382, .inl 63), (7, .inl 64), (25, .inl 65), (26, .inl 66), (66, .inl 67), (27, .inl 68), (67, .inl 69), (68, .inl 70), (145, .inl 71), (28, .inl 72), (69, .inl 73), (70, .inl 74), (146, .inl 75), (71, .inl 76), (147, .inl 77), (148, .inl 78), (262, .inl 79), (29, .inl 80), (72, .inl 81), (73, .inl 82), (149, .inl 83), (74, .inl 84), (150, .inl 85), (151, .inl 86), (263, .inl 87), (75, .inl 88), (152, .inl 89), (153, .inl 90), (264, .inl 91), (154, .inl 92), (265, .inl 93), (266, .inl 94), (383, .inl 95), (30, .inl 96), (76, .inl 97), (77, .inl 98), (155, .inl 99), (78, .inl 100), (156, .inl 101), (157, .inl 102), (267, .inl 103), (79, .inl 104), (158, .inl 105), (159, .inl 106), (268, .inl 107), (160, .inl 108), (269, .inl 109), (270, .inl 110), (384, .inl 111), (80, .inl 112), (161, .inl 113), (162, .inl 114), (271, .inl 115), (163, .inl 116), (272, .inl 117), (273, .inl 118), (385, .inl 119), (164, .inl 120), (274, .inl 121), (275, .inl 122), (386, .inl 123), (276, .inl 124), (387, .inl 125), (388, .inl 126), (466, .inl 127), (8, .inl 128), (31, .inl 129), (32, .inl 130), (81, .inl 131), (33, .inl 132), (82, .inl 133), (83, .inl 134), (165, .inl 135), (34, .inl 136), (84, .inl 137), (85, .inl 138), (166, .inl 139), (86, .inl 140), (167, .inl 141), (168, .inl 142), (277, .inl 143), (35, .inl 144), (87, .inl 145), (88, .inl 146), (169, .inl 147), (89, .inl 148), (170, .inl 149), (171, .inl 150), (278, .inl 151), (90, .inl 152), (172, .inl 153), (173, .inl 154), (279, .inl 155), (174, .inl 156), (280, .inl 157), (281, .inl 158), (389, .inl 159), (36, .inl 160), (91, .inl 161), (92, .inl 162), (175, .inl 163), (93, .inl 164), (176, .inl 165), (177, .inl 166), (282, .inl 167), (94, .inl 168), (178, .inl 169), (179, .inl 170), (283, .inl 171), (180, .inl 172), (284, .inl 173), (285, .inl 174), (390, .inl 175), (95, .inl 176), (181, .inl 177), (182, .inl 178), (286, .inl 179), (183, .inl 180), (287, .inl 181), (288, .inl 182), (391, .inl 183), (184, .inl 184), (289, .inl 185), (290, .inl 186), (392, .inl 187), (291, .inl 188), (393, .inl 189), (394, .inl 190), (467, .inl 191), (37, .inl 192), (96, .inl 193), (97, .inl 194), (185, .inl 195), (98, .inl 196), (186, .inl 197), (187, .inl 198), (292, .inl 199), (99, .inl 200), (188, .inl 201), (189, .inl 202), (293, .inl 203), (190, .inl 204), (294, .inl 205), (295, .inl 206), (395, .inl 207), (100, .inl 208), (191, .inl 209), (192, .inl 210), (296, .inl 211), (193, .inl 212), (297, .inl 213), (298, .inl 214), (396, .inl 215), (194, .inl 216), (299, .inl 217), (300, .inl 218), (397, .inl 219), (301, .inl 220), (398, .inl 221), (399, .inl 222), (468, .inl 223), (101, .inl 224), (195, .inl 225), (196, .inl 226), (302, .inl 227), (197, .inl 228), (303, .inl 229), (304, .inl 230), (400, .inl 231), (198, .inl 232), (305, .inl 233), (306, .inl 234), (401, .inl 235), (307, .inl 236), (402, .inl 237), (403, .inl 238), (469, .inl 239), (199, .inl 240), (308, .inl 241), (309, .inl 242), (404, .inl 243), (310, .inl 244), (405, .inl 245), (406, .inl 246), (470, .inl 247), (311, .inl 248), (407, .inl 249), (408, .inl 250), (471, .inl 251), (409, .inl 252), (472, .inl 253), (473, .inl 254), (502, .inl 255), (9, .inl 256), (38, .inl 257), (39, .inl 258), (102, .inl 259), (40, .inl 260), (103, .inl 261), (104, .inl 262), (200, .inl 263), (41, .inl 264), (105, .inl 265), (106, .inl 266), (201, .inl 267), (107, .inl 268), (202, .inl 269), (203, .inl 270), (312, .inl 271), (42, .inl 272), (108, .inl 273), (109, .inl 274), (204, .inl 275), (110, .inl 276), (205, .inl 277), (206, .inl 278), (313, .inl 279), (111, .inl 280), (207, .inl 281), (208, .inl 282), (314, .inl 283), (209, .inl 284), (315, .inl 285), (316, .inl 286), (410, .inl 287), (43, .inl 288), (112, .inl 289), (113, .inl 290), (210, .inl 291), (114, .inl 292), (211, .inl 293), (212, .inl 294), (317, .inl 295), (115, .inl 296), (213, .inl 297), (214, .inl 298), (318, .inl 299), (215, .inl 300), (319, .inl 301), (320, .inl 302), (411, .inl 303), (116, .inl 304), (216, .inl 305), (217, .inl 306), (321, .inl 307), (218, .inl 308), (322, .inl 309), (323, .inl 310), (412, .inl 311), (219, .inl 312), (324, .inl 313), (325, .inl 314), (413, .inl 315), (326, .inl 316), (414, .inl 317), (415, .inl 318), (474, .inl 319), (44, .inl 320), (117, .inl 321), (118, .inl 322), (220, .inl 323), (119, .inl 324), (221, .inl 325), (222, .inl 326), (327, .inl 327), (120, .inl 328), (223, .inl 329), (224, .inl 330), (328, .inl 331), (225, .inl 332), (329, .inl 333), (330, .inl 334), (416, .inl 335), (121, .inl 336), (226, .inl 337), (227, .inl 338), (331, .inl 339), (228, .inl 340), (332, .inl 341), (333, .inl 342), (417, .inl 343), (229, .inl 344), (334, .inl 345), (335, .inl 346), (418, .inl 347), (336, .inl 348), (419, .inl 349), (420, .inl 350), (475, .inl 351), (122, .inl 352), (230, .inl 353), (231, .inl 354), (337, .inl 355), (232, .inl 356), (338, .inl 357), (339, .inl 358), (421, .inl 359), (233, .inl 360), (340, .inl 361), (341, .inl 362), (422, .inl 363), (342, .inl 364), (423, .inl 365), (424, .inl 366), (476, .inl 367), (234, .inl 368), (343, .inl 369), (344, .inl 370), (425, .inl 371), (345, .inl 372), (426, .inl 373), (427, .inl 374), (477, .inl 375), (346, .inl 376), (428, .inl 377), (429, .inl 378), (478, .inl 379), (430, .inl 380), (479, .inl 381), (480, .inl 382), (503, .inl 383), (45, .inl 384), (123, .inl 385), (124, .inl 386), (235, .inl 387), (125, .inl 388), (236, .inl 389), (237, .inl 390), (347, .inl 391), (126, .inl 392), (238, .inl 393), (239, .inl 394), (348, .inl 395), (240, .inl 396), (349, .inl 397), (350, .inl 398), (431, .inl 399), (127, .inl 400), (241, .inl 401), (242, .inl 402), (351, .inl 403), (243, .inl 404), (352, .inl 405), (353, .inl 406), (432, .inl 407), (244, .inl 408), (354, .inl 409), (355, .inl 410), (433, .inl 411), (356, .inl 412), (434, .inl 413), (435, .inl 414), (481, .inl 415), (128, .inl 416), (245, .inl 417), (246, .inl 418), (357, .inl 419), (247, .inl 420), (358, .inl 421), (359, .inl 422), (436, .inl 423), (248, .inl 424), (360, .inl 425), (361, .inl 426), (437, .inl 427), (362, .inl 428), (438, .inl 429), (439, .inl 430), (482, .inl 431), (249, .inl 432), (363, .inl 433), (364, .inl 434), (440, .inl 435), (365, .inl 436), (441, .inl 437), (442, .inl 438), (483, .inl 439), (366, .inl 440), (443, .inl 441), (444, .inl 442), (484, .inl 443), (445, .inl 444), (485, .inl 445), (486, .inl 446), (504, .inl 447), (129, .inl 448), (250, .inl 449), (251, .inl 450), (367, .inl 451), (252, .inl 452), (368, .inl 453), (369, .inl 454), (446, .inl 455), (253, .inl 456), (370, .inl 457), (371, .inl 458), (447, .inl 459), (372, .inl 460), (448, .inl 461), (449, .inl 462), (487, .inl 463), (254, .inl 464), (373, .inl 465), (374, .inl 466), (450, .inl 467), (375, .inl 468), (451, .inl 469), (452, .inl 470), (488, .inl 471), (376, .inl 472), (453, .inl 473), (454, .inl 474), (489, .inl 475), (455, .inl 476), (490, .inl 477), (491, .inl 478), (505, .inl 479), (255, .inl 480), (377, .inl 481), (378, .inl 482), (456, .inl 483), (379, .inl 484), (457, .inl 485), (458, .inl 486), (492, .inl 487), (380, .inl 488), (459, .inl 489), (460, .inl 490), (493, .inl 491), (461, .inl 492), (494, .inl 493), (495, .inl 494), (506, .inl 495), (381, .inl 496), (462, .inl 497), (463, .inl 498), (496, .inl 499), (464, .inl 500), (497, .inl 501), (498, .inl 502), (507, .inl 503), (465, .inl 504), (499, .inl 505), (500, .inl 506), (508, .inl 507), (501, .inl 508), (509, .inl 509), (510, .inl 510), (511, .inl 511)]
def mz_w_4 : List (Nat × mz_V) := [(1, .inl 1), (2, .inl 10), (3, .inl 46), (4, .inl 130), (5, .inl 256), (6, .inl 382), (7, .inl 466), (8, .inl 502), (9, .inl 511), (10, .inl 512)]
def mz_w_5 : List (Nat × mz_V) := [(1, .inl 10), (2, .inl 46), (3, .inl 130), (4, .inl 256), (5, .inl 382), (6, .inl 466), (7, .inl 502), (8, .inl 511), (9, .inl 512), (10, .inl 512), (0, .inl 1)]
def mz_w_7 : List (Nat × mz_V) := [(0, .inl 0), (1, .inl 0), (2, .inl 0), (3, .inl 0), (4, .inl 0), (5, .inl 0), (6, .inl 0), (7, .inl 0), (8, .inl 0)]
def mz_w_8 : List (Nat × mz_V) := [(0, .inl 0), (1, .inl 0), (2, .inl 0), (3, .inl 0), (4, .inl 0), (5, .inl 0), (6, .inl 0), (7, .inl 0), (8, .inl 0)]
def mz_w_9 : List (Nat × mz_V) := [(0, .inl 1), (1, .inl 1), (2, .inl 1), (3, .inl 1), (4, .inl 1), (5, .inl 1), (6, .inl 1), (7, .inl 1), (8, .inl 1)]
def mz_w_10 : List (Nat × mz_V) := [(0, .inl 1), (1, .inl 1), (2, .inl 1), (3, .inl 1), (4, .inl 1), (5, .inl 1), (6, .inl 1), (7, .inl 1), (8, .inl 1)]
def mz_w_12 : List (Nat × mz_V) := []
def mz_w_13 : List (Nat × mz_V) := []
def mz_w_14 : List (Nat × mz_V) := []
def mz_w_15 : List (Nat × mz_V) := []
def mz_w_20 : List (Nat × mz_V) := []
def mz_w_22 : List (Nat × mz_V) := []
def mz_w_23 : List (Nat × mz_V) := []
def mz_w_25 : List (Nat × mz_V) := []
def mz_w_26 : List (Nat × mz_V) := []
def mz_w_29 : List (Nat × mz_V) := []
def mz_w_30 : List (Nat × mz_V) := []
def mz_w_31 : List (Nat × mz_V) := []
def mz_w_32 : List (Nat × mz_V) := [(0, .inl 1), (1, .inl 1), (2, .inl 1), (3, .inl 1), (4, .inl 1), (5, .inl 1), (6, .inl 1), (7, .inl 1), (8, .inl 1)]
def mz_w_33 : List (Nat × mz_V) := [(0, .inl 1), (1, .inl 1), (2, .inl 1), (3, .inl 1), (4, .inl 1), (5, .inl 1), (6, .inl 1), (7, .inl 1), (8, .inl 1)]
def mz_w_34 : List (Nat × mz_V) := []
def mz_w_35 : List (Nat × mz_V) := []
def mz_w_36 : List (Nat × mz_V) := []
def mz_w_37 : List (Nat × mz_V) := []
def mz_w_38 : List (Nat × mz_V) := []
def mz_w_39 : List (Nat × mz_V) := []
def mz_w_40 : List (Nat × mz_V) := []
def mz_w_41 : List (Nat × mz_V) := []
def mz_w_42 : List (Nat × mz_V) := []
def mz_w1 : List mz_C := [.inr (11, [.inr (.inr (.inl (some 6))), .inr (.inr (.inl (some 11))), .inr (.inr (.inl (some 16))), .inr (.inr (.inl (some 17))), .inr (.inr (.inl (some 18))), .inr (.inr (.inl (some 19))), .inr (.inr (.inl (some 21))), .inr (.inr (.inl (some 24))), .inr (.inr (.inl (some 27)))]),
  .inr (5, [.inr (.inr (.inl none)), .inl 0]),
  .inr (8, [.inr (.inr (.inl (some 3))), .inr (.inr (.inl (some 4)))]),
  .inl (false, 512, mz_w_3),
  .inl (false, 11, mz_w_4),
  .inl (false, 11, mz_w_5),
  .inr (6, [.inr (.inr (.inl (some 7))), .inr (.inr (.inl (some 8))), .inr (.inr (.inl (some 9))), .inr (.inr (.inl (some 10))), .inl 1, .inl 1, .inl 10]),
  .inl (false, 9, mz_w_7),
  .inl (false, 9, mz_w_8),
  .inl (false, 9, mz_w_9),
  .inl (false, 9, mz_w_10),
  .inr (7, [.inr (.inr (.inl (some 12))), .inr (.inr (.inl (some 13))), .inr (.inr (.inl (some 14))), .inr (.inr (.inl (some 15))), .inl 0, .inl 0, .inl 0, .inl 0]),
  .inl (false, 200, mz_w_12),
  .inl (false, 12, mz_w_13),
  .inl (false, 12, mz_w_14),
  .inl (false, 12, mz_w_15),
  .inr (2, [.inr (.inr (.inl (some 6))), .inr (.inr (.inl (some 2))), .inr (.inr (.inl (some 1))), .inl 0]),
  .inr (4, [.inr (.inr (.inl (some 6))), .inr (.inr (.inl (some 16))), .inl 0, .inl 0, .inl 0, .inl 0, .inl 0, .inl 0, .inl 0]),
  .inr (9, [.inr (.inr (.inl (some 6))), .inr (.inr (.inl (some 1)))]),
  .inr (0, [.inr (.inr (.inl (some 6))), .inr (.inr (.inl (some 2))), .inr (.inr (.inl (some 20)))]),
  .inl (false, 9, mz_w_20),
  .inr (3, [.inr (.inr (.inl (some 6))), .inr (.inr (.inl (some 2))), .inr (.inr (.inl (some 22))), .inr (.inr (.inl (some 23))), .inl 0]),
  .inl (false, 9, mz_w_22),
  .inl (false, 9, mz_w_23),
  .inr (1, [.inr (.inr (.inl (some 6))), .inr (.inr (.inl (some 25))), .inr (.inr (.inl (some 26))), .inl 0]),
  .inl (false, 10, mz_w_25),
  .inl (false, 10, mz_w_26),
  .inr (10, [.inr (.inr (.inl (some 6))), .inr (.inr (.inl (some 1)))]),
  .inr (12, [.inr (.inr (.inl (some 29))), .inl 0, .inr (.inr (.inl (some 30))), .inl 0, .inl 1, .inr (.inr (.inl (some 31))), .inr (.inr (.inl (some 32))), .inr (.inr (.inl (some 33))), .inl 1, .inl 10, .inl 0, .inl 0, .inl 0, .inl 0, .inr (.inr (.inl (some 34))), .inl 0, .inl 0, .inl 0, .inl 0, .inl 0, .inl 0, .inr (.inr (.inl (some 35))), .inr (.inr (.inl (some 36))), .inr (.inr (.inl (some 37))), .inr (.inr (.inl (some 38))), .inr (.inr (.inl (some 39))), .inr (.inr (.inl (some 40))), .inr (.inr (.inl (some 41))), .inr (.inr (.inl (some 42)))]),
  .inl (false, 200, mz_w_29),
  .inl (false, 48, mz_w_30),
  .inl (false, 9, mz_w_31),
  .inl (false, 9, mz_w_32),
  .inl (false, 9, mz_w_33),
  .inl (false, 19683, mz_w_34),
  .inl (false, 512, mz_w_35),
  .inl (false, 10, mz_w_36),
  .inl (false, 10, mz_w_37),
  .inl (true, 4608, mz_w_38),
  .inl (false, 4608, mz_w_39),
  .inl (false, 4608, mz_w_40),
  .inl (false, 4608, mz_w_41),
  .inl (false, 512, mz_w_42)]
def mz_st0 : mz_S := ([(0, .inr (.inr (.inr (.inr (.inr (.inr 0))))))], [], [])
def mz_st1 : mz_S := ([(2, .inr (.inr (.inl (some 28)))), (1, .inr (.inr (.inl (some 0)))), (0, .inr (.inr (.inr (.inr (.inr (.inr 0))))))], [], mz_w1)
set_option maxRecDepth 100000 in
theorem ev_pre0 : mz_eqO (mz_runT tb_Lp 16 50 0 mz_st0) mz_st1 = true := by decide +kernel
theorem ev_pre : mz_runT tb_Lp 16 50 0 mz_st0 = some mz_st1 := mz_eqO_ok ev_pre0
