/-! the tables of the pure machine, by program out of the printed names and words: classes, fields, methods, call sites, constants; each row with the place of its word among the tables -/
def mm_R : Nat → String := fun k => match k with
  | 0 => RX0
  | 1 => RX1
  | 2 => RX2
  | 3 => RX3
  | 4 => RX4
  | 5 => RX5
  | 6 => RX6
  | 7 => RX7
  | 8 => RX8
  | 9 => RX9
  | 10 => RX10
  | 11 => RX11
  | 12 => RJ6
  | 13 => RJ9
  | _ => "StonesOverLaw"
def mm_T : Nat → u_T := fun k => match k with
  | 0 => TX0
  | 1 => TX1
  | 2 => TX2
  | 3 => TX3
  | 4 => TX4
  | 5 => TX5
  | 6 => TX6
  | 7 => TX7
  | 8 => TX8
  | 9 => TX9
  | 10 => TX10
  | 11 => TX11
  | _ => fun _ => ("", "", "", false)
def mm_ty : Nat → Nat → FieldType := fun k => match k with
  | 0 => tyX0
  | 1 => tyX1
  | 2 => tyX2
  | 3 => tyX3
  | 4 => tyX4
  | 5 => tyX5
  | 6 => tyX6
  | 7 => tyX7
  | 8 => tyX8
  | 9 => tyX9
  | 10 => tyX10
  | 11 => tyX11
  | _ => fun _ => .int
def mm_n : Nat → Nat := fun k => match k with
  | 0 => 5
  | 1 => 5
  | 2 => 13
  | 3 => 3
  | 4 => 2
  | 5 => 4
  | 6 => 4
  | 7 => 10
  | 8 => 5
  | 9 => 5
  | 10 => 7
  | 11 => 11
  | _ => 0
def mm_fldL : List (Nat × (Nat × Nat) × (Nat × Nat)) := [(48, (4, 13), (4, 0)), (49, (4, 22), (4, 1)), (62, (5, 9), (5, 0)), (63, (5, 13), (5, 1)), (64, (5, 16), (5, 2)), (65, (5, 25), (5, 3)), (81, (10, 9), (10, 0)), (82, (10, 15), (10, 1)), (83, (10, 25), (10, 2)), (84, (10, 29), (10, 3)), (85, (10, 32), (10, 4)), (86, (10, 35), (10, 5)), (87, (10, 38), (10, 6)), (110, (8, 11), (8, 0)), (129, (9, 9), (9, 0)), (130, (9, 15), (9, 1)), (131, (9, 18), (9, 2)), (132, (9, 22), (9, 3)), (133, (9, 25), (9, 4)), (151, (1, 11), (1, 0)), (152, (1, 15), (1, 1)), (153, (1, 18), (1, 2)), (154, (1, 21), (1, 3)), (155, (1, 28), (1, 4)), (173, (7, 21), (7, 0)), (174, (7, 25), (7, 1)), (175, (7, 11), (7, 2)), (176, (7, 15), (7, 3)), (177, (7, 18), (7, 4)), (178, (7, 41), (7, 5)), (179, (7, 29), (7, 6)), (180, (7, 101), (7, 7)), (181, (7, 83), (7, 8)), (182, (7, 93), (7, 9)), (210, (2, 26), (2, 0)), (211, (2, 30), (2, 1)), (212, (2, 11), (2, 2)), (213, (2, 17), (2, 3)), (214, (2, 20), (2, 4)), (215, (2, 23), (2, 5)), (249, (6, 17), (6, 0)), (250, (6, 21), (6, 1)), (251, (6, 11), (6, 2)), (267, (3, 17), (3, 0)), (268, (3, 13), (3, 1)), (282, (0, 11), (0, 0)), (283, (0, 15), (0, 1)), (295, (11, 21), (11, 0)), (296, (11, 30), (11, 1)), (297, (11, 34), (11, 2)), (298, (11, 41), (11, 3)), (299, (11, 45), (11, 4)), (300, (11, 54), (11, 5)), (301, (11, 61), (11, 6)), (302, (11, 68), (11, 7)), (303, (11, 75), (11, 8)), (304, (11, 82), (11, 9)), (305, (11, 86), (11, 10))]
def mm_staL : List (Nat × (Nat × Nat) × Nat × String × String × String) := [(46, (4, 9), 1, "StonesOver$Lane", "AT_FIRST", "[I"), (528, (4, 16), 2, "StonesOver$Lane", "LEAST", "[I"), (530, (4, 19), 3, "StonesOver$Lane", "MOST", "[I")]
def mm_claL : List (Nat × (Nat × Nat) × Nat) := [(32, (14, 8), 11), (40, (11, 7), 4), (56, (11, 10), 5), (75, (11, 13), 10), (103, (11, 18), 8), (123, (11, 27), 9), (145, (11, 38), 1), (167, (11, 49), 7), (204, (11, 58), 2), (243, (11, 65), 6), (261, (11, 72), 3), (276, (11, 79), 0)]
def mm_conL : List (Nat × (Nat × Nat) × Int) := [(429, (12, 265), 1431655765), (430, (12, 266), 858993459), (431, (12, 267), 252645135), (566, (7, 111), 1103515245), (570, (14, 7), 40503), (580, (11, 122), -2000000000), (713, (14, 69), 1103515245)]
def mm_lonL : List (Nat × (Nat × Nat) × Int) := [(479, (11, 200), -9223372036854775808), (485, (11, 205), 12), (501, (7, 91), 12), (712, (14, 47), 12), (714, (14, 75), -9223372036854775808)]
def mm_calL : List (Nat × (Nat × Nat) × Nat × Nat × Nat) := [(34, (14, 10), 2, 73, 0), (37, (11, 1), 4, 0, 0), (42, (11, 9), 2, 6, 0), (45, (4, 3), 4, 0, 0), (58, (11, 12), 3, 20, 0), (61, (5, 1), 4, 0, 0), (77, (11, 15), 2, 64, 2), (80, (10, 3), 4, 0, 0), (106, (11, 20), 3, 46, 0), (109, (8, 3), 4, 0, 0), (125, (11, 29), 3, 47, 0), (128, (9, 1), 4, 0, 0), (147, (11, 40), 3, 1, 0), (150, (1, 3), 4, 0, 0), (169, (11, 51), 2, 29, 2), (172, (7, 3), 4, 0, 0), (206, (11, 60), 2, 4, 2), (209, (2, 3), 4, 0, 0), (245, (11, 67), 2, 26, 2), (248, (6, 3), 4, 0, 0), (263, (11, 74), 2, 5, 0), (266, (3, 7), 4, 0, 0), (278, (11, 81), 3, 0, 0), (281, (0, 3), 4, 0, 0), (329, (14, 25), 0, 78, 4), (333, (11, 152), 0, 8, 1), (337, (11, 156), 1, 87, 1), (340, (11, 159), 1, 88, 1), (343, (11, 162), 0, 65, 3), (347, (10, 21), 0, 15, 2), (351, (4, 30), 0, 12, 2), (355, (11, 165), 0, 67, 2), (359, (10, 46), 0, 23, 0), (363, (10, 52), 0, 24, 6), (367, (5, 29), 6, 0, 0), (370, (5, 35), 1, 25, 3), (373, (10, 56), 0, 68, 2), (377, (10, 62), 7, 0, 0), (380, (10, 41), 8, 0, 0), (383, (10, 59), 6, 0, 0), (384, (11, 168), 0, 18, 1), (388, (4, 34), 0, 16, 1), (392, (4, 38), 8, 0, 0), (393, (11, 171), 0, 19, 1), (397, (4, 43), 0, 17, 1), (401, (4, 46), 0, 18, 1), (402, (14, 35), 0, 79, 3), (406, (11, 174), 0, 69, 0), (410, (10, 66), 0, 67, 2), (411, (10, 69), 0, 18, 1), (412, (11, 177), 0, 70, 1), (416, (10, 72), 0, 19, 1), (417, (11, 180), 0, 72, 0), (421, (10, 75), 0, 70, 1), (422, (14, 59), 0, 80, 4), (426, (11, 183), 1, 91, 1), (432, (11, 188), 0, 30, 4), (436, (7, 33), 0, 34, 1), (440, (7, 37), 0, 35, 2), (444, (7, 71), 0, 65, 3), (445, (7, 77), 0, 71, 1), (449, (7, 44), 1, 91, 1), (450, (7, 50), 0, 36, 2), (454, (7, 54), 0, 37, 1), (458, (7, 57), 0, 38, 2), (462, (7, 60), 6, 0, 0), (463, (11, 192), 0, 31, 0), (467, (11, 195), 0, 32, 1), (471, (7, 65), 0, 33, 4), (475, (14, 43), 0, 81, 4), (480, (11, 202), 0, 39, 3), (484, (7, 80), 0, 15, 2), (486, (11, 207), 1, 89, 3), (489, (11, 400), 1, 90, 2), (492, (14, 53), 0, 82, 4), (496, (11, 211), 0, 40, 4), (500, (7, 87), 0, 39, 3), (502, (7, 97), 9, 0, 0), (505, (11, 214), 0, 43, 0), (509, (11, 217), 0, 41, 0), (513, (11, 221), 0, 42, 0), (517, (14, 56), 0, 83, 4), (521, (11, 224), 0, 44, 4), (525, (7, 104), 1, 7, 2), (532, (7, 108), 0, 66, 1), (536, (14, 62), 0, 84, 2), (540, (11, 259), 0, 27, 2), (544, (6, 27), 0, 15, 2), (545, (14, 66), 0, 85, 2), (549, (11, 262), 0, 28, 2), (553, (6, 31), 0, 9, 0), (557, (6, 35), 0, 27, 2), (558, (14, 70), 0, 86, 4), (562, (11, 283), 0, 45, 4), (567, (14, 17), 1, 92, 2), (571, (14, 11), 1, 94, 7), (574, (14, 81), 0, 75, 3), (578, (11, 118), 0, 12, 2), (579, (11, 90), 1, 7, 2), (581, (11, 123), 0, 13, 1), (585, (11, 126), 0, 2, 3), (589, (1, 25), 0, 3, 0), (593, (1, 37), 5, 0, 0), (596, (11, 130), 0, 14, 2), (600, (14, 84), 0, 74, 2), (604, (11, 94), 0, 10, 0), (608, (11, 98), 0, 11, 3), (612, (4, 26), 0, 14, 2), (613, (14, 87), 1, 93, 4), (616, (14, 77), 0, 76, 1), (620, (11, 134), 0, 49, 0), (624, (11, 135), 0, 48, 1), (628, (14, 91), 0, 77, 0), (632, (11, 138), 0, 53, 0), (636, (9, 32), 0, 54, 0), (640, (9, 40), 0, 55, 2), (644, (9, 48), 0, 57, 1), (648, (9, 36), 0, 62, 0), (652, (9, 55), 1, 61, 1), (655, (9, 58), 0, 60, 0), (659, (9, 44), 0, 63, 1), (663, (9, 61), 1, 21, 1), (666, (9, 65), 0, 58, 1), (670, (9, 68), 0, 59, 2), (674, (9, 52), 1, 56, 2), (677, (11, 141), 0, 51, 0), (681, (11, 145), 0, 52, 1), (685, (9, 28), 0, 22, 2), (689, (5, 19), 5, 0, 0), (690, (11, 149), 0, 50, 0), (694, (14, 21), 1, 95, 9), (697, (14, 29), 1, 97, 2), (700, (14, 95), 1, 96, 2), (703, (14, 32), 1, 98, 2), (706, (14, 39), 1, 99, 8), (709, (14, 49), 1, 100, 4)]
def mm_meL0 : List (Nat × MethodName × ByteArray × Nat × Option FieldType × Nat × Nat × Nat × Nat × Nat) := [(0, yX0_init, cX0_init, 1, none, 0, 280, 279, 0, 28), (1, yX1_init, cX1_init, 1, none, 0, 149, 148, 0, 23), (1, yX1_note, cX1_note, 4, none, 0, 588, 586, 587, 23), (1, yX1_forgetOldest, cX1_forgetOldest, 1, none, 0, 592, 591, 7, 23), (2, yX2_init, cX2_init, 3, none, 0, 208, 207, 0, 25), (3, yX3_init, cX3_init, 3, none, 0, 265, 264, 0, 27), (4, yX4_init, cX4_init, 4, none, 0, 44, 43, 0, 18), (4, yX4_isWithin, cX4_isWithin, 3, (some .boolean), 1, 527, 526, 0, 18), (4, yX4_isSpitter, cX4_isSpitter, 2, (some .boolean), 0, 336, 334, 335, 18), (4, yX4_size, cX4_size, 1, (some .int), 0, 556, 554, 555, 18), (4, yX4_isFull, cX4_isFull, 1, (some .boolean), 0, 607, 605, 606, 18), (4, yX4_welcome, cX4_welcome, 5, (some .int), 0, 611, 609, 610, 18), (4, yX4_cellOf, cX4_cellOf, 3, (some .int), 0, 354, 352, 353, 18), (4, yX4_numberIn, cX4_numberIn, 2, (some .int), 0, 584, 582, 583, 18), (4, yX4_write, cX4_write, 3, none, 0, 599, 597, 598, 18)]
def mm_meL1 : List (Nat × MethodName × ByteArray × Nat × Option FieldType × Nat × Nat × Nat × Nat × Nat) := [(4, yX4_told, cX4_told, 4, (some .int), 0, 350, 348, 349, 18), (4, yX4_isInBarrel, cX4_isInBarrel, 4, (some .boolean), 0, 391, 389, 390, 18), (4, yX4_isHit, cX4_isHit, 2, (some .boolean), 0, 400, 398, 399, 18), (4, yX4_stopOf, cX4_stopOf, 3, (some .int), 0, 387, 385, 386, 18), (4, yX4_pointsOf, cX4_pointsOf, 3, (some .int), 0, 396, 394, 395, 18), (5, yX5_init, cX5_init, 1, none, 0, 60, 59, 0, 19), (5, yX5_nameOf, cX5_nameOf, 1, (some .int), 1, 665, 664, 0, 19), (5, yX5_become, cX5_become, 3, none, 0, 688, 686, 687, 19), (5, yX5_isTold, cX5_isTold, 1, (some .boolean), 0, 362, 360, 361, 19), (5, yX5_worth, cX5_worth, 11, (some .int), 0, 366, 364, 365, 19), (5, yX5_joined, cX5_joined, 3, (some .int), 1, 372, 371, 0, 19), (6, yX6_init, cX6_init, 3, none, 0, 247, 246, 0, 26), (6, yX6_inSteps, cX6_inSteps, 4, (some .int), 0, 543, 541, 542, 26), (6, yX6_bitsOfSteppers, cX6_bitsOfSteppers, 5, (some .int), 0, 552, 550, 551, 26), (7, yX7_init, cX7_init, 3, none, 0, 171, 170, 0, 24)]
def mm_meL2 : List (Nat × MethodName × ByteArray × Nat × Option FieldType × Nat × Nat × Nat × Nat × Nat) := [(7, yX7_weighOrders, cX7_weighOrders, 9, none, 0, 435, 433, 434, 24), (7, yX7_mostOfOrders, cX7_mostOfOrders, 1, (some .int), 0, 466, 464, 465, 24), (7, yX7_stoneInOrder, cX7_stoneInOrder, 7, (some .int), 0, 470, 468, 469, 24), (7, yX7_leastStone, cX7_leastStone, 7, (some .int), 0, 474, 473, 6, 24), (7, yX7_gatherStones, cX7_gatherStones, 3, none, 0, 439, 438, 1, 24), (7, yX7_weighStones, cX7_weighStones, 5, none, 0, 443, 442, 2, 24), (7, yX7_worthOf, cX7_worthOf, 4, (some .int), 0, 453, 452, 3, 24), (7, yX7_mostOf, cX7_mostOf, 2, (some .int), 0, 457, 456, 4, 24), (7, yX7_together, cX7_together, 3, (some .int), 0, 461, 460, 5, 24), (7, yX7_chances, cX7_chances, 4, (some .int), 0, 483, 481, 482, 24), (7, yX7_weighTries, cX7_weighTries, 11, none, 0, 499, 497, 498, 24), (7, yX7_chanceAbove, cX7_chanceAbove, 1, (some .long), 0, 512, 510, 511, 24), (7, yX7_chanceBelow, cX7_chanceBelow, 1, (some .long), 0, 516, 514, 515, 24), (7, yX7_firstWithRun, cX7_firstWithRun, 1, (some .boolean), 0, 508, 506, 507, 24), (7, yX7_leastFor, cX7_leastFor, 7, (some .int), 0, 524, 522, 523, 24)]
def mm_meL3 : List (Nat × MethodName × ByteArray × Nat × Option FieldType × Nat × Nat × Nat × Nat × Nat) := [(7, yX7_draw, cX7_draw, 14, (some .int), 0, 565, 563, 564, 24), (8, yX8_init, cX8_init, 1, none, 0, 108, 107, 0, 21), (9, yX9_init, cX9_init, 1, none, 0, 127, 126, 0, 22), (9, yX9_append, cX9_append, 2, (some .int), 0, 627, 625, 626, 22), (9, yX9_isFull, cX9_isFull, 1, (some .boolean), 0, 623, 621, 622, 22), (9, yX9_clear, cX9_clear, 1, none, 0, 693, 691, 692, 22), (9, yX9_fault, cX9_fault, 1, (some .int), 0, 680, 678, 679, 22), (9, yX9_writeTo, cX9_writeTo, 2, none, 0, 684, 682, 683, 22), (9, yX9_isText, cX9_isText, 2, (some .boolean), 0, 635, 633, 634, 22), (9, yX9_isLine, cX9_isLine, 2, (some .boolean), 0, 639, 638, 8, 22), (9, yX9_isChain, cX9_isChain, 6, (some .boolean), 0, 643, 642, 9, 22), (9, yX9_isSignOf, cX9_isSignOf, 2, (some .boolean), 1, 676, 675, 0, 22), (9, yX9_isOperand, cX9_isOperand, 4, (some .boolean), 0, 647, 646, 10, 22), (9, yX9_isClosed, cX9_isClosed, 2, (some .boolean), 0, 669, 668, 14, 22), (9, yX9_isSigned, cX9_isSigned, 3, (some .boolean), 0, 673, 672, 15, 22)]
def mm_meL4 : List (Nat × MethodName × ByteArray × Nat × Option FieldType × Nat × Nat × Nat × Nat × Nat) := [(9, yX9_drawNumber, cX9_drawNumber, 3, none, 0, 658, 657, 12, 22), (9, yX9_isDigit, cX9_isDigit, 1, (some .boolean), 1, 654, 653, 0, 22), (9, yX9_letter, cX9_letter, 1, (some .int), 0, 651, 650, 11, 22), (9, yX9_draw, cX9_draw, 2, none, 0, 662, 661, 13, 22), (10, yX10_init, cX10_init, 3, none, 0, 79, 78, 0, 20), (10, yX10_take, cX10_take, 4, none, 0, 346, 344, 345, 20), (10, yX10_strengthen, cX10_strengthen, 2, none, 0, 535, 533, 534, 20), (10, yX10_landing, cX10_landing, 5, (some .int), 0, 358, 356, 357, 20), (10, yX10_withoutText, cX10_withoutText, 3, (some .int), 0, 376, 375, 0, 20), (10, yX10_bestAngleForStop, cX10_bestAngleForStop, 5, (some .int), 0, 409, 407, 408, 20), (10, yX10_bestAngle, cX10_bestAngle, 6, (some .int), 0, 415, 413, 414, 20), (10, yX10_bestPoints, cX10_bestPoints, 4, (some .int), 0, 448, 446, 447, 20), (10, yX10_bestAngleAndRun, cX10_bestAngleAndRun, 5, (some .int), 0, 420, 418, 419, 20), (11, yX11_init, cX11_init, 6, none, 0, 36, 35, 0, 17), (11, yX11_spitter, cX11_spitter, 3, (some .int), 0, 603, 601, 602, 17)]
def mm_meL5 : List (Nat × MethodName × ByteArray × Nat × Option FieldType × Nat × Nat × Nat × Nat × Nat) := [(11, yX11_mend, cX11_mend, 6, (some .int), 0, 577, 575, 576, 17), (11, yX11_feed, cX11_feed, 2, (some .int), 0, 619, 617, 618, 17), (11, yX11_law, cX11_law, 3, (some .int), 0, 631, 629, 630, 17), (11, yX11_tries, cX11_tries, 6, (some .int), 0, 332, 330, 331, 17), (11, yX11_angle, cX11_angle, 4, (some .int), 0, 405, 403, 404, 17), (11, yX11_order, cX11_order, 7, (some .int), 0, 425, 423, 424, 17), (11, yX11_risk, cX11_risk, 7, (some .long), 0, 478, 476, 477, 17), (11, yX11_risks, cX11_risks, 5, (some .long), 0, 495, 493, 494, 17), (11, yX11_practice, cX11_practice, 5, (some .int), 0, 520, 518, 519, 17), (11, yX11_steps, cX11_steps, 3, (some .int), 0, 539, 537, 538, 17), (11, yX11_whose, cX11_whose, 3, (some .int), 0, 548, 546, 547, 17), (11, yX11_drawn, cX11_drawn, 5, (some .int), 0, 561, 559, 560, 17), (11, yX11_isStoneAndAhead, cX11_isStoneAndAhead, 1, (some .boolean), 1, 339, 338, 0, 17), (11, yX11_isHow, cX11_isHow, 1, (some .boolean), 1, 342, 341, 0, 17), (11, yX11_fractionPart, cX11_fractionPart, 7, (some .long), 1, 488, 487, 0, 17)]
def mm_meL6 : List (Nat × MethodName × ByteArray × Nat × Option FieldType × Nat × Nat × Nat × Nat × Nat) := [(11, yX11_greatestDivisor, cX11_greatestDivisor, 11, (some .long), 1, 491, 490, 0, 17), (12, yJ6_bitCount_0f7a4, cJ6_bitCount_0f7a4, 1, (some .int), 1, 428, 427, 0, 31), (14, yL_cell, cL_cell, 2, (some .int), 1, 569, 568, 0, 16), (14, yL_three, cL_three, 4, (some .boolean), 1, 615, 614, 0, 16), (14, yL_lane, cL_lane, 11, (some .boolean), 1, 573, 572, 0, 16), (14, yL_lands, cL_lands, 15, (some .int), 1, 696, 695, 0, 16), (14, yL_barrel, cL_barrel, 2, (some .boolean), 1, 702, 701, 0, 16), (14, yL_stops, cL_stops, 2, (some .int), 1, 699, 698, 0, 16), (14, yL_points, cL_points, 2, (some .int), 1, 705, 704, 0, 16), (14, yL_best, cL_best, 11, (some .int), 1, 708, 707, 0, 16), (14, yL_is, cL_is, 14, (some .boolean), 1, 711, 710, 0, 16)]
def mm_meL : List (Nat × MethodName × ByteArray × Nat × Option FieldType × Nat × Nat × Nat × Nat × Nat) := mm_meL0 ++ mm_meL1 ++ mm_meL2 ++ mm_meL3 ++ mm_meL4 ++ mm_meL5 ++ mm_meL6
def mm_me (y : Nat) : Nat × MethodName × ByteArray × Nat × Option FieldType × Nat × Nat × Nat × Nat × Nat := mm_meL.getD y (99, ⟨"", "", ""⟩, ⟨#[]⟩, 0, none, 0, 0, 0, 0, 0)
def mm_look {α : Type} (ls : List (Nat × (Nat × Nat) × α)) (o i : Nat) : Option α := (ls.find? (fun q => Nat.beq q.2.1.1 o && Nat.beq q.2.1.2 i)).map (fun q => q.2.2)
theorem mm_look_in {α : Type} {ls : List (Nat × (Nat × Nat) × α)} {o i : Nat} {x : α} (h : mm_look ls o i = some x) : ∃ n, (n, (o, i), x) ∈ ls := by
  unfold mm_look at h
  obtain ⟨q, hq, rfl⟩ := Option.map_eq_some_iff.mp h
  have h1 := List.find?_some hq
  have h2 := List.mem_of_find?_eq_some hq
  simp only [Bool.and_eq_true] at h1
  obtain ⟨n, ⟨a, b⟩, x⟩ := q
  exact ⟨n, by rw [← Nat.eq_of_beq_eq_true h1.1, ← Nat.eq_of_beq_eq_true h1.2]; exact h2⟩
theorem mm_fld_ok : ∀ q ∈ mm_fldL, q.2.2.2 < mm_n q.2.2.1 ∧ q.2.2.1 < 12 ∧ (mm_T q.2.2.1 q.2.2.2).1 = mm_R q.2.2.1 ∧ lw_tbl[q.1]? = some (Jvm.Cond.fieldLink (mm_R q.2.1.1) q.2.1.2 (mm_R q.2.2.1) (mm_T q.2.2.1 q.2.2.2).2.1 (mm_T q.2.2.1 q.2.2.2).2.2.1) := by decide +kernel
theorem mm_sta_ok : ∀ q ∈ mm_staL, lw_tbl[q.1]? = some (Jvm.Cond.fieldLink (mm_R q.2.1.1) q.2.1.2 q.2.2.2.1 q.2.2.2.2.1 q.2.2.2.2.2) := by decide +kernel
theorem mm_cla_ok : ∀ q ∈ mm_claL, q.2.2 < 12 ∧ lw_tbl[q.1]? = some (Jvm.Cond.classLink (mm_R q.2.1.1) q.2.1.2 (mm_R q.2.2)) ∧ Jvm.Cond.instantiable (mm_R q.2.2) (mm_n q.2.2) ∈ lw_tbl ∧ Jvm.Cond.initialized (mm_R q.2.2) ∈ lw_tbl := by decide +kernel
theorem mm_con_ok : ∀ q ∈ mm_conL, lw_tbl[q.1]? = some (Jvm.Cond.constant (mm_R q.2.1.1) q.2.1.2 (Int32.ofInt q.2.2)) := by decide +kernel
theorem mm_lon_ok : ∀ q ∈ mm_lonL, lw_tbl[q.1]? = some (Jvm.Cond.constantLong (mm_R q.2.1.1) q.2.1.2 (Int64.ofInt q.2.2)) := by decide +kernel
def mm_calC (o i k y : Nat) : Jvm.Cond := match k with
  | 3 => .methodLinkNest (mm_R o) i (mm_me y).2.1 "StonesOver"
  | 4 => .methodLink (mm_R o) i Lib.objectInit
  | 5 => .methodLink (mm_R o) i arraycopyName
  | 6 => .methodLink (mm_R o) i Lib.Math.max.name
  | 7 => .methodLink (mm_R o) i Lib.Math.abs.name
  | 8 => .methodLink (mm_R o) i Lib.Math.min.name
  | 9 => .methodLink (mm_R o) i Lib.MathLoose.min_long.x
  | _ => .methodLink (mm_R o) i (mm_me y).2.1
theorem mm_cal_ok : ∀ q ∈ mm_calL, lw_tbl[q.1]? = some (mm_calC q.2.1.1 q.2.1.2 q.2.2.1 q.2.2.2.1) := by decide +kernel
def mm_calD (k y n : Nat) : Bool := match k with
  | 0 => Nat.beq (mm_me y).2.2.2.2.2.1 0 && !decide ((mm_me y).2.1.name = "<init>") && decide ((parseMethodDescriptor (mm_me y).2.1.desc).map (fun d => d.parameters.length) = some n)
  | 1 => Nat.beq (mm_me y).2.2.2.2.2.1 1 && decide ((parseMethodDescriptor (mm_me y).2.1.desc).map (fun d => d.parameters.length) = some n)
  | 2 => Nat.beq (mm_me y).2.2.2.2.2.1 0 && decide ((mm_me y).2.1.name = "<init>") && decide ((mm_me y).2.2.2.2.1 = none) && decide ((parseMethodDescriptor (mm_me y).2.1.desc).map (fun d => d.parameters.length) = some n)
  | 3 => Nat.beq (mm_me y).2.2.2.2.2.1 0 && decide ((mm_me y).2.1.name = "<init>") && decide ((mm_me y).2.2.2.2.1 = none) && decide ((parseMethodDescriptor (mm_me y).2.1.desc).map (fun d => d.parameters.length) = some n)
  | _ => true
theorem mm_cal_ok2 : ∀ q ∈ mm_calL, q.2.2.2.1 < mm_meL.length ∧ mm_calD q.2.2.1 q.2.2.2.1 q.2.2.2.2 = true := by decide +kernel
def mm_meC (q : Nat × MethodName × ByteArray × Nat × Option FieldType × Nat × Nat × Nat × Nat × Nat) : Prop :=
  q.2.1.cls = mm_R q.1 ∧ q.1 < 15 ∧ q.2.2.2.1 ≤ 20 ∧ lw_tbl[q.2.2.2.2.2.2.1]? = some (Jvm.Cond.code q.2.1 q.2.2.1 q.2.2.2.1 q.2.2.2.2.1) ∧ lw_tbl[q.2.2.2.2.2.2.2.1]? = some (if q.2.2.2.2.2.1 = 1 then Jvm.Cond.static q.2.1 else Jvm.Cond.instanceMethod q.2.1) ∧ (q.2.2.2.2.2.1 = 1 ∨ q.2.1.name = "<init>" ∨ lw_tbl[q.2.2.2.2.2.2.2.2.1]? = some (Jvm.Cond.selects q.2.1.cls q.2.1 q.2.1)) ∧ lw_tbl[q.2.2.2.2.2.2.2.2.2]? = some (Jvm.Cond.initialized q.2.1.cls) ∧ plainName q.2.1.cls = true ∧ q.2.1.cls ≠ "java/lang/invoke/MethodHandle" ∧ q.2.1.cls ≠ "java/lang/invoke/VarHandle"
set_option maxRecDepth 100000 in
theorem mm_me_ok0 : ∀ q ∈ mm_meL0, mm_meC q := by unfold mm_meC; decide +kernel
set_option maxRecDepth 100000 in
theorem mm_me_ok1 : ∀ q ∈ mm_meL1, mm_meC q := by unfold mm_meC; decide +kernel
set_option maxRecDepth 100000 in
theorem mm_me_ok2 : ∀ q ∈ mm_meL2, mm_meC q := by unfold mm_meC; decide +kernel
set_option maxRecDepth 100000 in
theorem mm_me_ok3 : ∀ q ∈ mm_meL3, mm_meC q := by unfold mm_meC; decide +kernel
set_option maxRecDepth 100000 in
theorem mm_me_ok4 : ∀ q ∈ mm_meL4, mm_meC q := by unfold mm_meC; decide +kernel
set_option maxRecDepth 100000 in
theorem mm_me_ok5 : ∀ q ∈ mm_meL5, mm_meC q := by unfold mm_meC; decide +kernel
