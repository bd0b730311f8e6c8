/-! ===== what stands in the tables: methods, links; and that the pure machine's instructions are those of the bytes ===== -/
def sd_on : List String := [RX0, RX1, RX2, RX3, RX4, RX5, RX6, RX7, RX8, RX9, RX10, RX11, RX12, RJ6, RJ9, RJ0, RJ1, RJ2, RJ7, RJ3, RL]
noncomputable def sd_M0 : List (Nat × (MethodName × (ByteArray × (Option FieldType × List (Nat × (Nat × (Nat × Nat))))))) := [(0, yX0_init, cX0_init, none, []), (0, yX0_has, cX0_has, (some .boolean), []), (0, yX0_copyFrom, cX0_copyFrom, none, []), (1, yX1_init, cX1_init, none, []), (1, yX1_findPlaces, cX1_findPlaces, none, []), (1, yX1_markRanges, cX1_markRanges, (some .int), []), (1, yX1_keepPlaces, cX1_keepPlaces, none, []), (1, yX1_findPaces, cX1_findPaces, none, []), (1, yX1_findTides, cX1_findTides, none, []), (1, yX1_keep, cX1_keep, none, []), (2, yX2_init, cX2_init, none, []), (2, yX2_read, cX2_read, none, []), (2, yX2_readLine, cX2_readLine, none, []), (2, yX2_readThing, cX2_readThing, none, []), (2, yX2_readShip, cX2_readShip, none, []), (2, yX2_readShape, cX2_readShape, none, []), (2, yX2_readHole, cX2_readHole, none, []), (2, yX2_readWall, cX2_readWall, none, []), (2, yX2_readClouds, cX2_readClouds, none, []), (2, yX2_readTide, cX2_readTide, none, []), (3, yX3_init, cX3_init, none, []), (3, yX3_clear, cX3_clear, none, []), (3, yX3_put, cX3_put, none, []), (3, yX3_putFact, cX3_putFact, none, []), (3, yX3_endLine, cX3_endLine, none, []), (3, yX3_chargeBy, cX3_chargeBy, (some .int), []), (3, yX3_holds, cX3_holds, (some .boolean), []), (3, yX3_push, cX3_push, (some .int), []), (3, yX3_workOff, cX3_workOff, (some .int), []), (3, yX3_joined, cX3_joined, (some .int), []), (3, yX3_copyFrom, cX3_copyFrom, none, []), (4, yX4_init, cX4_init, none, []), (4, yX4_read, cX4_read, none, []), (4, yX4_readAny, cX4_readAny, none, []), (4, yX4_readAtom, cX4_readAtom, none, []), (4, yX4_readSum, cX4_readSum, none, []), (4, yX4_readPart, cX4_readPart, none, []), (5, yX5_init, cX5_init, none, []), (5, yX5_find, cX5_find, none, []), (5, yX5_keep, cX5_keep, none, []), (5, yX5_clearOf, cX5_clearOf, (some .int), []), (5, yX5_openOf, cX5_openOf, (some .int), []), (5, yX5_onWallOf, cX5_onWallOf, (some .int), []), (6, yX6_init, cX6_init, none, []), (6, yX6_goToNow, cX6_goToNow, none, []), (6, yX6_goTo, cX6_goTo, none, []), (6, yX6_lookThrough, cX6_lookThrough, none, []), (6, yX6_lookThroughNew, cX6_lookThroughNew, none, []), (6, yX6_xOf, cX6_xOf, (some .int), []), (6, yX6_lowOf, cX6_lowOf, (some .int), []), (6, yX6_highOf, cX6_highOf, (some .int), []), (6, yX6_isThere, cX6_isThere, (some .boolean), []), (6, yX6_across, cX6_across, (some .int), []), (6, yX6_upward, cX6_upward, (some .int), []), (6, yX6_tipU, cX6_tipU, (some .int), []), (6, yX6_tipV, cX6_tipV, (some .int), []), (6, yX6_isOnWall, cX6_isOnWall, (some .boolean), []), (6, yX6_isTipOnWall, cX6_isTipOnWall, (some .boolean), []), (6, yX6_isClear, cX6_isClear, (some .boolean), []), (6, yX6_hides, cX6_hides, (some .boolean), [])]
noncomputable def sd_M1 : List (Nat × (MethodName × (ByteArray × (Option FieldType × List (Nat × (Nat × (Nat × Nat))))))) := [(6, yX6_hidesTip, cX6_hidesTip, (some .boolean), []), (6, yX6_firstHider, cX6_firstHider, (some .int), []), (6, yX6_firstHiderOfTip, cX6_firstHiderOfTip, (some .int), []), (6, yX6_seesPoint, cX6_seesPoint, (some .boolean), []), (6, yX6_sees, cX6_sees, (some .boolean), []), (6, yX6_isPointSeenBySome, cX6_isPointSeenBySome, (some .boolean), []), (6, yX6_isSeenBySome, cX6_isSeenBySome, (some .boolean), []), (6, yX6_fits, cX6_fits, (some .boolean), []), (6, yX6_leastX, cX6_leastX, (some .int), []), (6, yX6_mostX, cX6_mostX, (some .int), []), (7, yX7_init, cX7_init, none, []), (7, yX7_isLight, cX7_isLight, (some .boolean), []), (7, yX7_tideAt, cX7_tideAt, (some .int), []), (7, yX7_copyFrom, cX7_copyFrom, none, []), (8, yX8_init, cX8_init, none, []), (8, yX8_hasRoomFor, cX8_hasRoomFor, (some .boolean), []), (8, yX8_add, cX8_add, none, []), (8, yX8_open, cX8_open, none, []), (8, yX8_useUp, cX8_useUp, (some .int), []), (8, yX8_failAt, cX8_failAt, none, []), (8, yX8_isOver, cX8_isOver, (some .boolean), []), (8, yX8_needEnd, cX8_needEnd, none, []), (8, yX8_takeSign, cX8_takeSign, (some .boolean), []), (8, yX8_needSign, cX8_needSign, none, []), (8, yX8_takeWord, cX8_takeWord, (some .boolean), []), (8, yX8_needWord, cX8_needWord, none, []), (8, yX8_isAtNumber, cX8_isAtNumber, (some .boolean), []), (8, yX8_takeSideways, cX8_takeSideways, (some .int), []), (8, yX8_takeNumber, cX8_takeNumber, (some .int), []), (8, yX8_runEnd, cX8_runEnd, (some .int), []), (8, yX8_pass, cX8_pass, none, []), (9, yX9_init, cX9_init, none, []), (9, yX9_add, cX9_add, (some .int), []), (9, yX9_copyFrom, cX9_copyFrom, none, []), (10, yX10_init, cX10_init, none, []), (10, yX10_find, cX10_find, none, []), (10, yX10_laneBeside, cX10_laneBeside, (some .int), []), (10, yX10_bestLane, cX10_bestLane, (some .int), []), (10, yX10_restOf, cX10_restOf, (some .int), []), (10, yX10_laneOf, cX10_laneOf, (some .int), []), (11, yX11_init, cX11_init, none, []), (11, yX11_feed, cX11_feed, (some .int), []), (11, yX11_end, cX11_end, (some .boolean), []), (11, yX11_harbour, cX11_harbour, (some .int), []), (11, yX11_law, cX11_law, (some .int), []), (11, yX11_fault, cX11_fault, (some .int), []), (11, yX11_now, cX11_now, (some .int), []), (11, yX11_body, cX11_body, (some .int), []), (11, yX11_spot, cX11_spot, (some .int), []), (11, yX11_seen, cX11_seen, (some .boolean), []), (11, yX11_hider, cX11_hider, (some .int), []), (11, yX11_charge, cX11_charge, (some .int), []), (11, yX11_charges, cX11_charges, (some .int), []), (11, yX11_tide, cX11_tide, (some .int), []), (11, yX11_trace, cX11_trace, (some .int), []), (11, yX11_draw, cX11_draw, (some .int), []), (11, yX11_undo, cX11_undo, (some .int), []), (11, yX11_which, cX11_which, (some .int), []), (11, yX11_slips, cX11_slips, (some .int), []), (11, yX11_places, cX11_places, (some .int), [])]
noncomputable def sd_M2 : List (Nat × (MethodName × (ByteArray × (Option FieldType × List (Nat × (Nat × (Nat × Nat))))))) := [(11, yX11_when, cX11_when, (some .int), []), (11, yX11_paces, cX11_paces, (some .int), []), (11, yX11_mark, cX11_mark, (some .int), []), (11, yX11_setting, cX11_setting, (some .int), []), (11, yX11_way, cX11_way, (some .int), []), (11, yX11_met, cX11_met, (some .int), []), (11, yX11_image, cX11_image, none, []), (11, yX11_back, cX11_back, (some .boolean), []), (11, yX11_count, cX11_count, (some .int), []), (11, yX11_needBody, cX11_needBody, none, []), (11, yX11_needHole, cX11_needHole, none, []), (11, yX11_needTracing, cX11_needTracing, none, []), (11, yX11_needTime, cX11_needTime, none, []), (11, yX11_needRoomForTracing, cX11_needRoomForTracing, none, []), (11, yX11_chargeThen, cX11_chargeThen, (some .int), []), (11, yX11_bodiesOf, cX11_bodiesOf, (some .int), []), (11, yX11_isAhead, cX11_isAhead, (some .boolean), []), (11, yX11_lowBits, cX11_lowBits, (some .int), []), (11, yX11_roundDown, cX11_roundDown, (some .int), []), (11, yX11_commonDivisor, cX11_commonDivisor, (some .int), []), (12, yX12_init, cX12_init, none, []), (12, yX12_thrown, cX12_thrown, (some .int), []), (12, yX12_isIn, cX12_isIn, (some .boolean), []), (12, yX12_of, cX12_of, (some .int), []), (12, yX12_isThing, cX12_isThing, (some .boolean), []), (12, yX12_isBody, cX12_isBody, (some .boolean), []), (12, yX12_isHole, cX12_isHole, (some .boolean), []), (12, yX12_isTracing, cX12_isTracing, (some .boolean), []), (12, yX12_traced, cX12_traced, (some .int), []), (12, yX12_down, cX12_down, (some .int), []), (12, yX12_feed, cX12_feed, (some .int), []), (12, yX12_end, cX12_end, (some .boolean), []), (12, yX12_letter, cX12_letter, (some .int), []), (12, yX12_skip, cX12_skip, none, []), (12, yX12_isSign, cX12_isSign, (some .boolean), []), (12, yX12_isFigure, cX12_isFigure, (some .boolean), []), (12, yX12_has, cX12_has, (some .boolean), []), (12, yX12_wrong, cX12_wrong, none, []), (12, yX12_must, cX12_must, none, []), (12, yX12_figures, cX12_figures, (some .int), []), (12, yX12_signed, cX12_signed, (some .int), []), (12, yX12_bodyLine, cX12_bodyLine, none, []), (12, yX12_wallLine, cX12_wallLine, none, []), (12, yX12_harbourLine, cX12_harbourLine, none, []), (12, yX12_begins, cX12_begins, none, []), (12, yX12_read, cX12_read, (some .int), []), (12, yX12_harbour, cX12_harbour, (some .int), []), (12, yX12_part, cX12_part, (some .int), []), (12, yX12_sum, cX12_sum, (some .int), []), (12, yX12_plain, cX12_plain, (some .boolean), []), (12, yX12_atom, cX12_atom, (some .boolean), []), (12, yX12_every, cX12_every, (some .boolean), []), (12, yX12_some, cX12_some, (some .boolean), []), (12, yX12_lawLine, cX12_lawLine, none, []), (12, yX12_law, cX12_law, (some .int), []), (12, yX12_fault, cX12_fault, (some .int), []), (12, yX12_looksNow, cX12_looksNow, none, []), (12, yX12_looksBy, cX12_looksBy, none, []), (12, yX12_tideNow, cX12_tideNow, (some .int), []), (12, yX12_xOf, cX12_xOf, (some .int), [])]
noncomputable def sd_M3 : List (Nat × (MethodName × (ByteArray × (Option FieldType × List (Nat × (Nat × (Nat × Nat))))))) := [(12, yX12_lowOf, cX12_lowOf, (some .int), []), (12, yX12_highOf, cX12_highOf, (some .int), []), (12, yX12_isThere, cX12_isThere, (some .boolean), []), (12, yX12_isLight, cX12_isLight, (some .boolean), []), (12, yX12_above, cX12_above, (some .int), []), (12, yX12_hides, cX12_hides, (some .boolean), []), (12, yX12_hiderOf, cX12_hiderOf, (some .int), []), (12, yX12_isOnWall, cX12_isOnWall, (some .boolean), []), (12, yX12_isPointSeen, cX12_isPointSeen, (some .boolean), []), (12, yX12_sees, cX12_sees, (some .boolean), []), (12, yX12_isSeenBySome, cX12_isSeenBySome, (some .boolean), []), (12, yX12_now, cX12_now, (some .int), []), (12, yX12_body, cX12_body, (some .int), []), (12, yX12_divisor, cX12_divisor, (some .int), []), (12, yX12_spot, cX12_spot, (some .int), []), (12, yX12_seen, cX12_seen, (some .boolean), []), (12, yX12_hider, cX12_hider, (some .int), []), (12, yX12_chargeOf, cX12_chargeOf, (some .int), []), (12, yX12_charge, cX12_charge, (some .int), []), (12, yX12_charges, cX12_charges, (some .int), []), (12, yX12_tide, cX12_tide, (some .int), []), (12, yX12_adds, cX12_adds, (some .int), []), (12, yX12_trace, cX12_trace, (some .int), []), (12, yX12_draw, cX12_draw, (some .int), []), (12, yX12_undo, cX12_undo, (some .int), []), (12, yX12_isAt, cX12_isAt, (some .boolean), []), (12, yX12_fits, cX12_fits, (some .boolean), []), (12, yX12_whichOf, cX12_whichOf, (some .int), []), (12, yX12_which, cX12_which, (some .int), []), (12, yX12_slips, cX12_slips, (some .int), []), (12, yX12_places, cX12_places, (some .int), []), (12, yX12_when, cX12_when, (some .int), []), (12, yX12_paces, cX12_paces, (some .int), []), (12, yX12_mark, cX12_mark, (some .int), []), (12, yX12_setting, cX12_setting, (some .int), []), (12, yX12_boatSeen, cX12_boatSeen, (some .int), []), (12, yX12_way, cX12_way, (some .int), []), (12, yX12_met, cX12_met, (some .int), []), (12, yX12_image, cX12_image, none, []), (12, yX12_back, cX12_back, (some .boolean), []), (12, yX12_count, cX12_count, (some .int), []), (13, yJ6_bitCount_0f7a4, cJ6_bitCount_0f7a4, (some .int), []), (14, yJ9_floorDiv_7cf53, cJ9_floorDiv_7cf53, (some .int), []), (14, yJ9_floorMod_7cf53, cJ9_floorMod_7cf53, (some .int), []), (14, yJ9_max_7cf53, cJ9_max_7cf53, (some .int), []), (14, yJ9_min_7cf53, cJ9_min_7cf53, (some .int), []), (15, yJ0_length_8abf5, cJ0_length_8abf5, (some .int), []), (15, yJ0_charAt_5068e, cJ0_charAt_5068e, (some .char), []), (15, yJ0_coder_7d493, cJ0_coder_7d493, (some .byte), []), (15, yJ0_isLatin1_aae02, cJ0_isLatin1_aae02, (some .boolean), []), (15, yJ0_checkIndex_df160, cJ0_checkIndex_df160, none, []), (16, yJ1_charAt_3b067, cJ1_charAt_3b067, (some .char), []), (17, yJ2_getChar_3b067, cJ2_getChar_3b067, (some .char), []), (17, yJ2_length_9d52b, cJ2_length_9d52b, (some .int), []), (17, yJ2_charAt_3b067, cJ2_charAt_3b067, (some .char), []), (17, yJ2_checkIndex_2214a, cJ2_checkIndex_2214a, none, []), (18, yJ7_fill_53178, cJ7_fill_53178, none, []), (19, yJ3_checkIndex_8e157, cJ3_checkIndex_8e157, (some .int), []), (20, yL_harbour, cL_harbour, (some .int), [(0, 8, 11, 13), (0, 8, 14, 15)]), (20, yL_law, cL_law, (some .int), [(0, 8, 11, 13)])]
noncomputable def sd_M4 : List (Nat × (MethodName × (ByteArray × (Option FieldType × List (Nat × (Nat × (Nat × Nat))))))) := [(20, yL_now, cL_now, (some .int), [(0, 10, 13, 13)]), (20, yL_body, cL_body, (some .int), [(0, 10, 13, 27), (0, 10, 17, 29)]), (20, yL_spot, cL_spot, (some .int), [(0, 14, 17, 27), (0, 14, 21, 29)]), (20, yL_seen, cL_seen, (some .int), [(0, 17, 20, 27)]), (20, yL_hider, cL_hider, (some .int), [(0, 10, 13, 27)]), (20, yL_charge, cL_charge, (some .int), [(0, 9, 12, 27)]), (20, yL_charges, cL_charges, (some .int), [(0, 9, 12, 13)]), (20, yL_tide, cL_tide, (some .int), [(0, 10, 13, 13)]), (20, yL_trace, cL_trace, (some .int), [(0, 16, 19, 27), (0, 16, 23, 13), (0, 16, 27, 15)]), (20, yL_draw, cL_draw, (some .int), [(0, 10, 13, 27), (0, 10, 17, 15)]), (20, yL_which, cL_which, (some .int), [(0, 9, 12, 27)]), (20, yL_places, cL_places, (some .int), [(0, 14, 17, 13), (0, 14, 21, 29)]), (20, yL_when, cL_when, (some .int), [(0, 10, 13, 27)]), (20, yL_paces, cL_paces, (some .int), [(0, 14, 17, 27), (0, 14, 21, 13), (0, 14, 25, 29)]), (20, yL_mark, cL_mark, (some .int), [(0, 16, 19, 27), (0, 16, 23, 13)]), (20, yL_setting, cL_setting, (some .int), [(0, 12, 15, 27), (0, 12, 19, 29)]), (20, yL_way, cL_way, (some .int), [(0, 9, 12, 29)]), (20, yL_met, cL_met, (some .int), [(0, 12, 15, 27), (0, 12, 19, 13)]), (20, yL_law_, cL_law_, (some .boolean), [])]
noncomputable def sd_M : List (Nat × (MethodName × (ByteArray × (Option FieldType × List (Nat × (Nat × (Nat × Nat))))))) := sd_M0 ++ (sd_M1 ++ (sd_M2 ++ (sd_M3 ++ (sd_M4))))
def sd_MX : List (Nat × (Nat × (Nat × Nat))) := [(140, 139, 0, 91), (576, 574, 575, 91), (646, 644, 645, 91), (446, 445, 0, 97), (1238, 1236, 1237, 97), (1242, 1241, 29, 97), (1264, 1263, 30, 97), (1291, 1289, 1290, 97), (1303, 1301, 1302, 97), (1268, 1267, 31, 97), (128, 127, 0, 89), (685, 683, 684, 89), (702, 701, 2, 89), (763, 762, 4, 89), (793, 792, 6, 89), (781, 780, 5, 89), (799, 798, 7, 89), (804, 803, 8, 89), (810, 809, 9, 89), (822, 821, 10, 89), (205, 204, 0, 92), (936, 934, 935, 92), (957, 955, 956, 92), (968, 966, 967, 92), (989, 987, 988, 92), (1145, 1143, 1144, 92), (1149, 1148, 24, 92), (1153, 1152, 25, 92), (1157, 1156, 26, 92), (1160, 1159, 0, 92), (653, 651, 652, 92), (369, 368, 0, 94), (932, 930, 931, 94), (947, 946, 12, 94), (952, 951, 13, 94), (974, 973, 14, 94), (978, 977, 15, 94), (468, 467, 0, 98), (1314, 1312, 1313, 98), (1340, 1339, 35, 98), (1319, 1318, 32, 98), (1326, 1325, 33, 98), (1331, 1330, 34, 98), (405, 404, 0, 96), (1036, 1034, 1035, 96), (584, 582, 583, 96), (595, 593, 594, 96), (599, 597, 598, 96), (607, 605, 606, 96), (1041, 1039, 1040, 96), (625, 623, 624, 96), (633, 631, 632, 96), (611, 609, 610, 96), (629, 627, 628, 96), (603, 601, 602, 96), (621, 619, 620, 96), (1102, 1101, 20, 96), (1335, 1333, 1334, 96), (1097, 1095, 1096, 96), (1110, 1109, 22, 96), (1384, 1382, 1383, 96), (1106, 1105, 21, 96), (1122, 1120, 1121, 96), (1093, 1092, 19, 96), (1088, 1086, 1087, 96), (1141, 1139, 1140, 96), (1137, 1135, 1136, 96), (580, 578, 579, 96), (1252, 1250, 1251, 96), (1259, 1257, 1258, 96), (134, 133, 0, 90), (672, 670, 671, 90), (588, 586, 587, 90), (642, 640, 641, 90), (382, 381, 0, 95), (548, 546, 547, 95), (552, 550, 551, 95), (690, 688, 689, 95), (836, 834, 835, 95), (767, 765, 766, 95), (698, 696, 697, 95), (831, 829, 830, 95), (827, 825, 826, 95), (962, 960, 961, 95), (707, 705, 706, 95), (787, 785, 786, 95), (814, 812, 813, 95), (771, 769, 770, 95), (777, 775, 776, 95), (721, 720, 3, 95), (694, 693, 1, 95), (231, 230, 0, 93), (1193, 1191, 1192, 93), (658, 656, 657, 93), (491, 490, 0, 99), (1352, 1350, 1351, 99), (1358, 1357, 36, 99), (1364, 1363, 37, 99), (1368, 1367, 38, 99), (1372, 1370, 1371, 99), (120, 119, 0, 88), (544, 542, 543, 88), (556, 554, 555, 88), (681, 679, 680, 88), (928, 926, 927, 88), (560, 558, 559, 88), (998, 996, 997, 88), (1012, 1010, 1011, 88), (1065, 1063, 1064, 88), (1084, 1082, 1083, 88), (1118, 1116, 1117, 88), (1129, 1127, 1128, 88), (1167, 1165, 1166, 88), (1175, 1173, 1174, 88), (1183, 1181, 1182, 88), (1200, 1198, 1199, 88), (564, 562, 563, 88), (1209, 1207, 1208, 88), (568, 566, 567, 88), (1221, 1219, 1220, 88), (1275, 1273, 1274, 88), (1283, 1281, 1282, 88), (1298, 1296, 1297, 88), (1310, 1308, 1309, 88), (1347, 1345, 1346, 88), (1379, 1377, 1378, 88), (638, 636, 637, 88), (664, 662, 663, 88), (668, 666, 667, 88), (1016, 1015, 17, 88), (1069, 1068, 18, 88), (1213, 1212, 28, 88), (1002, 1001, 16, 88), (1188, 1187, 27, 88), (1133, 1132, 23, 88), (572, 571, 0, 88), (1286, 1285, 0, 88), (1227, 1226, 0, 88), (614, 613, 0, 88), (1076, 1075, 0, 88), (1389, 1388, 0, 100), (1461, 1459, 1460, 100), (1472, 1471, 0, 100), (1625, 1624, 64, 100), (1613, 1612, 61, 100), (1609, 1608, 60, 100), (1649, 1648, 69, 100), (1739, 1738, 81, 100), (1751, 1750, 84, 100), (1663, 1662, 0, 100), (1465, 1463, 1464, 100), (1469, 1467, 1468, 100), (1492, 1491, 42, 100), (1488, 1487, 41, 100), (1529, 1528, 50, 100), (1547, 1546, 54, 100), (1505, 1504, 45, 100), (1496, 1495, 43, 100), (1574, 1573, 58, 100), (1511, 1510, 46, 100), (1568, 1567, 57, 100), (1564, 1563, 56, 100), (1582, 1581, 59, 100), (1559, 1558, 55, 100), (1480, 1479, 39, 100), (1484, 1483, 40, 100), (1476, 1474, 1475, 100), (1543, 1542, 53, 100), (1539, 1538, 52, 100), (1533, 1532, 51, 100), (1524, 1523, 49, 100), (1520, 1519, 48, 100), (1516, 1515, 47, 100), (1500, 1499, 44, 100), (1593, 1591, 1592, 100), (1597, 1595, 1596, 100), (1617, 1616, 62, 100), (1653, 1652, 70, 100), (1633, 1632, 66, 100), (1621, 1620, 63, 100), (1629, 1628, 65, 100), (1637, 1636, 67, 100), (1641, 1640, 68, 100), (1679, 1678, 74, 100), (1657, 1656, 71, 100), (1691, 1690, 77, 100), (1687, 1686, 76, 100), (1683, 1682, 75, 100), (1675, 1674, 73, 100), (1671, 1670, 72, 100), (1707, 1706, 79, 100), (1601, 1599, 1600, 100), (1605, 1603, 1604, 100), (1660, 1659, 0, 100), (1645, 1643, 1644, 100), (1667, 1665, 1666, 100), (1695, 1693, 1694, 100), (1703, 1702, 78, 100), (1699, 1697, 1698, 100), (1711, 1709, 1710, 100), (1715, 1713, 1714, 100), (1723, 1722, 80, 100), (1719, 1717, 1718, 100), (1727, 1725, 1726, 100), (1731, 1729, 1730, 100), (1755, 1754, 85, 100), (1747, 1746, 83, 100), (1743, 1742, 82, 100), (1735, 1733, 1734, 100), (1759, 1757, 1758, 100), (1763, 1761, 1762, 100), (1767, 1765, 1766, 100), (1771, 1769, 1770, 100), (1775, 1773, 1774, 100), (1779, 1777, 1778, 100), (1787, 1786, 86, 100), (1783, 1781, 1782, 100), (1791, 1789, 1790, 100), (1795, 1793, 1794, 100), (1799, 1797, 1798, 100), (1803, 1801, 1802, 100), (1231, 1230, 0, 114), (617, 616, 0, 112), (591, 590, 0, 112), (1255, 1254, 0, 112), (1224, 1223, 0, 112), (711, 709, 710, 102), (725, 723, 724, 102), (715, 713, 714, 102), (729, 727, 728, 102), (735, 734, 0, 102), (732, 731, 0, 103), (753, 752, 0, 105), (749, 748, 0, 105), (743, 742, 0, 105), (746, 745, 0, 105), (1245, 1244, 0, 115), (740, 739, 0, 104), (675, 674, 0, 87), (924, 923, 0, 87), (994, 993, 0, 87), (1006, 1005, 0, 87), (1061, 1060, 0, 87), (1080, 1079, 0, 87), (1114, 1113, 0, 87), (1125, 1124, 0, 87), (1163, 1162, 0, 87), (1171, 1170, 0, 87), (1179, 1178, 0, 87), (1196, 1195, 0, 87), (1205, 1204, 0, 87), (1217, 1216, 0, 87), (1271, 1270, 0, 87), (1279, 1278, 0, 87), (1294, 1293, 0, 87), (1306, 1305, 0, 87), (1343, 1342, 0, 87), (1375, 1374, 0, 87), (0, 0, 0, 0)]
def sd_fl : List (Nat × (Nat × (Nat × (Nat × Nat)))) := [(0, 9, 0, 0, 142), (0, 15, 0, 1, 145), (0, 18, 0, 2, 148), (0, 21, 0, 3, 153), (0, 24, 0, 4, 157), (0, 27, 0, 5, 161), (0, 30, 0, 6, 165), (0, 33, 0, 7, 169), (0, 36, 0, 8, 173), (0, 40, 0, 9, 176), (1, 9, 1, 0, 448), (1, 15, 1, 1, 449), (1, 27, 6, 0, 412), (1, 33, 7, 2, 274), (1, 45, 9, 5, 251), (1, 48, 9, 2, 241), (1, 62, 9, 4, 248), (1, 65, 9, 3, 245), (1, 85, 9, 1, 237), (1, 88, 1, 2, 451), (1, 91, 1, 3, 453), (2, 12, 2, 0, 360), (2, 42, 8, 3, 389), (2, 46, 8, 2, 387), (2, 82, 7, 11, 306), (2, 91, 7, 12, 309), (2, 95, 7, 13, 313), (2, 102, 7, 0, 268), (2, 106, 0, 8, 174), (2, 115, 0, 0, 143), (2, 132, 0, 6, 166), (2, 136, 0, 7, 170), (2, 138, 0, 9, 177), (2, 143, 0, 1, 146), (2, 145, 0, 2, 150), (2, 148, 0, 3, 154), (2, 151, 0, 4, 158), (2, 154, 0, 5, 162), (2, 157, 7, 6, 286), (2, 160, 7, 3, 279), (2, 163, 7, 4, 282), (2, 166, 7, 7, 291), (2, 169, 7, 8, 294), (2, 172, 7, 9, 298), (2, 177, 7, 10, 302), (2, 183, 7, 5, 284), (3, 11, 3, 0, 207), (3, 15, 3, 1, 208), (3, 18, 3, 2, 209), (3, 21, 3, 3, 210), (3, 24, 3, 4, 211), (3, 28, 3, 5, 213), (4, 12, 4, 0, 373), (4, 61, 8, 3, 390), (5, 9, 5, 0, 470), (5, 44, 5, 1, 472), (5, 47, 5, 2, 474), (5, 50, 5, 3, 476), (5, 57, 6, 0, 413), (5, 61, 7, 0, 269), (5, 67, 0, 2, 149), (6, 12, 6, 0, 409), (6, 18, 7, 0, 267), (6, 22, 6, 1, 414), (6, 23, 7, 15, 317), (6, 27, 7, 16, 321), (6, 34, 6, 2, 415), (6, 35, 6, 3, 417), (6, 40, 6, 4, 419), (6, 43, 7, 3, 278), (6, 47, 7, 4, 281), (6, 50, 7, 7, 290), (6, 57, 6, 5, 420), (6, 60, 6, 6, 421), (6, 63, 6, 7, 422), (6, 64, 0, 0, 144), (6, 69, 0, 1, 147), (6, 72, 0, 4, 159), (6, 75, 0, 5, 163), (6, 82, 0, 6, 168), (6, 85, 0, 7, 172), (6, 92, 0, 2, 152), (6, 107, 7, 8, 295), (6, 110, 7, 9, 299), (6, 113, 7, 10, 303), (6, 123, 7, 12, 310), (6, 126, 0, 3, 156), (6, 149, 7, 6, 287), (6, 159, 7, 2, 276), (6, 163, 9, 0, 235), (6, 167, 9, 1, 239), (6, 169, 9, 2, 243), (6, 175, 9, 3, 246), (6, 181, 9, 4, 249), (7, 12, 7, 0, 266), (7, 21, 7, 1, 271), (7, 28, 7, 2, 273), (7, 32, 7, 3, 277), (7, 36, 7, 4, 280), (7, 39, 7, 5, 283), (7, 42, 7, 7, 289), (7, 46, 7, 8, 293), (7, 49, 7, 9, 297), (7, 52, 7, 10, 301), (7, 55, 7, 12, 308), (7, 58, 7, 11, 305), (7, 61, 7, 13, 312), (7, 86, 7, 6, 285), (7, 89, 7, 14, 316), (7, 92, 7, 15, 319), (7, 95, 7, 16, 323), (8, 9, 8, 0, 384), (8, 15, 8, 1, 385), (8, 19, 8, 3, 391), (8, 23, 8, 2, 388), (9, 9, 9, 0, 233), (9, 15, 9, 1, 236), (9, 18, 9, 2, 240), (9, 21, 9, 3, 244), (9, 24, 9, 4, 247), (9, 27, 9, 5, 250), (10, 11, 10, 0, 493), (10, 15, 10, 1, 494), (10, 18, 6, 0, 411), (10, 24, 7, 15, 318), (10, 30, 7, 16, 322), (10, 52, 10, 2, 495), (11, 12, 11, 0, 504), (11, 19, 11, 1, 505), (11, 26, 11, 2, 506), (11, 33, 11, 3, 507), (11, 37, 6, 0, 410), (11, 41, 11, 4, 508), (11, 45, 11, 5, 509), (11, 51, 11, 6, 510), (11, 58, 11, 7, 511), (11, 65, 11, 8, 512), (11, 71, 11, 9, 513), (11, 75, 11, 11, 515), (11, 87, 8, 1, 386), (11, 105, 7, 14, 315), (11, 113, 2, 0, 361), (11, 123, 7, 1, 272), (11, 127, 4, 0, 374), (11, 132, 3, 4, 212), (11, 139, 7, 15, 320), (11, 142, 7, 16, 324), (11, 155, 7, 0, 270), (11, 159, 0, 2, 151), (11, 164, 0, 3, 155), (11, 173, 0, 6, 167), (11, 176, 0, 7, 171), (11, 226, 7, 2, 275), (11, 241, 9, 5, 252), (11, 269, 1, 1, 450), (11, 270, 1, 2, 452), (11, 273, 1, 3, 454), (11, 281, 9, 0, 234), (11, 287, 9, 2, 242), (11, 290, 9, 1, 238), (11, 309, 5, 0, 471), (11, 312, 5, 1, 473), (11, 315, 5, 2, 475), (11, 318, 5, 3, 477), (11, 326, 10, 2, 496), (11, 337, 11, 10, 514), (11, 341, 0, 8, 175), (11, 344, 0, 9, 178), (11, 347, 7, 6, 288), (11, 350, 7, 11, 307), (11, 353, 7, 12, 311), (11, 356, 7, 13, 314), (11, 359, 7, 7, 292), (11, 360, 7, 8, 296), (11, 363, 7, 9, 300), (11, 366, 7, 10, 304), (11, 385, 0, 5, 164), (11, 388, 0, 4, 160), (11, 391, 6, 3, 418), (11, 392, 6, 2, 416), (12, 7, 12, 1, 1392), (12, 13, 12, 2, 1393), (12, 16, 12, 4, 1395), (12, 19, 12, 5, 1396), (12, 22, 12, 10, 1401), (12, 26, 12, 12, 1403), (12, 29, 12, 21, 1412), (12, 32, 12, 0, 1391), (12, 43, 12, 6, 1397), (12, 46, 12, 7, 1398), (12, 49, 12, 9, 1400), (12, 52, 12, 8, 1399), (12, 133, 12, 11, 1402), (12, 169, 12, 13, 1404), (12, 173, 12, 14, 1405), (12, 201, 12, 15, 1406), (12, 204, 12, 16, 1407), (12, 206, 12, 17, 1408), (12, 209, 12, 18, 1409), (12, 212, 12, 19, 1410), (12, 215, 12, 20, 1411), (12, 308, 12, 3, 1394)]
def sd_ml : List (Nat × (Nat × (Nat × Nat))) := [(1, 19, 5, 1239), (1, 23, 6, 1261), (1, 39, 236, 1243), (1, 51, 46, 1246), (1, 55, 53, 1247), (1, 68, 68, 1249), (1, 71, 224, 1253), (1, 76, 69, 1256), (1, 79, 225, 1260), (1, 82, 9, 1265), (2, 18, 73, 686), (2, 22, 77, 687), (2, 27, 80, 695), (2, 31, 12, 699), (2, 35, 82, 824), (2, 39, 81, 828), (2, 52, 84, 704), (2, 56, 13, 760), (2, 62, 14, 790), (2, 67, 16, 796), (2, 72, 17, 801), (2, 77, 18, 807), (2, 87, 88, 782), (2, 99, 19, 819), (2, 111, 79, 764), (2, 119, 87, 768), (2, 123, 15, 778), (2, 128, 85, 784), (2, 179, 86, 811), (3, 31, 22, 969), (3, 35, 26, 1146), (3, 39, 27, 1150), (3, 43, 28, 1154), (3, 46, 29, 1158), (4, 18, 21, 933), (4, 21, 77, 937), (4, 26, 80, 938), (4, 32, 85, 940), (4, 36, 88, 941), (4, 42, 84, 943), (4, 46, 33, 944), (4, 50, 24, 986), (4, 54, 82, 958), (4, 58, 81, 990), (4, 67, 34, 949), (4, 72, 22, 954), (4, 77, 83, 959), (4, 83, 23, 965), (4, 88, 35, 971), (4, 92, 36, 975), (5, 15, 44, 1315), (5, 20, 40, 1316), (5, 24, 47, 1322), (5, 28, 41, 1323), (5, 31, 42, 1328), (5, 34, 221, 1336), (5, 40, 39, 1337), (5, 53, 51, 1320), (5, 73, 58, 1321), (5, 76, 62, 1327), (5, 79, 57, 1332), (6, 30, 45, 581), (6, 36, 72, 585), (6, 53, 47, 596), (6, 78, 1, 634), (6, 88, 48, 604), (6, 95, 52, 608), (6, 101, 50, 622), (6, 104, 53, 626), (6, 116, 56, 1099), (6, 120, 71, 1098), (6, 129, 49, 1111), (6, 132, 59, 1107), (6, 136, 51, 1089), (6, 139, 61, 1103), (6, 143, 58, 1094), (6, 146, 63, 1090), (6, 152, 46, 592), (6, 156, 65, 1138), (6, 172, 54, 600), (6, 178, 55, 618), (7, 64, 223, 589), (7, 70, 2, 643), (7, 74, 30, 650), (7, 77, 93, 655), (8, 26, 90, 691), (8, 30, 80, 832), (8, 34, 82, 963), (8, 38, 226, 708), (8, 43, 89, 718), (8, 47, 227, 722), (8, 51, 84, 773), (8, 57, 88, 774), (10, 33, 45, 1353), (10, 37, 65, 1354), (10, 41, 96, 1355), (10, 45, 98, 1365), (10, 48, 97, 1361), (10, 55, 224, 1359), (10, 60, 225, 1360), (11, 79, 75, 545), (11, 83, 76, 549), (11, 90, 11, 682), (11, 94, 78, 833), (11, 116, 73, 639), (11, 120, 32, 929), (11, 129, 30, 991), (11, 135, 132, 999), (11, 145, 129, 1013), (11, 148, 44, 1033), (11, 151, 48, 1037), (11, 167, 49, 1038), (11, 170, 50, 1042), (11, 179, 51, 630), (11, 187, 130, 1066), (11, 190, 46, 1071), (11, 193, 53, 1072), (11, 197, 52, 1073), (11, 200, 139, 1074), (11, 203, 138, 1077), (11, 206, 64, 1085), (11, 209, 62, 1119), (11, 212, 134, 1130), (11, 215, 45, 1168), (11, 218, 72, 1176), (11, 223, 133, 1185), (11, 230, 92, 1190), (11, 235, 54, 1201), (11, 238, 55, 1202), (11, 244, 131, 1210), (11, 247, 135, 569), (11, 250, 225, 1222), (11, 255, 137, 1225), (11, 260, 221, 1229), (11, 265, 4, 1235), (11, 283, 67, 577), (11, 292, 136, 1284), (11, 297, 7, 1288), (11, 302, 8, 1300), (11, 306, 38, 1311), (11, 323, 95, 1349), (11, 329, 99, 1369), (11, 334, 60, 1381), (11, 369, 71, 669), (11, 372, 1, 573), (11, 393, 66, 1134), (11, 396, 25, 1142), (11, 400, 222, 615), (12, 35, 142, 1470), (12, 39, 144, 1610), (12, 55, 152, 1489), (12, 59, 153, 1485), (12, 62, 226, 1506), (12, 68, 227, 1507), (12, 72, 156, 1502), (12, 76, 157, 1493), (12, 82, 159, 1508), (12, 86, 160, 1565), (12, 92, 158, 1571), (12, 104, 161, 1561), (12, 114, 162, 1579), (12, 119, 155, 1544), (12, 136, 173, 1497), (12, 139, 163, 1556), (12, 142, 154, 1526), (12, 145, 164, 1477), (12, 148, 165, 1481), (12, 164, 167, 1540), (12, 176, 168, 1536), (12, 181, 169, 1530), (12, 184, 170, 1521), (12, 187, 172, 1513), (12, 192, 171, 1517), (12, 218, 143, 1622), (12, 221, 178, 1630), (12, 224, 179, 1618), (12, 227, 180, 1626), (12, 230, 181, 1634), (12, 233, 145, 1606), (12, 236, 182, 1638), (12, 239, 185, 1688), (12, 243, 184, 1654), (12, 247, 183, 1676), (12, 250, 187, 1680), (12, 253, 186, 1684), (12, 257, 188, 1672), (12, 260, 177, 1650), (12, 263, 189, 1668), (12, 266, 176, 1614), (12, 269, 146, 1646), (12, 272, 193, 1658), (12, 275, 149, 1661), (12, 278, 190, 1704), (12, 281, 197, 1700), (12, 284, 201, 1720), (12, 288, 148, 1748), (12, 291, 205, 1752), (12, 295, 206, 1744), (12, 299, 147, 1736), (12, 302, 207, 1740), (12, 305, 215, 1784), (15, 335, 228, 712), (15, 492, 229, 726), (15, 495, 231, 730), (15, 498, 234, 741), (15, 1059, 237, 738), (16, 9, 230, 733), (17, 48, 233, 747), (17, 67, 235, 744), (17, 71, 232, 751), (17, 414, 230, 750), (20, 7, 103, 678), (20, 17, 104, 925), (20, 20, 106, 995), (20, 24, 107, 1009), (20, 31, 108, 1062), (20, 35, 109, 1081), (20, 39, 110, 1115), (20, 42, 111, 1126), (20, 46, 112, 1164), (20, 49, 113, 1172), (20, 52, 114, 1180), (20, 56, 115, 1197), (20, 59, 117, 1206), (20, 62, 119, 1218), (20, 66, 120, 1272), (20, 70, 121, 1280), (20, 73, 122, 1295), (20, 77, 123, 1307), (20, 81, 124, 1344), (20, 84, 125, 1376), (20, 87, 100, 118), (20, 90, 140, 1387), (20, 91, 101, 541), (20, 94, 150, 1462), (20, 95, 102, 553), (20, 99, 151, 1466), (20, 100, 238, 673), (20, 105, 166, 1473), (20, 106, 141, 1458), (20, 109, 239, 922), (20, 111, 174, 1590), (20, 112, 105, 557), (20, 115, 175, 1594), (20, 116, 240, 992), (20, 119, 191, 1598), (20, 120, 241, 1004), (20, 122, 192, 1602), (20, 123, 242, 1059), (20, 126, 194, 1642), (20, 127, 243, 1078), (20, 129, 195, 1664), (20, 130, 244, 1112), (20, 132, 196, 1692), (20, 133, 245, 1123), (20, 136, 198, 1696), (20, 137, 246, 1161), (20, 139, 199, 1708), (20, 140, 247, 1169), (20, 142, 200, 1712), (20, 143, 248, 1177), (20, 146, 202, 1716), (20, 147, 249, 1194), (20, 149, 203, 1724), (20, 150, 116, 561), (20, 153, 204, 1728), (20, 154, 250, 1203), (20, 156, 208, 1732), (20, 157, 118, 565), (20, 160, 209, 1756), (20, 161, 251, 1215), (20, 164, 210, 1760), (20, 165, 252, 1269), (20, 168, 211, 1764), (20, 169, 253, 1277), (20, 171, 212, 1768), (20, 172, 254, 1292), (20, 175, 213, 1772), (20, 176, 255, 1304), (20, 179, 214, 1776), (20, 180, 256, 1341), (20, 182, 216, 1780), (20, 183, 257, 1373), (20, 185, 217, 1788), (20, 186, 126, 635), (20, 189, 218, 1792), (20, 190, 127, 661), (20, 194, 219, 1796), (20, 195, 128, 665), (20, 198, 220, 1800)]
def sd_mn : List (Nat × (Nat × (Nat × (String × Nat)))) := [(1, 59, 138, "WallHarbour", 1248), (2, 11, 70, "WallHarbour", 132), (4, 11, 20, "WallHarbour", 372), (6, 11, 70, "WallHarbour", 408), (6, 98, 138, "WallHarbour", 612), (7, 11, 0, "WallHarbour", 138), (7, 20, 20, "WallHarbour", 203), (7, 27, 91, "WallHarbour", 229), (11, 11, 10, "WallHarbour", 126), (11, 18, 31, "WallHarbour", 367), (11, 25, 74, "WallHarbour", 380), (11, 32, 43, "WallHarbour", 403), (11, 44, 70, "WallHarbour", 441), (11, 50, 3, "WallHarbour", 444), (11, 57, 37, "WallHarbour", 466), (11, 64, 94, "WallHarbour", 489)]
def sd_kl : List (Nat × (Nat × (Nat × Nat))) := [(2, 9, 7, 130), (4, 9, 3, 371), (6, 9, 7, 407), (7, 9, 0, 136), (7, 18, 3, 201), (7, 25, 9, 227), (11, 9, 2, 124), (11, 16, 4, 365), (11, 23, 8, 378), (11, 30, 6, 401), (11, 42, 7, 440), (11, 48, 1, 442), (11, 55, 5, 464), (11, 62, 10, 487), (20, 8, 11, 116), (20, 88, 12, 1385)]
def sd_ol : List (Nat × (Nat × Nat)) := [(0, 3, 141), (1, 3, 447), (2, 3, 129), (3, 3, 206), (4, 3, 370), (5, 3, 469), (6, 3, 406), (7, 3, 135), (8, 3, 383), (9, 3, 232), (10, 3, 492), (11, 3, 121), (12, 1, 1390)]
def sd_al : List (Nat × (Nat × Nat)) := [(0, 43, 647), (3, 50, 654), (7, 80, 660), (9, 31, 659)]
def sd_sl : List (Nat × (Nat × Nat)) := [(2, 50, 15), (2, 60, 16), (2, 65, 17), (2, 70, 18), (2, 75, 19), (2, 80, 20), (2, 85, 21), (2, 93, 22), (2, 97, 23), (2, 126, 24), (2, 134, 25), (2, 141, 26), (2, 175, 27), (2, 182, 28), (4, 30, 29), (4, 40, 30), (4, 65, 31), (4, 70, 32), (4, 75, 33), (4, 81, 34), (4, 86, 35), (4, 95, 36), (4, 97, 37), (4, 99, 38), (4, 101, 39), (4, 103, 40), (4, 105, 41), (8, 55, 42), (12, 80, 43), (12, 90, 44), (12, 96, 45), (12, 98, 46), (12, 100, 47), (12, 102, 48), (12, 108, 49), (12, 110, 50), (12, 112, 51), (12, 117, 52), (12, 123, 53), (12, 125, 54), (12, 127, 55), (12, 129, 56), (12, 131, 57), (12, 152, 58), (12, 154, 59), (12, 156, 60), (12, 158, 61), (12, 160, 62), (12, 162, 63), (12, 167, 64), (12, 179, 65), (12, 190, 66), (12, 195, 67), (12, 197, 68), (12, 199, 69)]
def sd_cs : List (Nat × (Nat × (Int × Nat))) := [(13, 265, 1431655765, 1232), (13, 266, 858993459, 1233), (13, 267, 252645135, 1234)]
def sd_jf : List (Nat × (Nat × (Nat × Nat))) := [(15, 9, 50, 1825), (15, 15, 51, 1826), (15, 38, 52, 716), (15, 1053, 53, 736)]
def sd_tl : List (Nat × (Nat × (Nat × (Nat × (Nat × (Nat × Nat)))))) := [(11, 98, 100, 102, 0, 0, 837), (11, 98, 221, 102, 0, 3, 837), (11, 98, 258, 102, 0, 4, 837), (11, 98, 295, 102, 0, 6, 837), (11, 98, 300, 102, 0, 7, 837), (11, 98, 332, 102, 0, 9, 837), (11, 98, 381, 102, 0, 13, 837), (11, 108, 110, 112, 1, 1, 906), (11, 108, 383, 112, 1, 14, 906), (11, 182, 184, 186, 3, 2, 1043), (11, 182, 321, 186, 3, 8, 1043), (11, 276, 278, 280, 2, 5, 1017), (11, 276, 375, 280, 2, 10, 1017), (11, 276, 377, 280, 2, 11, 1017), (11, 276, 379, 280, 2, 12, 1017)]
def sd_tx : List String := ["the text is wrong", "there are 10 texts", "no such what", "no such place on the wall", "no such tracings, height or number of exceptions", "no such thing", "no pair of tracings, or no such place", "no such place", "no such minute of a way", "both are one", "no such body", "no such hole", "no such tracing", "no such day or minute", "there are 40 tracings", "thing", "ship", "hole", "wall", "cloud", "clear", "fog", "moon", "tide", "from", "to", "pace", "top", "low", "charge", "if", "or", "and", "not", "seen", "ship", "far", "wide", "tall", "hour", "day", "body", "west", "west", "pace", "from", "to", "top", "thing", "ship", "hole", "wall", "cloud", "clear", "fog", "moon", "tide", "low", "far", "wide", "tall", "hour", "day", "body", "seen", "not", "and", "or", "charge", "if"]
def sd_EX : List String := ["java/lang/IllegalArgumentException", "java/lang/UnsupportedOperationException", "java/lang/IndexOutOfBoundsException", "java/util/NoSuchElementException"]
def sd_ty : List (Nat → FieldType) := [tyX0, tyX1, tyX2, tyX3, tyX4, tyX5, tyX6, tyX7, tyX8, tyX9, tyX10, tyX11, tyX12]
def sd_oi : Nat × (Nat × (Nat × (Nat × (Nat × (Nat × Nat))))) := (122, 123, 649, 648, 101, 200, 1804)
def sd_ki : List (Nat × Nat) := [(137, 91), (443, 97), (125, 89), (202, 92), (366, 94), (465, 98), (402, 96), (131, 90), (379, 95), (228, 93), (488, 99), (117, 88), (1386, 100)]
def sd_gw : Cond → Bool
  | .castable _ _ => true
  | .declares _ => true
  | .methodLinkNest _ _ _ _ => true
  | w => goodWord w
theorem sd_gw_at {w : Cond} {A A' : Array Value} {s U : State} (hg : sd_gw w = true) (hW : s.WarmedH U.vm) (h : w.before A s = true) : w.before A' U = true := by
  have key : ∀ w : Cond, goodWord w = true → w.before A s = true → w.before A' U = true := fun w hg h => word_at hW (good_of_word hg) h
  cases w with
  | castable a b => exact va_Nw.use rfl (va_Nw.warmC hW (va_Nw.of rfl h))
  | declares a => exact va_Nw.use rfl (va_Nw.warmD hW (va_Nw.of rfl h))
  | methodLinkNest a b c d => exact va_Nw.use rfl (va_Nw.warmM hW (va_Nw.of rfl h))
  | _ => exact key _ hg h
/-- word j of the tables is w, and goes along with a warmer state -/
def sd_is (j : Nat) (w : Cond) : Bool := decide (lw_tbl[j]? = some w) && sd_gw w
theorem sd_is_mem {j : Nat} {w : Cond} (h : sd_is j w = true) : w ∈ lw_tbl ∧ sd_gw w = true := by
  simp only [sd_is, Bool.and_eq_true, decide_eq_true_eq] at h
  exact ⟨List.mem_of_getElem? h.1, h.2⟩
def sd_o (c : Nat) : String := sd_on.getD c ""
noncomputable def sd_m (mi : Nat) : Nat × (MethodName × (ByteArray × (Option FieldType × List (Nat × (Nat × (Nat × Nat)))))) := sd_M.getD mi (0, ⟨"", "", ""⟩, ⟨#[]⟩, none, [])
noncomputable def sd_oc (mi : Nat) : Nat := (sd_m mi).1
noncomputable def sd_y (mi : Nat) : MethodName := (sd_m mi).2.1
noncomputable def sd_by (mi : Nat) : ByteArray := (sd_m mi).2.2.1
noncomputable def sd_rt (mi : Nat) : Option FieldType := (sd_m mi).2.2.2.1
noncomputable def sd_hh (mi : Nat) : List (Nat × (Nat × (Nat × Nat))) := (sd_m mi).2.2.2.2
def sd_k (ci : Nat) : vw_C := vwCl.getD ci ("", fun _ => ("", "", "", false), 0)
/-- the words of the links -/
def sd_wF (q : Nat × (Nat × (Nat × (Nat × Nat)))) : Cond := .fieldLink (sd_o q.1) q.2.1 ((sd_k q.2.2.1).2.1 q.2.2.2.1).1 ((sd_k q.2.2.1).2.1 q.2.2.2.1).2.1 ((sd_k q.2.2.1).2.1 q.2.2.2.1).2.2.1
theorem sd_fl_ok : ∀ q ∈ sd_fl, sd_is q.2.2.2.2 (sd_wF q) = true ∧ q.2.2.1 < 13 ∧ q.2.2.2.1 < (sd_k q.2.2.1).2.2 := by decide +kernel
noncomputable def sd_wM (q : Nat × (Nat × (Nat × Nat))) : Cond := .methodLink (sd_o q.1) q.2.1 (sd_y q.2.2.1)
theorem sd_ml_ok : ∀ q ∈ sd_ml, sd_is q.2.2.2 (sd_wM q) = true := by decide +kernel
noncomputable def sd_wN (q : Nat × (Nat × (Nat × (String × Nat)))) : Cond := .methodLinkNest (sd_o q.1) q.2.1 (sd_y q.2.2.1) q.2.2.2.1
theorem sd_mn_ok : ∀ q ∈ sd_mn, sd_is q.2.2.2.2 (sd_wN q) = true := by decide +kernel
theorem sd_kl_ok : ∀ q ∈ sd_kl, sd_is q.2.2.2 (.classLink (sd_o q.1) q.2.1 (sd_k q.2.2.1).1) = true ∧ q.2.2.1 < 13 := by decide +kernel
theorem sd_ol_ok : ∀ q ∈ sd_ol, sd_is q.2.2 (.methodLink (sd_o q.1) q.2.1 Lib.objectInit) = true := by decide +kernel
theorem sd_al_ok : ∀ q ∈ sd_al, sd_is q.2.2 (.methodLink (sd_o q.1) q.2.1 arraycopyName) = true := by decide +kernel
theorem sd_cs_ok : ∀ q ∈ sd_cs, sd_is q.2.2.2 (.constant (sd_o q.1) q.2.1 (Int32.ofInt q.2.2.1)) = true := by decide +kernel
def sd_wJ (q : Nat × (Nat × (Nat × Nat))) : Cond := match q.2.2.1 with
  | 50 => .fieldLink (sd_o q.1) q.2.1 "java/lang/String" "value" "[B"
  | 51 => .fieldLink (sd_o q.1) q.2.1 "java/lang/String" "coder" "B"
  | 52 => .fieldLink (sd_o q.1) q.2.1 "java/lang/String" "COMPACT_STRINGS" "Z"
  | _ => .fieldLink (sd_o q.1) q.2.1 "jdk/internal/util/Preconditions" "SIOOBE_FORMATTER" "Ljava/util/function/BiFunction;"
theorem sd_jf_ok : ∀ q ∈ sd_jf, sd_is q.2.2.2 (sd_wJ q) = true := by decide +kernel
theorem sd_oi_ok : sd_is sd_oi.1 (.instanceMethod Lib.objectInit) = true ∧ sd_is sd_oi.2.1 (.code Lib.objectInit ⟨#[0xb1]⟩ 1 none) = true ∧ sd_is sd_oi.2.2.1 (.native arraycopyName) = true ∧ sd_is sd_oi.2.2.2.1 (.static arraycopyName) = true ∧ sd_is sd_oi.2.2.2.2.1 (.initialized "java/lang/System") = true ∧ sd_is sd_oi.2.2.2.2.2.1 (.arrayClass .int) = true ∧ sd_is sd_oi.2.2.2.2.2.2 (.arrayClass .long) = true := by decide +kernel
theorem sd_ki_ok : ∀ ci, ci < 13 → sd_is (sd_ki.getD ci (0, 0)).1 (.instantiable (sd_k ci).1 (sd_k ci).2.2) = true ∧ sd_is (sd_ki.getD ci (0, 0)).2 (.initialized (sd_k ci).1) = true := by decide +kernel
theorem sd_lay_ok : ∀ ci, ci < 13 → ((u_ws (sd_k ci).1 (sd_k ci).2.1 (sd_k ci).2.2).all fun w => decide (w ∈ lw_tbl) && sd_gw w) = true := by decide +kernel
theorem sd_cl_get : ∀ ci, ci < 13 → vwCl[ci]? = some (sd_k ci) := by
  intro ci h
  rcases (show ci = 0 ∨ ci = 1 ∨ ci = 2 ∨ ci = 3 ∨ ci = 4 ∨ ci = 5 ∨ ci = 6 ∨ ci = 7 ∨ ci = 8 ∨ ci = 9 ∨ ci = 10 ∨ ci = 11 ∨ ci = 12 by omega) with rfl | rfl | rfl | rfl | rfl | rfl | rfl | rfl | rfl | rfl | rfl | rfl | rfl <;> rfl
def sd_t (ci : Nat) : Nat → FieldType := sd_ty.getD ci (fun _ => .int)
theorem sd_ty_ok : ∀ ci, ci < 13 → ∀ k, k < (sd_k ci).2.2 → parseFieldDescriptor ((sd_k ci).2.1 k).2.2.1 = some (sd_t ci k) := by decide +kernel
theorem sd_nm_ok : ∀ ci, ci < 13 → ∀ a, a < (sd_k ci).2.2 → ∀ b, b < (sd_k ci).2.2 → a ≠ b → ((sd_k ci).2.1 a).2.1 ≠ ((sd_k ci).2.1 b).2.1 := by decide +kernel
theorem sd_df_ok : ∀ ci, ci < 13 → pm_df.getD ci [] = (List.range (sd_k ci).2.2).map fun k => defaultValue (sd_t ci k) := by decide +kernel
/-- a method's own words -/
noncomputable def sd_wC (mi : Nat) : Cond := if (sd_hh mi).isEmpty then .code (sd_y mi) (sd_by mi) (pm_ml mi) (sd_rt mi) else .codeWith (sd_y mi) (sd_by mi) (pm_ml mi) (sd_rt mi) (sd_hh mi)
def sd_mx (mi : Nat) : Nat × (Nat × (Nat × Nat)) := sd_MX.getD mi (0, 0, 0, 0)
theorem sd_me_ok : ∀ mi, mi < 258 → (sd_is (sd_mx mi).2.2.2 (.initialized (sd_y mi).cls) && plainFor (sd_y mi) && decide ((sd_y mi).cls ≠ "java/lang/invoke/MethodHandle") && decide ((sd_y mi).cls ≠ "java/lang/invoke/VarHandle")) = true := by decide +kernel
theorem sd_wC_gw (mi : Nat) : sd_gw (sd_wC mi) = true := by
  unfold sd_wC
  split <;> rfl

theorem sd_in1 {w : Cond} (h : w ∈ tables_1_1) : w ∈ lw_tbl := List.mem_append_right _ (List.mem_append_left _ (h))
theorem sd_in2 {w : Cond} (h : w ∈ tables_1_2) : w ∈ lw_tbl := List.mem_append_right _ (List.mem_append_right _ (List.mem_append_left _ (h)))
theorem sd_in3 {w : Cond} (h : w ∈ tables_1_3) : w ∈ lw_tbl := List.mem_append_right _ (List.mem_append_right _ (List.mem_append_right _ (List.mem_append_left _ (h))))
theorem sd_in4 {w : Cond} (h : w ∈ tables_1_4) : w ∈ lw_tbl := List.mem_append_right _ (List.mem_append_right _ (List.mem_append_right _ (List.mem_append_right _ (List.mem_append_left _ (h)))))
theorem sd_in5 {w : Cond} (h : w ∈ tables_1_5) : w ∈ lw_tbl := List.mem_append_right _ (List.mem_append_right _ (List.mem_append_right _ (List.mem_append_right _ (List.mem_append_right _ (List.mem_append_left _ (h))))))
theorem sd_in6 {w : Cond} (h : w ∈ tables_1_6) : w ∈ lw_tbl := List.mem_append_right _ (List.mem_append_right _ (List.mem_append_right _ (List.mem_append_right _ (List.mem_append_right _ (List.mem_append_right _ (List.mem_append_left _ (h)))))))
theorem sd_in7 {w : Cond} (h : w ∈ tables_1_7) : w ∈ lw_tbl := List.mem_append_right _ (List.mem_append_right _ (List.mem_append_right _ (List.mem_append_right _ (List.mem_append_right _ (List.mem_append_right _ (List.mem_append_right _ (List.mem_append_left _ (h))))))))
theorem sd_in8 {w : Cond} (h : w ∈ tables_1_8) : w ∈ lw_tbl := List.mem_append_right _ (List.mem_append_right _ (List.mem_append_right _ (List.mem_append_right _ (List.mem_append_right _ (List.mem_append_right _ (List.mem_append_right _ (List.mem_append_right _ (h))))))))
set_option maxRecDepth 20000 in
theorem sd_mc0 : sd_wC 0 ∈ lw_tbl := sd_in1 (List.mem_of_getElem? (i := 53) rfl)
set_option maxRecDepth 20000 in
theorem sd_mc1 : sd_wC 1 ∈ lw_tbl := sd_in3 (List.mem_of_getElem? (i := 9) rfl)
set_option maxRecDepth 20000 in
theorem sd_mc2 : sd_wC 2 ∈ lw_tbl := sd_in3 (List.mem_of_getElem? (i := 79) rfl)
set_option maxRecDepth 20000 in
theorem sd_mc3 : sd_wC 3 ∈ lw_tbl := sd_in2 (List.mem_of_getElem? (i := 119) rfl)
set_option maxRecDepth 20000 in
theorem sd_mc4 : sd_wC 4 ∈ lw_tbl := sd_in5 (List.mem_of_getElem? (i := 191) rfl)
set_option maxRecDepth 20000 in
theorem sd_mc5 : sd_wC 5 ∈ lw_tbl := sd_in5 (List.mem_of_getElem? (i := 195) rfl)
set_option maxRecDepth 20000 in
theorem sd_mc6 : sd_wC 6 ∈ lw_tbl := sd_in5 (List.mem_of_getElem? (i := 217) rfl)
set_option maxRecDepth 20000 in
theorem sd_mc7 : sd_wC 7 ∈ lw_tbl := sd_in6 (List.mem_of_getElem? (i := 4) rfl)
set_option maxRecDepth 20000 in
theorem sd_mc8 : sd_wC 8 ∈ lw_tbl := sd_in6 (List.mem_of_getElem? (i := 16) rfl)
set_option maxRecDepth 20000 in
theorem sd_mc9 : sd_wC 9 ∈ lw_tbl := sd_in5 (List.mem_of_getElem? (i := 221) rfl)
set_option maxRecDepth 20000 in
theorem sd_mc10 : sd_wC 10 ∈ lw_tbl := sd_in1 (List.mem_of_getElem? (i := 41) rfl)
set_option maxRecDepth 20000 in
theorem sd_mc11 : sd_wC 11 ∈ lw_tbl := sd_in3 (List.mem_of_getElem? (i := 118) rfl)
set_option maxRecDepth 20000 in
theorem sd_mc12 : sd_wC 12 ∈ lw_tbl := sd_in3 (List.mem_of_getElem? (i := 135) rfl)
set_option maxRecDepth 20000 in
theorem sd_mc13 : sd_wC 13 ∈ lw_tbl := sd_in3 (List.mem_of_getElem? (i := 196) rfl)
set_option maxRecDepth 20000 in
theorem sd_mc14 : sd_wC 14 ∈ lw_tbl := sd_in3 (List.mem_of_getElem? (i := 226) rfl)
set_option maxRecDepth 20000 in
theorem sd_mc15 : sd_wC 15 ∈ lw_tbl := sd_in3 (List.mem_of_getElem? (i := 214) rfl)
set_option maxRecDepth 20000 in
theorem sd_mc16 : sd_wC 16 ∈ lw_tbl := sd_in3 (List.mem_of_getElem? (i := 232) rfl)
set_option maxRecDepth 20000 in
theorem sd_mc17 : sd_wC 17 ∈ lw_tbl := sd_in3 (List.mem_of_getElem? (i := 237) rfl)
set_option maxRecDepth 20000 in
theorem sd_mc18 : sd_wC 18 ∈ lw_tbl := sd_in4 (List.mem_of_getElem? (i := 3) rfl)
set_option maxRecDepth 20000 in
theorem sd_mc19 : sd_wC 19 ∈ lw_tbl := sd_in4 (List.mem_of_getElem? (i := 15) rfl)
set_option maxRecDepth 20000 in
theorem sd_mc20 : sd_wC 20 ∈ lw_tbl := sd_in1 (List.mem_of_getElem? (i := 118) rfl)
set_option maxRecDepth 20000 in
theorem sd_mc21 : sd_wC 21 ∈ lw_tbl := sd_in4 (List.mem_of_getElem? (i := 129) rfl)
set_option maxRecDepth 20000 in
theorem sd_mc22 : sd_wC 22 ∈ lw_tbl := sd_in4 (List.mem_of_getElem? (i := 150) rfl)
set_option maxRecDepth 20000 in
theorem sd_mc23 : sd_wC 23 ∈ lw_tbl := sd_in4 (List.mem_of_getElem? (i := 161) rfl)
set_option maxRecDepth 20000 in
theorem sd_mc24 : sd_wC 24 ∈ lw_tbl := sd_in4 (List.mem_of_getElem? (i := 182) rfl)
set_option maxRecDepth 20000 in
theorem sd_mc25 : sd_wC 25 ∈ lw_tbl := sd_in5 (List.mem_of_getElem? (i := 98) rfl)
set_option maxRecDepth 20000 in
theorem sd_mc26 : sd_wC 26 ∈ lw_tbl := sd_in5 (List.mem_of_getElem? (i := 102) rfl)
set_option maxRecDepth 20000 in
theorem sd_mc27 : sd_wC 27 ∈ lw_tbl := sd_in5 (List.mem_of_getElem? (i := 106) rfl)
set_option maxRecDepth 20000 in
theorem sd_mc28 : sd_wC 28 ∈ lw_tbl := sd_in5 (List.mem_of_getElem? (i := 110) rfl)
set_option maxRecDepth 20000 in
theorem sd_mc29 : sd_wC 29 ∈ lw_tbl := sd_in5 (List.mem_of_getElem? (i := 113) rfl)
set_option maxRecDepth 20000 in
theorem sd_mc30 : sd_wC 30 ∈ lw_tbl := sd_in3 (List.mem_of_getElem? (i := 86) rfl)
set_option maxRecDepth 20000 in
theorem sd_mc31 : sd_wC 31 ∈ lw_tbl := sd_in2 (List.mem_of_getElem? (i := 42) rfl)
set_option maxRecDepth 20000 in
theorem sd_mc32 : sd_wC 32 ∈ lw_tbl := sd_in4 (List.mem_of_getElem? (i := 125) rfl)
set_option maxRecDepth 20000 in
theorem sd_mc33 : sd_wC 33 ∈ lw_tbl := sd_in4 (List.mem_of_getElem? (i := 140) rfl)
set_option maxRecDepth 20000 in
theorem sd_mc34 : sd_wC 34 ∈ lw_tbl := sd_in4 (List.mem_of_getElem? (i := 145) rfl)
set_option maxRecDepth 20000 in
theorem sd_mc35 : sd_wC 35 ∈ lw_tbl := sd_in4 (List.mem_of_getElem? (i := 167) rfl)
set_option maxRecDepth 20000 in
theorem sd_mc36 : sd_wC 36 ∈ lw_tbl := sd_in4 (List.mem_of_getElem? (i := 171) rfl)
set_option maxRecDepth 20000 in
theorem sd_mc37 : sd_wC 37 ∈ lw_tbl := sd_in2 (List.mem_of_getElem? (i := 141) rfl)
set_option maxRecDepth 20000 in
theorem sd_mc38 : sd_wC 38 ∈ lw_tbl := sd_in6 (List.mem_of_getElem? (i := 27) rfl)
set_option maxRecDepth 20000 in
theorem sd_mc39 : sd_wC 39 ∈ lw_tbl := sd_in6 (List.mem_of_getElem? (i := 53) rfl)
set_option maxRecDepth 20000 in
theorem sd_mc40 : sd_wC 40 ∈ lw_tbl := sd_in6 (List.mem_of_getElem? (i := 32) rfl)
set_option maxRecDepth 20000 in
theorem sd_mc41 : sd_wC 41 ∈ lw_tbl := sd_in6 (List.mem_of_getElem? (i := 39) rfl)
set_option maxRecDepth 20000 in
theorem sd_mc42 : sd_wC 42 ∈ lw_tbl := sd_in6 (List.mem_of_getElem? (i := 44) rfl)
set_option maxRecDepth 20000 in
theorem sd_mc43 : sd_wC 43 ∈ lw_tbl := sd_in2 (List.mem_of_getElem? (i := 78) rfl)
set_option maxRecDepth 20000 in
theorem sd_mc44 : sd_wC 44 ∈ lw_tbl := sd_in4 (List.mem_of_getElem? (i := 229) rfl)
set_option maxRecDepth 20000 in
theorem sd_mc45 : sd_wC 45 ∈ lw_tbl := sd_in3 (List.mem_of_getElem? (i := 17) rfl)
set_option maxRecDepth 20000 in
theorem sd_mc46 : sd_wC 46 ∈ lw_tbl := sd_in3 (List.mem_of_getElem? (i := 28) rfl)
set_option maxRecDepth 20000 in
theorem sd_mc47 : sd_wC 47 ∈ lw_tbl := sd_in3 (List.mem_of_getElem? (i := 32) rfl)
set_option maxRecDepth 20000 in
theorem sd_mc48 : sd_wC 48 ∈ lw_tbl := sd_in3 (List.mem_of_getElem? (i := 40) rfl)
set_option maxRecDepth 20000 in
theorem sd_mc49 : sd_wC 49 ∈ lw_tbl := sd_in4 (List.mem_of_getElem? (i := 234) rfl)
set_option maxRecDepth 20000 in
theorem sd_mc50 : sd_wC 50 ∈ lw_tbl := sd_in3 (List.mem_of_getElem? (i := 58) rfl)
set_option maxRecDepth 20000 in
theorem sd_mc51 : sd_wC 51 ∈ lw_tbl := sd_in3 (List.mem_of_getElem? (i := 66) rfl)
set_option maxRecDepth 20000 in
theorem sd_mc52 : sd_wC 52 ∈ lw_tbl := sd_in3 (List.mem_of_getElem? (i := 44) rfl)
set_option maxRecDepth 20000 in
theorem sd_mc53 : sd_wC 53 ∈ lw_tbl := sd_in3 (List.mem_of_getElem? (i := 62) rfl)
set_option maxRecDepth 20000 in
theorem sd_mc54 : sd_wC 54 ∈ lw_tbl := sd_in3 (List.mem_of_getElem? (i := 36) rfl)
set_option maxRecDepth 20000 in
theorem sd_mc55 : sd_wC 55 ∈ lw_tbl := sd_in3 (List.mem_of_getElem? (i := 54) rfl)
set_option maxRecDepth 20000 in
theorem sd_mc56 : sd_wC 56 ∈ lw_tbl := sd_in5 (List.mem_of_getElem? (i := 55) rfl)
set_option maxRecDepth 20000 in
theorem sd_mc57 : sd_wC 57 ∈ lw_tbl := sd_in6 (List.mem_of_getElem? (i := 48) rfl)
set_option maxRecDepth 20000 in
theorem sd_mc58 : sd_wC 58 ∈ lw_tbl := sd_in5 (List.mem_of_getElem? (i := 50) rfl)
set_option maxRecDepth 20000 in
theorem sd_mc59 : sd_wC 59 ∈ lw_tbl := sd_in5 (List.mem_of_getElem? (i := 63) rfl)
set_option maxRecDepth 20000 in
theorem sd_mc60 : sd_wC 60 ∈ lw_tbl := sd_in6 (List.mem_of_getElem? (i := 97) rfl)
set_option maxRecDepth 20000 in
theorem sd_mc61 : sd_wC 61 ∈ lw_tbl := sd_in5 (List.mem_of_getElem? (i := 59) rfl)
set_option maxRecDepth 20000 in
theorem sd_mc62 : sd_wC 62 ∈ lw_tbl := sd_in5 (List.mem_of_getElem? (i := 75) rfl)
set_option maxRecDepth 20000 in
theorem sd_mc63 : sd_wC 63 ∈ lw_tbl := sd_in5 (List.mem_of_getElem? (i := 46) rfl)
set_option maxRecDepth 20000 in
theorem sd_mc64 : sd_wC 64 ∈ lw_tbl := sd_in5 (List.mem_of_getElem? (i := 41) rfl)
set_option maxRecDepth 20000 in
theorem sd_mc65 : sd_wC 65 ∈ lw_tbl := sd_in5 (List.mem_of_getElem? (i := 94) rfl)
set_option maxRecDepth 20000 in
theorem sd_mc66 : sd_wC 66 ∈ lw_tbl := sd_in5 (List.mem_of_getElem? (i := 90) rfl)
set_option maxRecDepth 20000 in
theorem sd_mc67 : sd_wC 67 ∈ lw_tbl := sd_in3 (List.mem_of_getElem? (i := 13) rfl)
set_option maxRecDepth 20000 in
theorem sd_mc68 : sd_wC 68 ∈ lw_tbl := sd_in5 (List.mem_of_getElem? (i := 205) rfl)
set_option maxRecDepth 20000 in
theorem sd_mc69 : sd_wC 69 ∈ lw_tbl := sd_in5 (List.mem_of_getElem? (i := 212) rfl)
set_option maxRecDepth 20000 in
theorem sd_mc70 : sd_wC 70 ∈ lw_tbl := sd_in1 (List.mem_of_getElem? (i := 47) rfl)
set_option maxRecDepth 20000 in
theorem sd_mc71 : sd_wC 71 ∈ lw_tbl := sd_in3 (List.mem_of_getElem? (i := 105) rfl)
set_option maxRecDepth 20000 in
theorem sd_mc72 : sd_wC 72 ∈ lw_tbl := sd_in3 (List.mem_of_getElem? (i := 21) rfl)
set_option maxRecDepth 20000 in
theorem sd_mc73 : sd_wC 73 ∈ lw_tbl := sd_in3 (List.mem_of_getElem? (i := 75) rfl)
set_option maxRecDepth 20000 in
theorem sd_mc74 : sd_wC 74 ∈ lw_tbl := sd_in2 (List.mem_of_getElem? (i := 55) rfl)
set_option maxRecDepth 20000 in
theorem sd_mc75 : sd_wC 75 ∈ lw_tbl := sd_in2 (List.mem_of_getElem? (i := 221) rfl)
set_option maxRecDepth 20000 in
theorem sd_mc76 : sd_wC 76 ∈ lw_tbl := sd_in2 (List.mem_of_getElem? (i := 225) rfl)
set_option maxRecDepth 20000 in
theorem sd_mc77 : sd_wC 77 ∈ lw_tbl := sd_in3 (List.mem_of_getElem? (i := 123) rfl)
set_option maxRecDepth 20000 in
theorem sd_mc78 : sd_wC 78 ∈ lw_tbl := sd_in4 (List.mem_of_getElem? (i := 29) rfl)
set_option maxRecDepth 20000 in
theorem sd_mc79 : sd_wC 79 ∈ lw_tbl := sd_in3 (List.mem_of_getElem? (i := 200) rfl)
set_option maxRecDepth 20000 in
theorem sd_mc80 : sd_wC 80 ∈ lw_tbl := sd_in3 (List.mem_of_getElem? (i := 131) rfl)
set_option maxRecDepth 20000 in
theorem sd_mc81 : sd_wC 81 ∈ lw_tbl := sd_in4 (List.mem_of_getElem? (i := 24) rfl)
set_option maxRecDepth 20000 in
theorem sd_mc82 : sd_wC 82 ∈ lw_tbl := sd_in4 (List.mem_of_getElem? (i := 20) rfl)
set_option maxRecDepth 20000 in
theorem sd_mc83 : sd_wC 83 ∈ lw_tbl := sd_in4 (List.mem_of_getElem? (i := 155) rfl)
set_option maxRecDepth 20000 in
theorem sd_mc84 : sd_wC 84 ∈ lw_tbl := sd_in3 (List.mem_of_getElem? (i := 140) rfl)
set_option maxRecDepth 20000 in
theorem sd_mc85 : sd_wC 85 ∈ lw_tbl := sd_in3 (List.mem_of_getElem? (i := 220) rfl)
set_option maxRecDepth 20000 in
theorem sd_mc86 : sd_wC 86 ∈ lw_tbl := sd_in4 (List.mem_of_getElem? (i := 7) rfl)
set_option maxRecDepth 20000 in
theorem sd_mc87 : sd_wC 87 ∈ lw_tbl := sd_in3 (List.mem_of_getElem? (i := 204) rfl)
set_option maxRecDepth 20000 in
theorem sd_mc88 : sd_wC 88 ∈ lw_tbl := sd_in3 (List.mem_of_getElem? (i := 210) rfl)
set_option maxRecDepth 20000 in
theorem sd_mc89 : sd_wC 89 ∈ lw_tbl := sd_in3 (List.mem_of_getElem? (i := 154) rfl)
set_option maxRecDepth 20000 in
theorem sd_mc90 : sd_wC 90 ∈ lw_tbl := sd_in3 (List.mem_of_getElem? (i := 127) rfl)
set_option maxRecDepth 20000 in
theorem sd_mc91 : sd_wC 91 ∈ lw_tbl := sd_in1 (List.mem_of_getElem? (i := 144) rfl)
set_option maxRecDepth 20000 in
theorem sd_mc92 : sd_wC 92 ∈ lw_tbl := sd_in5 (List.mem_of_getElem? (i := 146) rfl)
set_option maxRecDepth 20000 in
theorem sd_mc93 : sd_wC 93 ∈ lw_tbl := sd_in3 (List.mem_of_getElem? (i := 91) rfl)
set_option maxRecDepth 20000 in
theorem sd_mc94 : sd_wC 94 ∈ lw_tbl := sd_in2 (List.mem_of_getElem? (i := 164) rfl)
set_option maxRecDepth 20000 in
theorem sd_mc95 : sd_wC 95 ∈ lw_tbl := sd_in6 (List.mem_of_getElem? (i := 65) rfl)
set_option maxRecDepth 20000 in
theorem sd_mc96 : sd_wC 96 ∈ lw_tbl := sd_in6 (List.mem_of_getElem? (i := 71) rfl)
set_option maxRecDepth 20000 in
theorem sd_mc97 : sd_wC 97 ∈ lw_tbl := sd_in6 (List.mem_of_getElem? (i := 77) rfl)
set_option maxRecDepth 20000 in
theorem sd_mc98 : sd_wC 98 ∈ lw_tbl := sd_in6 (List.mem_of_getElem? (i := 81) rfl)
set_option maxRecDepth 20000 in
theorem sd_mc99 : sd_wC 99 ∈ lw_tbl := sd_in6 (List.mem_of_getElem? (i := 85) rfl)
set_option maxRecDepth 20000 in
theorem sd_mc100 : sd_wC 100 ∈ lw_tbl := sd_in1 (List.mem_of_getElem? (i := 33) rfl)
set_option maxRecDepth 20000 in
theorem sd_mc101 : sd_wC 101 ∈ lw_tbl := sd_in2 (List.mem_of_getElem? (i := 217) rfl)
set_option maxRecDepth 20000 in
theorem sd_mc102 : sd_wC 102 ∈ lw_tbl := sd_in2 (List.mem_of_getElem? (i := 229) rfl)
set_option maxRecDepth 20000 in
theorem sd_mc103 : sd_wC 103 ∈ lw_tbl := sd_in3 (List.mem_of_getElem? (i := 114) rfl)
set_option maxRecDepth 20000 in
theorem sd_mc104 : sd_wC 104 ∈ lw_tbl := sd_in4 (List.mem_of_getElem? (i := 121) rfl)
set_option maxRecDepth 20000 in
theorem sd_mc105 : sd_wC 105 ∈ lw_tbl := sd_in2 (List.mem_of_getElem? (i := 233) rfl)
set_option maxRecDepth 20000 in
theorem sd_mc106 : sd_wC 106 ∈ lw_tbl := sd_in4 (List.mem_of_getElem? (i := 191) rfl)
set_option maxRecDepth 20000 in
theorem sd_mc107 : sd_wC 107 ∈ lw_tbl := sd_in4 (List.mem_of_getElem? (i := 205) rfl)
set_option maxRecDepth 20000 in
theorem sd_mc108 : sd_wC 108 ∈ lw_tbl := sd_in5 (List.mem_of_getElem? (i := 18) rfl)
set_option maxRecDepth 20000 in
theorem sd_mc109 : sd_wC 109 ∈ lw_tbl := sd_in5 (List.mem_of_getElem? (i := 37) rfl)
set_option maxRecDepth 20000 in
theorem sd_mc110 : sd_wC 110 ∈ lw_tbl := sd_in5 (List.mem_of_getElem? (i := 71) rfl)
set_option maxRecDepth 20000 in
theorem sd_mc111 : sd_wC 111 ∈ lw_tbl := sd_in5 (List.mem_of_getElem? (i := 82) rfl)
set_option maxRecDepth 20000 in
theorem sd_mc112 : sd_wC 112 ∈ lw_tbl := sd_in5 (List.mem_of_getElem? (i := 120) rfl)
set_option maxRecDepth 20000 in
theorem sd_mc113 : sd_wC 113 ∈ lw_tbl := sd_in5 (List.mem_of_getElem? (i := 128) rfl)
set_option maxRecDepth 20000 in
theorem sd_mc114 : sd_wC 114 ∈ lw_tbl := sd_in5 (List.mem_of_getElem? (i := 136) rfl)
set_option maxRecDepth 20000 in
theorem sd_mc115 : sd_wC 115 ∈ lw_tbl := sd_in5 (List.mem_of_getElem? (i := 153) rfl)
set_option maxRecDepth 20000 in
theorem sd_mc116 : sd_wC 116 ∈ lw_tbl := sd_in2 (List.mem_of_getElem? (i := 237) rfl)
set_option maxRecDepth 20000 in
theorem sd_mc117 : sd_wC 117 ∈ lw_tbl := sd_in5 (List.mem_of_getElem? (i := 162) rfl)
set_option maxRecDepth 20000 in
theorem sd_mc118 : sd_wC 118 ∈ lw_tbl := sd_in3 (List.mem_of_getElem? (i := 1) rfl)
set_option maxRecDepth 20000 in
theorem sd_mc119 : sd_wC 119 ∈ lw_tbl := sd_in5 (List.mem_of_getElem? (i := 174) rfl)
set_option maxRecDepth 20000 in
theorem sd_mc120 : sd_wC 120 ∈ lw_tbl := sd_in5 (List.mem_of_getElem? (i := 228) rfl)
set_option maxRecDepth 20000 in
theorem sd_mc121 : sd_wC 121 ∈ lw_tbl := sd_in5 (List.mem_of_getElem? (i := 236) rfl)
set_option maxRecDepth 20000 in
theorem sd_mc122 : sd_wC 122 ∈ lw_tbl := sd_in6 (List.mem_of_getElem? (i := 11) rfl)
set_option maxRecDepth 20000 in
theorem sd_mc123 : sd_wC 123 ∈ lw_tbl := sd_in6 (List.mem_of_getElem? (i := 23) rfl)
set_option maxRecDepth 20000 in
theorem sd_mc124 : sd_wC 124 ∈ lw_tbl := sd_in6 (List.mem_of_getElem? (i := 60) rfl)
set_option maxRecDepth 20000 in
theorem sd_mc125 : sd_wC 125 ∈ lw_tbl := sd_in6 (List.mem_of_getElem? (i := 92) rfl)
set_option maxRecDepth 20000 in
theorem sd_mc126 : sd_wC 126 ∈ lw_tbl := sd_in3 (List.mem_of_getElem? (i := 71) rfl)
set_option maxRecDepth 20000 in
theorem sd_mc127 : sd_wC 127 ∈ lw_tbl := sd_in3 (List.mem_of_getElem? (i := 97) rfl)
set_option maxRecDepth 20000 in
theorem sd_mc128 : sd_wC 128 ∈ lw_tbl := sd_in3 (List.mem_of_getElem? (i := 101) rfl)
set_option maxRecDepth 20000 in
theorem sd_mc129 : sd_wC 129 ∈ lw_tbl := sd_in4 (List.mem_of_getElem? (i := 209) rfl)
set_option maxRecDepth 20000 in
theorem sd_mc130 : sd_wC 130 ∈ lw_tbl := sd_in5 (List.mem_of_getElem? (i := 22) rfl)
set_option maxRecDepth 20000 in
theorem sd_mc131 : sd_wC 131 ∈ lw_tbl := sd_in5 (List.mem_of_getElem? (i := 166) rfl)
set_option maxRecDepth 20000 in
theorem sd_mc132 : sd_wC 132 ∈ lw_tbl := sd_in4 (List.mem_of_getElem? (i := 195) rfl)
set_option maxRecDepth 20000 in
theorem sd_mc133 : sd_wC 133 ∈ lw_tbl := sd_in5 (List.mem_of_getElem? (i := 141) rfl)
set_option maxRecDepth 20000 in
theorem sd_mc134 : sd_wC 134 ∈ lw_tbl := sd_in5 (List.mem_of_getElem? (i := 86) rfl)
set_option maxRecDepth 20000 in
theorem sd_mc135 : sd_wC 135 ∈ lw_tbl := sd_in3 (List.mem_of_getElem? (i := 5) rfl)
set_option maxRecDepth 20000 in
theorem sd_mc136 : sd_wC 136 ∈ lw_tbl := sd_in5 (List.mem_of_getElem? (i := 239) rfl)
set_option maxRecDepth 20000 in
theorem sd_mc137 : sd_wC 137 ∈ lw_tbl := sd_in5 (List.mem_of_getElem? (i := 180) rfl)
set_option maxRecDepth 20000 in
theorem sd_mc138 : sd_wC 138 ∈ lw_tbl := sd_in3 (List.mem_of_getElem? (i := 47) rfl)
set_option maxRecDepth 20000 in
theorem sd_mc139 : sd_wC 139 ∈ lw_tbl := sd_in5 (List.mem_of_getElem? (i := 29) rfl)
set_option maxRecDepth 20000 in
theorem sd_mc140 : sd_wC 140 ∈ lw_tbl := sd_in6 (List.mem_of_getElem? (i := 102) rfl)
set_option maxRecDepth 20000 in
theorem sd_mc141 : sd_wC 141 ∈ lw_tbl := sd_in6 (List.mem_of_getElem? (i := 174) rfl)
set_option maxRecDepth 20000 in
theorem sd_mc142 : sd_wC 142 ∈ lw_tbl := sd_in6 (List.mem_of_getElem? (i := 185) rfl)
set_option maxRecDepth 20000 in
theorem sd_mc143 : sd_wC 143 ∈ lw_tbl := sd_in7 (List.mem_of_getElem? (i := 98) rfl)
set_option maxRecDepth 20000 in
theorem sd_mc144 : sd_wC 144 ∈ lw_tbl := sd_in7 (List.mem_of_getElem? (i := 86) rfl)
set_option maxRecDepth 20000 in
theorem sd_mc145 : sd_wC 145 ∈ lw_tbl := sd_in7 (List.mem_of_getElem? (i := 82) rfl)
set_option maxRecDepth 20000 in
theorem sd_mc146 : sd_wC 146 ∈ lw_tbl := sd_in7 (List.mem_of_getElem? (i := 122) rfl)
set_option maxRecDepth 20000 in
theorem sd_mc147 : sd_wC 147 ∈ lw_tbl := sd_in7 (List.mem_of_getElem? (i := 212) rfl)
set_option maxRecDepth 20000 in
theorem sd_mc148 : sd_wC 148 ∈ lw_tbl := sd_in7 (List.mem_of_getElem? (i := 224) rfl)
set_option maxRecDepth 20000 in
theorem sd_mc149 : sd_wC 149 ∈ lw_tbl := sd_in7 (List.mem_of_getElem? (i := 136) rfl)
set_option maxRecDepth 20000 in
theorem sd_mc150 : sd_wC 150 ∈ lw_tbl := sd_in6 (List.mem_of_getElem? (i := 178) rfl)
set_option maxRecDepth 20000 in
theorem sd_mc151 : sd_wC 151 ∈ lw_tbl := sd_in6 (List.mem_of_getElem? (i := 182) rfl)
set_option maxRecDepth 20000 in
theorem sd_mc152 : sd_wC 152 ∈ lw_tbl := sd_in6 (List.mem_of_getElem? (i := 205) rfl)
set_option maxRecDepth 20000 in
theorem sd_mc153 : sd_wC 153 ∈ lw_tbl := sd_in6 (List.mem_of_getElem? (i := 201) rfl)
set_option maxRecDepth 20000 in
theorem sd_mc154 : sd_wC 154 ∈ lw_tbl := sd_in7 (List.mem_of_getElem? (i := 2) rfl)
set_option maxRecDepth 20000 in
theorem sd_mc155 : sd_wC 155 ∈ lw_tbl := sd_in7 (List.mem_of_getElem? (i := 20) rfl)
set_option maxRecDepth 20000 in
theorem sd_mc156 : sd_wC 156 ∈ lw_tbl := sd_in6 (List.mem_of_getElem? (i := 218) rfl)
set_option maxRecDepth 20000 in
theorem sd_mc157 : sd_wC 157 ∈ lw_tbl := sd_in6 (List.mem_of_getElem? (i := 209) rfl)
set_option maxRecDepth 20000 in
theorem sd_mc158 : sd_wC 158 ∈ lw_tbl := sd_in7 (List.mem_of_getElem? (i := 47) rfl)
set_option maxRecDepth 20000 in
theorem sd_mc159 : sd_wC 159 ∈ lw_tbl := sd_in6 (List.mem_of_getElem? (i := 224) rfl)
set_option maxRecDepth 20000 in
theorem sd_mc160 : sd_wC 160 ∈ lw_tbl := sd_in7 (List.mem_of_getElem? (i := 41) rfl)
set_option maxRecDepth 20000 in
theorem sd_mc161 : sd_wC 161 ∈ lw_tbl := sd_in7 (List.mem_of_getElem? (i := 37) rfl)
set_option maxRecDepth 20000 in
theorem sd_mc162 : sd_wC 162 ∈ lw_tbl := sd_in7 (List.mem_of_getElem? (i := 55) rfl)
set_option maxRecDepth 20000 in
theorem sd_mc163 : sd_wC 163 ∈ lw_tbl := sd_in7 (List.mem_of_getElem? (i := 32) rfl)
set_option maxRecDepth 20000 in
theorem sd_mc164 : sd_wC 164 ∈ lw_tbl := sd_in6 (List.mem_of_getElem? (i := 193) rfl)
set_option maxRecDepth 20000 in
theorem sd_mc165 : sd_wC 165 ∈ lw_tbl := sd_in6 (List.mem_of_getElem? (i := 197) rfl)
set_option maxRecDepth 20000 in
theorem sd_mc166 : sd_wC 166 ∈ lw_tbl := sd_in6 (List.mem_of_getElem? (i := 189) rfl)
set_option maxRecDepth 20000 in
theorem sd_mc167 : sd_wC 167 ∈ lw_tbl := sd_in7 (List.mem_of_getElem? (i := 16) rfl)
set_option maxRecDepth 20000 in
theorem sd_mc168 : sd_wC 168 ∈ lw_tbl := sd_in7 (List.mem_of_getElem? (i := 12) rfl)
set_option maxRecDepth 20000 in
theorem sd_mc169 : sd_wC 169 ∈ lw_tbl := sd_in7 (List.mem_of_getElem? (i := 6) rfl)
set_option maxRecDepth 20000 in
theorem sd_mc170 : sd_wC 170 ∈ lw_tbl := sd_in6 (List.mem_of_getElem? (i := 237) rfl)
set_option maxRecDepth 20000 in
theorem sd_mc171 : sd_wC 171 ∈ lw_tbl := sd_in6 (List.mem_of_getElem? (i := 233) rfl)
set_option maxRecDepth 20000 in
theorem sd_mc172 : sd_wC 172 ∈ lw_tbl := sd_in6 (List.mem_of_getElem? (i := 229) rfl)
set_option maxRecDepth 20000 in
theorem sd_mc173 : sd_wC 173 ∈ lw_tbl := sd_in6 (List.mem_of_getElem? (i := 213) rfl)
set_option maxRecDepth 20000 in
theorem sd_mc174 : sd_wC 174 ∈ lw_tbl := sd_in7 (List.mem_of_getElem? (i := 66) rfl)
set_option maxRecDepth 20000 in
theorem sd_mc175 : sd_wC 175 ∈ lw_tbl := sd_in7 (List.mem_of_getElem? (i := 70) rfl)
set_option maxRecDepth 20000 in
theorem sd_mc176 : sd_wC 176 ∈ lw_tbl := sd_in7 (List.mem_of_getElem? (i := 90) rfl)
set_option maxRecDepth 20000 in
theorem sd_mc177 : sd_wC 177 ∈ lw_tbl := sd_in7 (List.mem_of_getElem? (i := 126) rfl)
set_option maxRecDepth 20000 in
theorem sd_mc178 : sd_wC 178 ∈ lw_tbl := sd_in7 (List.mem_of_getElem? (i := 106) rfl)
set_option maxRecDepth 20000 in
theorem sd_mc179 : sd_wC 179 ∈ lw_tbl := sd_in7 (List.mem_of_getElem? (i := 94) rfl)
set_option maxRecDepth 20000 in
theorem sd_mc180 : sd_wC 180 ∈ lw_tbl := sd_in7 (List.mem_of_getElem? (i := 102) rfl)
set_option maxRecDepth 20000 in
theorem sd_mc181 : sd_wC 181 ∈ lw_tbl := sd_in7 (List.mem_of_getElem? (i := 110) rfl)
set_option maxRecDepth 20000 in
theorem sd_mc182 : sd_wC 182 ∈ lw_tbl := sd_in7 (List.mem_of_getElem? (i := 114) rfl)
set_option maxRecDepth 20000 in
theorem sd_mc183 : sd_wC 183 ∈ lw_tbl := sd_in7 (List.mem_of_getElem? (i := 152) rfl)
set_option maxRecDepth 20000 in
theorem sd_mc184 : sd_wC 184 ∈ lw_tbl := sd_in7 (List.mem_of_getElem? (i := 130) rfl)
set_option maxRecDepth 20000 in
theorem sd_mc185 : sd_wC 185 ∈ lw_tbl := sd_in7 (List.mem_of_getElem? (i := 164) rfl)
set_option maxRecDepth 20000 in
theorem sd_mc186 : sd_wC 186 ∈ lw_tbl := sd_in7 (List.mem_of_getElem? (i := 160) rfl)
set_option maxRecDepth 20000 in
theorem sd_mc187 : sd_wC 187 ∈ lw_tbl := sd_in7 (List.mem_of_getElem? (i := 156) rfl)
set_option maxRecDepth 20000 in
theorem sd_mc188 : sd_wC 188 ∈ lw_tbl := sd_in7 (List.mem_of_getElem? (i := 148) rfl)
set_option maxRecDepth 20000 in
theorem sd_mc189 : sd_wC 189 ∈ lw_tbl := sd_in7 (List.mem_of_getElem? (i := 144) rfl)
set_option maxRecDepth 20000 in
theorem sd_mc190 : sd_wC 190 ∈ lw_tbl := sd_in7 (List.mem_of_getElem? (i := 180) rfl)
set_option maxRecDepth 20000 in
theorem sd_mc191 : sd_wC 191 ∈ lw_tbl := sd_in7 (List.mem_of_getElem? (i := 74) rfl)
set_option maxRecDepth 20000 in
theorem sd_mc192 : sd_wC 192 ∈ lw_tbl := sd_in7 (List.mem_of_getElem? (i := 78) rfl)
set_option maxRecDepth 20000 in
theorem sd_mc193 : sd_wC 193 ∈ lw_tbl := sd_in7 (List.mem_of_getElem? (i := 133) rfl)
set_option maxRecDepth 20000 in
theorem sd_mc194 : sd_wC 194 ∈ lw_tbl := sd_in7 (List.mem_of_getElem? (i := 118) rfl)
set_option maxRecDepth 20000 in
theorem sd_mc195 : sd_wC 195 ∈ lw_tbl := sd_in7 (List.mem_of_getElem? (i := 140) rfl)
set_option maxRecDepth 20000 in
theorem sd_mc196 : sd_wC 196 ∈ lw_tbl := sd_in7 (List.mem_of_getElem? (i := 168) rfl)
set_option maxRecDepth 20000 in
theorem sd_mc197 : sd_wC 197 ∈ lw_tbl := sd_in7 (List.mem_of_getElem? (i := 176) rfl)
set_option maxRecDepth 20000 in
theorem sd_mc198 : sd_wC 198 ∈ lw_tbl := sd_in7 (List.mem_of_getElem? (i := 172) rfl)
set_option maxRecDepth 20000 in
theorem sd_mc199 : sd_wC 199 ∈ lw_tbl := sd_in7 (List.mem_of_getElem? (i := 184) rfl)
set_option maxRecDepth 20000 in
theorem sd_mc200 : sd_wC 200 ∈ lw_tbl := sd_in7 (List.mem_of_getElem? (i := 188) rfl)
set_option maxRecDepth 20000 in
theorem sd_mc201 : sd_wC 201 ∈ lw_tbl := sd_in7 (List.mem_of_getElem? (i := 196) rfl)
set_option maxRecDepth 20000 in
theorem sd_mc202 : sd_wC 202 ∈ lw_tbl := sd_in7 (List.mem_of_getElem? (i := 192) rfl)
set_option maxRecDepth 20000 in
theorem sd_mc203 : sd_wC 203 ∈ lw_tbl := sd_in7 (List.mem_of_getElem? (i := 200) rfl)
set_option maxRecDepth 20000 in
theorem sd_mc204 : sd_wC 204 ∈ lw_tbl := sd_in7 (List.mem_of_getElem? (i := 204) rfl)
set_option maxRecDepth 20000 in
theorem sd_mc205 : sd_wC 205 ∈ lw_tbl := sd_in7 (List.mem_of_getElem? (i := 228) rfl)
set_option maxRecDepth 20000 in
theorem sd_mc206 : sd_wC 206 ∈ lw_tbl := sd_in7 (List.mem_of_getElem? (i := 220) rfl)
set_option maxRecDepth 20000 in
theorem sd_mc207 : sd_wC 207 ∈ lw_tbl := sd_in7 (List.mem_of_getElem? (i := 216) rfl)
set_option maxRecDepth 20000 in
theorem sd_mc208 : sd_wC 208 ∈ lw_tbl := sd_in7 (List.mem_of_getElem? (i := 208) rfl)
set_option maxRecDepth 20000 in
theorem sd_mc209 : sd_wC 209 ∈ lw_tbl := sd_in7 (List.mem_of_getElem? (i := 232) rfl)
set_option maxRecDepth 20000 in
theorem sd_mc210 : sd_wC 210 ∈ lw_tbl := sd_in7 (List.mem_of_getElem? (i := 236) rfl)
set_option maxRecDepth 20000 in
theorem sd_mc211 : sd_wC 211 ∈ lw_tbl := sd_in8 (List.mem_of_getElem? (i := 0) rfl)
set_option maxRecDepth 20000 in
theorem sd_mc212 : sd_wC 212 ∈ lw_tbl := sd_in8 (List.mem_of_getElem? (i := 4) rfl)
set_option maxRecDepth 20000 in
theorem sd_mc213 : sd_wC 213 ∈ lw_tbl := sd_in8 (List.mem_of_getElem? (i := 8) rfl)
set_option maxRecDepth 20000 in
theorem sd_mc214 : sd_wC 214 ∈ lw_tbl := sd_in8 (List.mem_of_getElem? (i := 12) rfl)
set_option maxRecDepth 20000 in
theorem sd_mc215 : sd_wC 215 ∈ lw_tbl := sd_in8 (List.mem_of_getElem? (i := 20) rfl)
set_option maxRecDepth 20000 in
theorem sd_mc216 : sd_wC 216 ∈ lw_tbl := sd_in8 (List.mem_of_getElem? (i := 16) rfl)
set_option maxRecDepth 20000 in
theorem sd_mc217 : sd_wC 217 ∈ lw_tbl := sd_in8 (List.mem_of_getElem? (i := 24) rfl)
set_option maxRecDepth 20000 in
theorem sd_mc218 : sd_wC 218 ∈ lw_tbl := sd_in8 (List.mem_of_getElem? (i := 28) rfl)
set_option maxRecDepth 20000 in
theorem sd_mc219 : sd_wC 219 ∈ lw_tbl := sd_in8 (List.mem_of_getElem? (i := 32) rfl)
set_option maxRecDepth 20000 in
theorem sd_mc220 : sd_wC 220 ∈ lw_tbl := sd_in8 (List.mem_of_getElem? (i := 36) rfl)
set_option maxRecDepth 20000 in
theorem sd_mc221 : sd_wC 221 ∈ lw_tbl := sd_in5 (List.mem_of_getElem? (i := 184) rfl)
set_option maxRecDepth 20000 in
theorem sd_mc222 : sd_wC 222 ∈ lw_tbl := sd_in3 (List.mem_of_getElem? (i := 50) rfl)
set_option maxRecDepth 20000 in
theorem sd_mc223 : sd_wC 223 ∈ lw_tbl := sd_in3 (List.mem_of_getElem? (i := 24) rfl)
set_option maxRecDepth 20000 in
theorem sd_mc224 : sd_wC 224 ∈ lw_tbl := sd_in5 (List.mem_of_getElem? (i := 208) rfl)
set_option maxRecDepth 20000 in
theorem sd_mc225 : sd_wC 225 ∈ lw_tbl := sd_in5 (List.mem_of_getElem? (i := 177) rfl)
set_option maxRecDepth 20000 in
theorem sd_mc226 : sd_wC 226 ∈ lw_tbl := sd_in3 (List.mem_of_getElem? (i := 144) rfl)
set_option maxRecDepth 20000 in
theorem sd_mc227 : sd_wC 227 ∈ lw_tbl := sd_in3 (List.mem_of_getElem? (i := 158) rfl)
set_option maxRecDepth 20000 in
theorem sd_mc228 : sd_wC 228 ∈ lw_tbl := sd_in3 (List.mem_of_getElem? (i := 148) rfl)
set_option maxRecDepth 20000 in
theorem sd_mc229 : sd_wC 229 ∈ lw_tbl := sd_in3 (List.mem_of_getElem? (i := 162) rfl)
set_option maxRecDepth 20000 in
theorem sd_mc230 : sd_wC 230 ∈ lw_tbl := sd_in3 (List.mem_of_getElem? (i := 168) rfl)
set_option maxRecDepth 20000 in
theorem sd_mc231 : sd_wC 231 ∈ lw_tbl := sd_in3 (List.mem_of_getElem? (i := 165) rfl)
set_option maxRecDepth 20000 in
theorem sd_mc232 : sd_wC 232 ∈ lw_tbl := sd_in3 (List.mem_of_getElem? (i := 186) rfl)
set_option maxRecDepth 20000 in
theorem sd_mc233 : sd_wC 233 ∈ lw_tbl := sd_in3 (List.mem_of_getElem? (i := 182) rfl)
set_option maxRecDepth 20000 in
theorem sd_mc234 : sd_wC 234 ∈ lw_tbl := sd_in3 (List.mem_of_getElem? (i := 176) rfl)
set_option maxRecDepth 20000 in
theorem sd_mc235 : sd_wC 235 ∈ lw_tbl := sd_in3 (List.mem_of_getElem? (i := 179) rfl)
set_option maxRecDepth 20000 in
theorem sd_mc236 : sd_wC 236 ∈ lw_tbl := sd_in5 (List.mem_of_getElem? (i := 198) rfl)
set_option maxRecDepth 20000 in
theorem sd_mc237 : sd_wC 237 ∈ lw_tbl := sd_in3 (List.mem_of_getElem? (i := 173) rfl)
set_option maxRecDepth 20000 in
theorem sd_mc238 : sd_wC 238 ∈ lw_tbl := sd_in3 (List.mem_of_getElem? (i := 108) rfl)
set_option maxRecDepth 20000 in
theorem sd_mc239 : sd_wC 239 ∈ lw_tbl := sd_in4 (List.mem_of_getElem? (i := 117) rfl)
set_option maxRecDepth 20000 in
theorem sd_mc240 : sd_wC 240 ∈ lw_tbl := sd_in4 (List.mem_of_getElem? (i := 187) rfl)
set_option maxRecDepth 20000 in
theorem sd_mc241 : sd_wC 241 ∈ lw_tbl := sd_in4 (List.mem_of_getElem? (i := 199) rfl)
set_option maxRecDepth 20000 in
theorem sd_mc242 : sd_wC 242 ∈ lw_tbl := sd_in5 (List.mem_of_getElem? (i := 14) rfl)
set_option maxRecDepth 20000 in
theorem sd_mc243 : sd_wC 243 ∈ lw_tbl := sd_in5 (List.mem_of_getElem? (i := 33) rfl)
set_option maxRecDepth 20000 in
theorem sd_mc244 : sd_wC 244 ∈ lw_tbl := sd_in5 (List.mem_of_getElem? (i := 67) rfl)
set_option maxRecDepth 20000 in
theorem sd_mc245 : sd_wC 245 ∈ lw_tbl := sd_in5 (List.mem_of_getElem? (i := 78) rfl)
set_option maxRecDepth 20000 in
theorem sd_mc246 : sd_wC 246 ∈ lw_tbl := sd_in5 (List.mem_of_getElem? (i := 116) rfl)
set_option maxRecDepth 20000 in
theorem sd_mc247 : sd_wC 247 ∈ lw_tbl := sd_in5 (List.mem_of_getElem? (i := 124) rfl)
set_option maxRecDepth 20000 in
theorem sd_mc248 : sd_wC 248 ∈ lw_tbl := sd_in5 (List.mem_of_getElem? (i := 132) rfl)
set_option maxRecDepth 20000 in
theorem sd_mc249 : sd_wC 249 ∈ lw_tbl := sd_in5 (List.mem_of_getElem? (i := 149) rfl)
set_option maxRecDepth 20000 in
theorem sd_mc250 : sd_wC 250 ∈ lw_tbl := sd_in5 (List.mem_of_getElem? (i := 158) rfl)
set_option maxRecDepth 20000 in
theorem sd_mc251 : sd_wC 251 ∈ lw_tbl := sd_in5 (List.mem_of_getElem? (i := 170) rfl)
set_option maxRecDepth 20000 in
theorem sd_mc252 : sd_wC 252 ∈ lw_tbl := sd_in5 (List.mem_of_getElem? (i := 224) rfl)
set_option maxRecDepth 20000 in
theorem sd_mc253 : sd_wC 253 ∈ lw_tbl := sd_in5 (List.mem_of_getElem? (i := 232) rfl)
set_option maxRecDepth 20000 in
theorem sd_mc254 : sd_wC 254 ∈ lw_tbl := sd_in6 (List.mem_of_getElem? (i := 7) rfl)
set_option maxRecDepth 20000 in
theorem sd_mc255 : sd_wC 255 ∈ lw_tbl := sd_in6 (List.mem_of_getElem? (i := 19) rfl)
set_option maxRecDepth 20000 in
theorem sd_mc256 : sd_wC 256 ∈ lw_tbl := sd_in6 (List.mem_of_getElem? (i := 56) rfl)
set_option maxRecDepth 20000 in
theorem sd_mc257 : sd_wC 257 ∈ lw_tbl := sd_in6 (List.mem_of_getElem? (i := 88) rfl)
theorem sd_mcA20 : ∀ mi, mi < 20 → sd_wC mi ∈ lw_tbl := lt_s (lt_s (lt_s (lt_s (lt_s (lt_s (lt_s (lt_s (lt_s (lt_s (lt_s (lt_s (lt_s (lt_s (lt_s (lt_s (lt_s (lt_s (lt_s (lt_s (lt_0) sd_mc0) sd_mc1) sd_mc2) sd_mc3) sd_mc4) sd_mc5) sd_mc6) sd_mc7) sd_mc8) sd_mc9) sd_mc10) sd_mc11) sd_mc12) sd_mc13) sd_mc14) sd_mc15) sd_mc16) sd_mc17) sd_mc18) sd_mc19
theorem sd_mcA40 : ∀ mi, mi < 40 → sd_wC mi ∈ lw_tbl := lt_s (lt_s (lt_s (lt_s (lt_s (lt_s (lt_s (lt_s (lt_s (lt_s (lt_s (lt_s (lt_s (lt_s (lt_s (lt_s (lt_s (lt_s (lt_s (lt_s (sd_mcA20) sd_mc20) sd_mc21) sd_mc22) sd_mc23) sd_mc24) sd_mc25) sd_mc26) sd_mc27) sd_mc28) sd_mc29) sd_mc30) sd_mc31) sd_mc32) sd_mc33) sd_mc34) sd_mc35) sd_mc36) sd_mc37) sd_mc38) sd_mc39
theorem sd_mcA60 : ∀ mi, mi < 60 → sd_wC mi ∈ lw_tbl := lt_s (lt_s (lt_s (lt_s (lt_s (lt_s (lt_s (lt_s (lt_s (lt_s (lt_s (lt_s (lt_s (lt_s (lt_s (lt_s (lt_s (lt_s (lt_s (lt_s (sd_mcA40) sd_mc40) sd_mc41) sd_mc42) sd_mc43) sd_mc44) sd_mc45) sd_mc46) sd_mc47) sd_mc48) sd_mc49) sd_mc50) sd_mc51) sd_mc52) sd_mc53) sd_mc54) sd_mc55) sd_mc56) sd_mc57) sd_mc58) sd_mc59
theorem sd_mcA80 : ∀ mi, mi < 80 → sd_wC mi ∈ lw_tbl := lt_s (lt_s (lt_s (lt_s (lt_s (lt_s (lt_s (lt_s (lt_s (lt_s (lt_s (lt_s (lt_s (lt_s (lt_s (lt_s (lt_s (lt_s (lt_s (lt_s (sd_mcA60) sd_mc60) sd_mc61) sd_mc62) sd_mc63) sd_mc64) sd_mc65) sd_mc66) sd_mc67) sd_mc68) sd_mc69) sd_mc70) sd_mc71) sd_mc72) sd_mc73) sd_mc74) sd_mc75) sd_mc76) sd_mc77) sd_mc78) sd_mc79
theorem sd_mcA100 : ∀ mi, mi < 100 → sd_wC mi ∈ lw_tbl := lt_s (lt_s (lt_s (lt_s (lt_s (lt_s (lt_s (lt_s (lt_s (lt_s (lt_s (lt_s (lt_s (lt_s (lt_s (lt_s (lt_s (lt_s (lt_s (lt_s (sd_mcA80) sd_mc80) sd_mc81) sd_mc82) sd_mc83) sd_mc84) sd_mc85) sd_mc86) sd_mc87) sd_mc88) sd_mc89) sd_mc90) sd_mc91) sd_mc92) sd_mc93) sd_mc94) sd_mc95) sd_mc96) sd_mc97) sd_mc98) sd_mc99
theorem sd_mcA120 : ∀ mi, mi < 120 → sd_wC mi ∈ lw_tbl := lt_s (lt_s (lt_s (lt_s (lt_s (lt_s (lt_s (lt_s (lt_s (lt_s (lt_s (lt_s (lt_s (lt_s (lt_s (lt_s (lt_s (lt_s (lt_s (lt_s (sd_mcA100) sd_mc100) sd_mc101) sd_mc102) sd_mc103) sd_mc104) sd_mc105) sd_mc106) sd_mc107) sd_mc108) sd_mc109) sd_mc110) sd_mc111) sd_mc112) sd_mc113) sd_mc114) sd_mc115) sd_mc116) sd_mc117) sd_mc118) sd_mc119
theorem sd_mcA140 : ∀ mi, mi < 140 → sd_wC mi ∈ lw_tbl := lt_s (lt_s (lt_s (lt_s (lt_s (lt_s (lt_s (lt_s (lt_s (lt_s (lt_s (lt_s (lt_s (lt_s (lt_s (lt_s (lt_s (lt_s (lt_s (lt_s (sd_mcA120) sd_mc120) sd_mc121) sd_mc122) sd_mc123) sd_mc124) sd_mc125) sd_mc126) sd_mc127) sd_mc128) sd_mc129) sd_mc130) sd_mc131) sd_mc132) sd_mc133) sd_mc134) sd_mc135) sd_mc136) sd_mc137) sd_mc138) sd_mc139
theorem sd_mcA160 : ∀ mi, mi < 160 → sd_wC mi ∈ lw_tbl := lt_s (lt_s (lt_s (lt_s (lt_s (lt_s (lt_s (lt_s (lt_s (lt_s (lt_s (lt_s (lt_s (lt_s (lt_s (lt_s (lt_s (lt_s (lt_s (lt_s (sd_mcA140) sd_mc140) sd_mc141) sd_mc142) sd_mc143) sd_mc144) sd_mc145) sd_mc146) sd_mc147) sd_mc148) sd_mc149) sd_mc150) sd_mc151) sd_mc152) sd_mc153) sd_mc154) sd_mc155) sd_mc156) sd_mc157) sd_mc158) sd_mc159
theorem sd_mcA180 : ∀ mi, mi < 180 → sd_wC mi ∈ lw_tbl := lt_s (lt_s (lt_s (lt_s (lt_s (lt_s (lt_s (lt_s (lt_s (lt_s (lt_s (lt_s (lt_s (lt_s (lt_s (lt_s (lt_s (lt_s (lt_s (lt_s (sd_mcA160) sd_mc160) sd_mc161) sd_mc162) sd_mc163) sd_mc164) sd_mc165) sd_mc166) sd_mc167) sd_mc168) sd_mc169) sd_mc170) sd_mc171) sd_mc172) sd_mc173) sd_mc174) sd_mc175) sd_mc176) sd_mc177) sd_mc178) sd_mc179
theorem sd_mcA200 : ∀ mi, mi < 200 → sd_wC mi ∈ lw_tbl := lt_s (lt_s (lt_s (lt_s (lt_s (lt_s (lt_s (lt_s (lt_s (lt_s (lt_s (lt_s (lt_s (lt_s (lt_s (lt_s (lt_s (lt_s (lt_s (lt_s (sd_mcA180) sd_mc180) sd_mc181) sd_mc182) sd_mc183) sd_mc184) sd_mc185) sd_mc186) sd_mc187) sd_mc188) sd_mc189) sd_mc190) sd_mc191) sd_mc192) sd_mc193) sd_mc194) sd_mc195) sd_mc196) sd_mc197) sd_mc198) sd_mc199
theorem sd_mcA220 : ∀ mi, mi < 220 → sd_wC mi ∈ lw_tbl := lt_s (lt_s (lt_s (lt_s (lt_s (lt_s (lt_s (lt_s (lt_s (lt_s (lt_s (lt_s (lt_s (lt_s (lt_s (lt_s (lt_s (lt_s (lt_s (lt_s (sd_mcA200) sd_mc200) sd_mc201) sd_mc202) sd_mc203) sd_mc204) sd_mc205) sd_mc206) sd_mc207) sd_mc208) sd_mc209) sd_mc210) sd_mc211) sd_mc212) sd_mc213) sd_mc214) sd_mc215) sd_mc216) sd_mc217) sd_mc218) sd_mc219
theorem sd_mcA240 : ∀ mi, mi < 240 → sd_wC mi ∈ lw_tbl := lt_s (lt_s (lt_s (lt_s (lt_s (lt_s (lt_s (lt_s (lt_s (lt_s (lt_s (lt_s (lt_s (lt_s (lt_s (lt_s (lt_s (lt_s (lt_s (lt_s (sd_mcA220) sd_mc220) sd_mc221) sd_mc222) sd_mc223) sd_mc224) sd_mc225) sd_mc226) sd_mc227) sd_mc228) sd_mc229) sd_mc230) sd_mc231) sd_mc232) sd_mc233) sd_mc234) sd_mc235) sd_mc236) sd_mc237) sd_mc238) sd_mc239
theorem sd_mcA258 : ∀ mi, mi < 258 → sd_wC mi ∈ lw_tbl := lt_s (lt_s (lt_s (lt_s (lt_s (lt_s (lt_s (lt_s (lt_s (lt_s (lt_s (lt_s (lt_s (lt_s (lt_s (lt_s (lt_s (lt_s (sd_mcA240) sd_mc240) sd_mc241) sd_mc242) sd_mc243) sd_mc244) sd_mc245) sd_mc246) sd_mc247) sd_mc248) sd_mc249) sd_mc250) sd_mc251) sd_mc252) sd_mc253) sd_mc254) sd_mc255) sd_mc256) sd_mc257
