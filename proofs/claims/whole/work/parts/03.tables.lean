/-! THE TABLES of the system, by program (wip/whole/gen_tab.py) out of the claim's own words: methods, links, constants, handlers, the order in which the objects are made -/
abbrev wME : Type := MethodName × ByteArray × Nat × Nat × Option FieldType × Nat × Nat × Nat × Nat × Nat × Nat × Nat
def mE_0 : List wME := [(yX0_init, cX0_init, 0, 2, none, 2, 0, 271, 270, 0, 1, 30),
  (yX0_restore, cX0_restore, 0, 2, none, 1, 0, 641, 639, 640, 1, 30),
  (yX0_holds, cX0_holds, 0, 2, some .int, 2, 0, 1070, 1068, 1069, 1, 30),
  (yX0_limitOf, cX0_limitOf, 0, 2, some .int, 2, 0, 891, 889, 890, 1, 30),
  (yX0_put, cX0_put, 0, 3, none, 3, 0, 1074, 1072, 1073, 1, 30),
  (yX0_take, cX0_take, 0, 4, none, 4, 0, 820, 818, 819, 1, 30),
  (yX0_changeProtection, cX0_changeProtection, 0, 3, some .int, 2, 0, 883, 881, 882, 1, 30),
  (yX0_changeLimit, cX0_changeLimit, 0, 4, some .int, 3, 0, 887, 885, 886, 2, 51),
  (yX1_init, cX1_init, 1, 2, none, 2, 0, 178, 177, 0, 1, 30),
  (yX1_restore, cX1_restore, 1, 1, none, 1, 0, 629, 627, 628, 2, 50),
  (yX1_isSpread, cX1_isSpread, 1, 1, some .boolean, 1, 0, 633, 631, 632, 1, 30),
  (yX1_hasPrice, cX1_hasPrice, 1, 2, some .boolean, 2, 0, 983, 981, 982, 2, 50),
  (yX1_hasContract, cX1_hasContract, 1, 2, some .boolean, 2, 0, 1098, 1096, 1097, 1, 30),
  (yX1_isBeyondBand, cX1_isBeyondBand, 1, 2, some .boolean, 2, 0, 743, 741, 742, 2, 50),
  (yX1_isFrozen, cX1_isFrozen, 1, 2, some .boolean, 2, 0, 1473, 1471, 1472, 1, 30),
  (yX1_changeRule, cX1_changeRule, 1, 5, some .int, 4, 0, 874, 872, 873, 1, 30),
  (yX1_changeBand, cX1_changeBand, 1, 3, some .int, 2, 0, 878, 876, 877, 1, 30),
  (yX2_init, cX2_init, 2, 4, none, 3, 0, 541, 540, 0, 2, 50),
  (yX2_restore, cX2_restore, 2, 6, none, 1, 0, 645, 643, 644, 3, 70),
  (yX2_memberAt, cX2_memberAt, 2, 2, some (.object "Openbook$Member"), 2, 0, 1139, 1137, 1138, 1, 30),
  (yX2_lowerOf, cX2_lowerOf, 2, 2, some (.object "Openbook$Account"), 2, 0, 1172, 1170, 1171, 2, 51),
  (yX2_upperOf, cX2_upperOf, 2, 2, some (.object "Openbook$Account"), 2, 0, 1176, 1174, 1175, 2, 51),
  (yX2_tell, cX2_tell, 2, 4, some .long, 3, 0, 1759, 1757, 1758, 6, 145),
  (yX2_netOf, cX2_netOf, 2, 5, some .long, 3, 0, 1154, 1153, 23, 2, 51),
  (yX2_moveOf, cX2_moveOf, 2, 4, some .int, 3, 0, 1127, 1126, 20, 1, 30),
  (yX2_riskOf, cX2_riskOf, 2, 9, some .long, 3, 0, 1150, 1149, 22, 3, 75),
  (yX2_worthOf, cX2_worthOf, 2, 5, some .long, 2, 0, 1180, 1179, 25, 3, 75),
  (yX2_valueOf, cX2_valueOf, 2, 2, some .long, 2, 0, 1168, 1167, 24, 4, 99),
  (yX2_callOf, cX2_callOf, 2, 6, some .long, 4, 0, 1143, 1142, 21, 5, 120),
  (yX2_canPay, cX2_canPay, 2, 7, some .boolean, 4, 0, 1613, 1611, 1612, 6, 145),
  (yX2_bring, cX2_bring, 2, 5, some .int, 4, 0, 1135, 1133, 1134, 6, 145),
  (yX2_changeMove, cX2_changeMove, 2, 6, some .int, 4, 0, 1123, 1121, 1122, 2, 53),
  (yX2_changeHaircut, cX2_changeHaircut, 2, 3, some .int, 2, 0, 1131, 1129, 1130, 1, 30),
  (yX2_changeFund, cX2_changeFund, 2, 5, some .int, 3, 0, 1184, 1182, 1183, 2, 51),
  (yX2_canFail, cX2_canFail, 2, 3, some .boolean, 2, 0, 1632, 1630, 1631, 6, 145),
  (yX2_fall, cX2_fall, 2, 2, none, 2, 0, 1192, 1190, 1191, 2, 51),
  (yX2_takeBid, cX2_takeBid, 2, 9, some .int, 3, 0, 1200, 1198, 1199, 2, 51),
  (yX2_highestBidder, cX2_highestBidder, 2, 4, some .int, 1, 0, 1208, 1207, 26, 2, 51),
  (yX2_closePortfolio, cX2_closePortfolio, 2, 6, some .int, 1, 0, 1204, 1202, 1203, 6, 165),
  (yX2_handOver, cX2_handOver, 2, 9, none, 2, 0, 1212, 1211, 27, 4, 99),
  (yX2_cover, cX2_cover, 2, 8, none, 2, 0, 1217, 1216, 28, 5, 138),
  (yX2_give, cX2_give, 2, 6, some .long, 3, 0, 1221, 1220, 29, 2, 53),
  (yX2_sellUnits, cX2_sellUnits, 2, 8, some .long, 2, 0, 1228, 1227, 30, 3, 78),
  (yX2_givesIn, cX2_givesIn, 2, 5, some .boolean, 4, 0, 1236, 1235, 32, 2, 51),
  (yX2_shareLayer, cX2_shareLayer, 2, 9, none, 3, 0, 1232, 1231, 31, 4, 110),
  (yX2_shareLoss, cX2_shareLoss, 2, 13, none, 2, 0, 1240, 1239, 33, 3, 78),
  (yX3_init, cX3_init, 3, 3, none, 3, 0, 528, 527, 0, 1, 30),
  (yX3_makePair, cX3_makePair, 3, 11, some .boolean, 3, 0, 970, 968, 969, 5, 117),
  (yX3_makeChain, cX3_makeChain, 3, 13, some .boolean, 2, 0, 1001, 999, 1000, 5, 117),
  (yX3_isBarred, cX3_isBarred, 3, 4, some .boolean, 4, 1, 979, 978, 0, 3, 71),
  (yX3_record, cX3_record, 3, 9, none, 7, 0, 989, 988, 14, 3, 81),
  (yX3_fallTogether, cX3_fallTogether, 3, 6, none, 6, 0, 994, 993, 15, 4, 92),
  (yX4_init, cX4_init, 4, 3, none, 3, 0, 322, 321, 0, 1, 30),
  (yX4_fill, cX4_fill, 4, 6, none, 6, 0, 816, 814, 815, 1, 30),
  (yX4_counts, cX4_counts, 4, 1, some .boolean, 1, 0, 1063, 1061, 1062, 1, 30),
  (yX4_tell, cX4_tell, 4, 2, some .int, 2, 0, 1727, 1725, 1726, 1, 30),
  (yX5_init, cX5_init, 5, 3, none, 1, 0, 171, 170, 0, 5, 115),
  (yX5_restore, cX5_restore, 5, 1, none, 1, 0, 621, 619, 620, 4, 95),
  (yX5_admits, cX5_admits, 5, 5, some .boolean, 4, 0, 1378, 1376, 1377, 4, 106),
  (yX5_tellLimit, cX5_tellLimit, 5, 9, some .int, 7, 0, 710, 708, 709, 7, 162),
  (yX5_tellMarket, cX5_tellMarket, 5, 5, some .int, 4, 0, 841, 839, 840, 7, 162),
  (yX5_tellIceberg, cX5_tellIceberg, 5, 7, some .int, 6, 0, 845, 843, 844, 7, 162),
  (yX5_tellPeg, cX5_tellPeg, 5, 7, some .int, 6, 0, 849, 847, 848, 4, 105),
  (yX5_tellStop, cX5_tellStop, 5, 8, some .int, 6, 0, 853, 851, 852, 4, 105),
  (yX5_tellQuote, cX5_tellQuote, 5, 10, some .int, 6, 0, 857, 855, 856, 7, 162),
  (yX5_place, cX5_place, 5, 2, none, 2, 0, 748, 747, 1, 6, 141),
  (yX5_letPass, cX5_letPass, 5, 7, some .int, 2, 0, 896, 894, 895, 7, 171),
  (yX5_undo, cX5_undo, 5, 4, some .int, 2, 0, 1032, 1030, 1031, 4, 102),
  (yX5_convertContract, cX5_convertContract, 5, 6, some .int, 4, 0, 1090, 1088, 1089, 4, 113),
  (yX5_convertPrice, cX5_convertPrice, 5, 4, some .int, 3, 1, 1106, 1105, 0, 2, 51),
  (yX5_failMember, cX5_failMember, 5, 2, some .int, 2, 0, 1188, 1186, 1187, 3, 72),
  (yX5_work, cX5_work, 5, 3, none, 1, 0, 945, 943, 944, 6, 149),
  (yX6_init, cX6_init, 6, 4, none, 3, 0, 377, 376, 0, 2, 52),
  (yX6_restore, cX6_restore, 6, 5, none, 1, 0, 625, 623, 624, 3, 70),
  (yX6_bookAt, cX6_bookAt, 6, 2, some (.object "Openbook$Book"), 2, 0, 715, 713, 714, 1, 30),
  (yX6_find, cX6_find, 6, 6, some (.object "Openbook$Order"), 2, 0, 869, 867, 868, 1, 30),
  (yX6_countLive, cX6_countLive, 6, 6, some .int, 1, 0, 1383, 1381, 1382, 1, 30),
  (yX6_draw, cX6_draw, 6, 10, some (.object "Openbook$Order"), 6, 0, 719, 717, 718, 3, 76),
  (yX6_stand, cX6_stand, 6, 2, none, 2, 0, 752, 750, 751, 3, 71),
  (yX6_nextTurn, cX6_nextTurn, 6, 1, some .int, 1, 0, 763, 761, 762, 1, 30),
  (yX6_showAnew, cX6_showAnew, 6, 2, none, 2, 0, 832, 830, 831, 3, 71),
  (yX6_bestPrice, cX6_bestPrice, 6, 9, some .int, 4, 0, 772, 770, 771, 2, 52),
  (yX6_firstOf, cX6_firstOf, 6, 9, some (.object "Openbook$Order"), 3, 0, 975, 973, 974, 3, 80),
  (yX6_sumShown, cX6_sumShown, 6, 9, some .int, 4, 0, 1679, 1677, 1678, 2, 52),
  (yX6_refuses, cX6_refuses, 6, 6, some .boolean, 4, 0, 1387, 1385, 1386, 3, 81),
  (yX6_reach, cX6_reach, 6, 10, some .long, 4, 0, 1392, 1391, 35, 2, 52),
  (yX6_withdraw, cX6_withdraw, 6, 3, some .int, 2, 0, 865, 863, 864, 2, 55),
  (yX6_withdrawQuote, cX6_withdrawQuote, 6, 7, none, 3, 0, 861, 859, 860, 1, 30),
  (yX6_withdrawContract, cX6_withdrawContract, 6, 7, some .int, 2, 0, 1094, 1092, 1093, 2, 51),
  (yX6_withdrawMember, cX6_withdrawMember, 6, 7, some .int, 2, 0, 1196, 1194, 1195, 1, 30),
  (yX6_guard, cX6_guard, 6, 8, none, 3, 0, 828, 826, 827, 1, 30),
  (yX6_countQuotes, cX6_countQuotes, 6, 5, none, 1, 0, 900, 898, 899, 3, 77),
  (yX6_hasOtherSide, cX6_hasOtherSide, 6, 6, some .boolean, 2, 0, 904, 903, 9, 2, 52),
  (yX6_hasAuction, cX6_hasAuction, 6, 5, some .boolean, 1, 0, 1526, 1524, 1525, 1, 30),
  (yX6_beginAuction, cX6_beginAuction, 6, 4, some .int, 4, 0, 783, 781, 782, 1, 30),
  (yX6_openBook, cX6_openBook, 6, 6, none, 2, 0, 941, 939, 940, 3, 71),
  (yX6_turnDay, cX6_turnDay, 6, 6, some .int, 1, 0, 1028, 1026, 1027, 1, 30),
  (yX6_dueStop, cX6_dueStop, 6, 6, some (.object "Openbook$Order"), 1, 0, 950, 948, 949, 2, 50),
  (yX6_holdStops, cX6_holdStops, 6, 7, none, 3, 0, 1042, 1040, 1041, 2, 50),
  (yX6_pricePegs, cX6_pricePegs, 6, 4, none, 1, 0, 1005, 1003, 1004, 4, 103)]
def mE_1 : List wME := [(yX6_nextPeg, cX6_nextPeg, 6, 7, some (.object "Openbook$Order"), 2, 0, 1009, 1008, 16, 1, 30),
  (yX6_pegPrice, cX6_pegPrice, 6, 4, some .int, 2, 0, 1013, 1012, 17, 3, 80),
  (yX6_movePeg, cX6_movePeg, 6, 3, none, 3, 0, 1020, 1019, 18, 3, 71),
  (yX7_init, cX7_init, 7, 3, none, 2, 0, 262, 261, 0, 2, 52),
  (yX7_restore, cX7_restore, 7, 5, none, 1, 0, 637, 635, 636, 2, 51),
  (yX7_accountAt, cX7_accountAt, 7, 2, some (.object "Openbook$Account"), 2, 0, 374, 372, 373, 1, 30),
  (yX7_record, cX7_record, 7, 7, none, 6, 0, 812, 810, 811, 2, 55),
  (yX7_find, cX7_find, 7, 4, some (.object "Openbook$Deal"), 2, 0, 965, 963, 964, 1, 30),
  (yX7_latestOf, cX7_latestOf, 7, 5, some .int, 2, 0, 958, 956, 957, 2, 53),
  (yX7_reverse, cX7_reverse, 7, 6, some .int, 2, 0, 1036, 1034, 1035, 3, 77),
  (yX7_reprice, cX7_reprice, 7, 7, some .int, 3, 0, 1046, 1044, 1045, 3, 77),
  (yX7_replaceSide, cX7_replaceSide, 7, 8, some .int, 4, 0, 1050, 1048, 1049, 2, 53),
  (yX7_averageOf, cX7_averageOf, 7, 13, some .int, 4, 0, 1059, 1057, 1058, 2, 55),
  (yX7_canAllot, cX7_canAllot, 7, 7, some .boolean, 4, 0, 1564, 1562, 1563, 3, 87),
  (yX7_allotLots, cX7_allotLots, 7, 8, some .int, 5, 0, 1055, 1053, 1054, 3, 87),
  (yX7_exerciseLots, cX7_exerciseLots, 7, 8, some .int, 4, 0, 1078, 1076, 1077, 3, 82),
  (yX7_assign, cX7_assign, 7, 11, some .int, 2, 0, 1086, 1085, 19, 2, 52),
  (yX7_canConvert, cX7_canConvert, 7, 5, some .boolean, 4, 0, 1583, 1581, 1582, 2, 52),
  (yX7_scaled, cX7_scaled, 7, 3, some .long, 3, 1, 1115, 1114, 0, 1, 30),
  (yX7_convertPositions, cX7_convertPositions, 7, 17, none, 5, 0, 1112, 1110, 1111, 3, 77),
  (yX7_forget, cX7_forget, 7, 6, none, 2, 0, 1102, 1100, 1101, 2, 51),
  (yX8_init, cX8_init, 8, 4, none, 3, 0, 508, 507, 0, 1, 30),
  (yX8_reachable, cX8_reachable, 8, 8, some .long, 2, 0, 731, 729, 730, 3, 71),
  (yX8_match, cX8_match, 8, 9, none, 2, 0, 767, 765, 766, 5, 113),
  (yX8_settle, cX8_settle, 8, 2, none, 2, 0, 836, 835, 8, 4, 92),
  (yX8_gather, cX8_gather, 8, 12, some .int, 3, 0, 787, 786, 2, 2, 52),
  (yX8_meetsOwn, cX8_meetsOwn, 8, 6, some .boolean, 3, 0, 791, 790, 3, 1, 30),
  (yX8_share, cX8_share, 8, 7, none, 4, 0, 795, 794, 4, 3, 78),
  (yX8_giveTop, cX8_giveTop, 8, 4, some .int, 4, 0, 800, 799, 5, 2, 51),
  (yX8_giveShares, cX8_giveShares, 8, 8, none, 3, 0, 804, 803, 6, 2, 51),
  (yX8_strike, cX8_strike, 8, 7, none, 5, 0, 808, 807, 7, 3, 81),
  (yX8_endAuction, cX8_endAuction, 8, 3, some .boolean, 2, 0, 908, 906, 907, 5, 134),
  (yX8_tradeAll, cX8_tradeAll, 8, 6, none, 3, 0, 928, 927, 11, 4, 107),
  (yX8_firstAt, cX8_firstAt, 8, 9, some (.object "Openbook$Order"), 4, 0, 932, 931, 12, 3, 74),
  (yX8_comesBefore, cX8_comesBefore, 8, 3, some .boolean, 3, 0, 936, 935, 13, 2, 52),
  (yX8_findPrice, cX8_findPrice, 8, 13, some .int, 2, 0, 912, 910, 911, 4, 102),
  (yX8_isNearer, cX8_isNearer, 8, 5, some .boolean, 3, 1, 924, 923, 0, 2, 50),
  (yX8_volumeAt, cX8_volumeAt, 8, 3, some .int, 3, 0, 916, 914, 915, 3, 80),
  (yX8_sumAt, cX8_sumAt, 8, 9, some .int, 4, 0, 920, 919, 10, 2, 52),
  (yX9_init, cX9_init, 9, 1, none, 1, 0, 550, 549, 0, 1, 30),
  (yX9_restore, cX9_restore, 9, 1, none, 1, 0, 649, 647, 648, 2, 50),
  (yX9_forgetBid, cX9_forgetBid, 9, 1, none, 1, 0, 653, 651, 652, 1, 30),
  (yX10_init, cX10_init, 10, 3, none, 3, 0, 384, 383, 0, 1, 30),
  (yX10_begin, cX10_begin, 10, 7, none, 7, 0, 723, 721, 722, 2, 50),
  (yX10_standsIn, cX10_standsIn, 10, 3, some .boolean, 3, 0, 735, 733, 734, 1, 30),
  (yX10_allows, cX10_allows, 10, 2, some .boolean, 2, 0, 739, 737, 738, 1, 30),
  (yX10_isBetter, cX10_isBetter, 10, 3, some .boolean, 3, 0, 778, 776, 777, 1, 30),
  (yX10_addsTo, cX10_addsTo, 10, 3, some .boolean, 3, 0, 1397, 1395, 1396, 1, 30),
  (yX10_isDue, cX10_isDue, 10, 1, some .boolean, 1, 0, 954, 952, 953, 1, 30),
  (yX10_hold, cX10_hold, 10, 1, none, 1, 0, 1024, 1022, 1023, 1, 30),
  (yX10_showable, cX10_showable, 10, 1, some .int, 1, 0, 756, 754, 755, 2, 51),
  (yX10_fall, cX10_fall, 10, 2, none, 2, 0, 824, 822, 823, 1, 30),
  (yX11_init, cX11_init, 11, 1, none, 1, 0, 163, 162, 0, 6, 137),
  (yX11_limit, cX11_limit, 11, 8, some .int, 7, 0, 1269, 1267, 1268, 9, 227),
  (yX11_market, cX11_market, 11, 4, some .int, 4, 0, 1429, 1427, 1428, 9, 227),
  (yX11_iceberg, cX11_iceberg, 11, 6, some .int, 6, 0, 1436, 1434, 1435, 9, 227),
  (yX11_peg, cX11_peg, 11, 6, some .int, 6, 0, 1443, 1441, 1442, 9, 227),
  (yX11_stop, cX11_stop, 11, 6, some .int, 6, 0, 1450, 1448, 1449, 9, 227),
  (yX11_quote, cX11_quote, 11, 7, some .int, 6, 0, 1460, 1458, 1459, 9, 227),
  (yX11_cancel, cX11_cancel, 11, 3, some .int, 2, 0, 1468, 1466, 1467, 9, 227),
  (yX11_setRule, cX11_setRule, 11, 5, some .int, 5, 0, 1480, 1478, 1479, 9, 227),
  (yX11_setBand, cX11_setBand, 11, 3, some .int, 3, 0, 1487, 1485, 1486, 9, 227),
  (yX11_setProtection, cX11_setProtection, 11, 3, some .int, 3, 0, 1494, 1492, 1493, 9, 227),
  (yX11_setLimit, cX11_setLimit, 11, 4, some .int, 4, 0, 1501, 1499, 1500, 9, 227),
  (yX11_auction, cX11_auction, 11, 5, some .int, 5, 0, 1508, 1506, 1507, 9, 227),
  (yX11_pass, cX11_pass, 11, 2, some .int, 2, 0, 1515, 1513, 1514, 9, 227),
  (yX11_endDay, cX11_endDay, 11, 1, some .int, 1, 0, 1522, 1520, 1521, 9, 227),
  (yX11_bust, cX11_bust, 11, 2, some .int, 2, 0, 1533, 1531, 1532, 9, 227),
  (yX11_adjust, cX11_adjust, 11, 4, some .int, 3, 0, 1546, 1544, 1545, 9, 227),
  (yX11_giveUp, cX11_giveUp, 11, 5, some .int, 4, 0, 1553, 1551, 1552, 9, 227),
  (yX11_allot, cX11_allot, 11, 5, some .int, 5, 0, 1560, 1558, 1559, 9, 227),
  (yX11_exercise, cX11_exercise, 11, 4, some .int, 4, 0, 1571, 1569, 1570, 9, 227),
  (yX11_convert, cX11_convert, 11, 4, some .int, 4, 0, 1579, 1577, 1578, 9, 227),
  (yX11_setMove, cX11_setMove, 11, 4, some .int, 4, 0, 1592, 1590, 1591, 9, 227),
  (yX11_setHaircut, cX11_setHaircut, 11, 2, some .int, 2, 0, 1599, 1597, 1598, 9, 227),
  (yX11_pay, cX11_pay, 11, 4, some .int, 4, 0, 1606, 1604, 1605, 9, 227),
  (yX11_setFund, cX11_setFund, 11, 3, some .int, 3, 0, 1620, 1618, 1619, 9, 227),
  (yX11_fail, cX11_fail, 11, 2, some .int, 2, 0, 1628, 1626, 1627, 9, 227),
  (yX11_bid, cX11_bid, 11, 3, some .int, 3, 0, 1639, 1637, 1638, 9, 227),
  (yX11_closeOut, cX11_closeOut, 11, 1, some .int, 1, 0, 1646, 1644, 1645, 9, 227),
  (yX11_keep, cX11_keep, 11, 1, some .int, 1, 0, 697, 695, 696, 1, 30),
  (yX11_failOver, cX11_failOver, 11, 3, some .int, 1, 0, 701, 699, 700, 9, 227),
  (yX11_events, cX11_events, 11, 1, some .int, 1, 0, 1246, 1244, 1245, 1, 30),
  (yX11_positionByLog, cX11_positionByLog, 11, 3, some .int, 3, 0, 1653, 1651, 1652, 9, 227),
  (yX11_bestByLog, cX11_bestByLog, 11, 3, some .int, 3, 0, 1660, 1658, 1659, 9, 227),
  (yX11_best, cX11_best, 11, 3, some .int, 3, 0, 1668, 1666, 1667, 7, 120),
  (yX11_shown, cX11_shown, 11, 4, some .int, 4, 0, 1675, 1673, 1674, 7, 120),
  (yX11_stateOf, cX11_stateOf, 11, 3, some .int, 2, 0, 1250, 1248, 1249, 2, 55),
  (yX11_rest, cX11_rest, 11, 3, some .int, 2, 0, 1686, 1684, 1685, 6, 100),
  (yX11_priceOf, cX11_priceOf, 11, 3, some .int, 2, 0, 1693, 1691, 1692, 6, 100),
  (yX11_last, cX11_last, 11, 4, some .int, 3, 0, 1700, 1698, 1699, 7, 120),
  (yX11_endOf, cX11_endOf, 11, 3, some .int, 2, 0, 1707, 1705, 1706, 7, 120),
  (yX11_indicated, cX11_indicated, 11, 5, some .int, 3, 0, 1714, 1712, 1713, 7, 134),
  (yX11_trades, cX11_trades, 11, 1, some .int, 1, 0, 1255, 1253, 1254, 1, 30),
  (yX11_trade, cX11_trade, 11, 4, some .int, 3, 0, 1723, 1721, 1722, 7, 122),
  (yX11_position, cX11_position, 11, 3, some .int, 3, 0, 1734, 1732, 1733, 7, 120),
  (yX11_cash, cX11_cash, 11, 2, some .long, 2, 0, 1741, 1739, 1740, 7, 120),
  (yX11_quoted, cX11_quoted, 11, 2, some .int, 2, 0, 1748, 1746, 1747, 7, 120),
  (yX11_member, cX11_member, 11, 3, some .long, 3, 0, 1755, 1753, 1754, 7, 168),
  (yX11_stake, cX11_stake, 11, 1, some .int, 1, 0, 1259, 1257, 1258, 1, 30)]
def mE_2 : List wME := [(yX11_needPlace, cX11_needPlace, 11, 1, none, 1, 1, 1281, 1280, 0, 6, 100),
  (yX11_needRange, cX11_needRange, 11, 1, none, 1, 1, 1358, 1357, 0, 6, 100),
  (yX11_needState, cX11_needState, 11, 1, none, 1, 1, 1402, 1401, 0, 6, 100),
  (yX11_isWithin, cX11_isWithin, 11, 3, some .boolean, 3, 1, 1275, 1274, 0, 1, 30),
  (yX11_isTrader, cX11_isTrader, 11, 1, some .boolean, 1, 1, 1272, 1271, 0, 2, 52),
  (yX11_isBook, cX11_isBook, 11, 1, some .boolean, 1, 1, 1278, 1277, 0, 2, 52),
  (yX11_isContract, cX11_isContract, 11, 1, some .boolean, 1, 1, 1453, 1452, 0, 2, 52),
  (yX11_isMember, cX11_isMember, 11, 1, some .boolean, 1, 1, 1609, 1608, 0, 2, 52),
  (yX11_isQuantity, cX11_isQuantity, 11, 1, some .boolean, 1, 1, 1353, 1352, 0, 2, 52),
  (yX11_keptDeal, cX11_keptDeal, 11, 3, some (.object "Openbook$Deal"), 2, 0, 1537, 1536, 37, 6, 100),
  (yX11_enter, cX11_enter, 11, 9, some .int, 8, 0, 1422, 1421, 36, 1, 30),
  (yX11_play, cX11_play, 11, 11, some .int, 3, 0, 706, 705, 0, 8, 197),
  (yX12_init, cX12_init, 12, 1, none, 1, 0, 1764, 1763, 0, 2, 51),
  (yX12_thrown, cX12_thrown, 12, 1, some .int, 1, 0, 1987, 1985, 1986, 1, 30),
  (yX12_resets, cX12_resets, 12, 2, none, 1, 0, 1769, 1768, 38, 1, 30),
  (yX12_in, cX12_in, 12, 3, some .boolean, 3, 1, 2009, 2008, 0, 1, 30),
  (yX12_abs, cX12_abs, 12, 1, some .int, 1, 1, 2019, 2018, 0, 1, 30),
  (yX12_floor, cX12_floor, 12, 4, some .long, 2, 1, 2324, 2323, 0, 1, 30),
  (yX12_isOpen, cX12_isOpen, 12, 2, some .boolean, 2, 0, 2046, 2045, 48, 1, 30),
  (yX12_isPrice, cX12_isPrice, 12, 2, some .boolean, 2, 1, 2012, 2011, 0, 2, 52),
  (yX12_isNear, cX12_isNear, 12, 3, some .boolean, 3, 0, 2061, 2060, 51, 2, 50),
  (yX12_contractOf, cX12_contractOf, 12, 2, some .int, 2, 1, 2034, 2033, 0, 1, 30),
  (yX12_live, cX12_live, 12, 3, some .int, 1, 0, 2027, 2026, 44, 1, 30),
  (yX12_placeOf, cX12_placeOf, 12, 4, some .int, 2, 0, 2197, 2196, 85, 1, 30),
  (yX12_newOrder, cX12_newOrder, 12, 9, some .int, 8, 0, 2065, 2064, 52, 2, 50),
  (yX12_newTurn, cX12_newTurn, 12, 2, none, 2, 0, 2161, 2160, 76, 1, 30),
  (yX12_showsNow, cX12_showsNow, 12, 2, some .int, 2, 0, 2109, 2108, 63, 1, 30),
  (yX12_showsAnew, cX12_showsAnew, 12, 2, none, 2, 0, 2157, 2156, 75, 1, 30),
  (yX12_comes, cX12_comes, 12, 2, none, 2, 0, 2169, 2168, 78, 2, 51),
  (yX12_restsOf, cX12_restsOf, 12, 8, some .int, 4, 0, 2042, 2041, 47, 2, 51),
  (yX12_isOver, cX12_isOver, 12, 9, some .boolean, 5, 0, 2038, 2037, 46, 3, 78),
  (yX12_isRefused, cX12_isRefused, 12, 6, some .boolean, 4, 0, 2031, 2030, 45, 4, 106),
  (yX12_holds, cX12_holds, 12, 5, none, 5, 0, 2149, 2148, 73, 2, 51),
  (yX12_deals, cX12_deals, 12, 7, none, 6, 0, 2145, 2144, 72, 3, 75),
  (yX12_isKept, cX12_isKept, 12, 2, some .boolean, 2, 0, 2257, 2256, 100, 1, 30),
  (yX12_latest, cX12_latest, 12, 4, some .int, 2, 0, 2253, 2252, 99, 2, 51),
  (yX12_falls, cX12_falls, 12, 4, none, 4, 0, 2153, 2152, 74, 1, 30),
  (yX12_guards, cX12_guards, 12, 4, none, 2, 0, 2165, 2164, 77, 1, 30),
  (yX12_isThere, cX12_isThere, 12, 4, some .boolean, 4, 0, 2054, 2053, 50, 1, 30),
  (yX12_isBetter, cX12_isBetter, 12, 3, some .boolean, 3, 1, 2057, 2056, 0, 1, 30),
  (yX12_bestOf, cX12_bestOf, 12, 6, some .int, 4, 0, 2081, 2080, 56, 2, 53),
  (yX12_isAt, cX12_isAt, 12, 5, some .boolean, 5, 0, 2093, 2092, 59, 2, 53),
  (yX12_behindTurn, cX12_behindTurn, 12, 8, some .int, 5, 0, 2117, 2116, 65, 3, 77),
  (yX12_clearsGets, cX12_clearsGets, 12, 2, none, 1, 0, 2105, 2104, 62, 1, 30),
  (yX12_least, cX12_least, 12, 3, some .int, 3, 0, 2121, 2120, 66, 1, 30),
  (yX12_sharesByTurns, cX12_sharesByTurns, 12, 7, none, 5, 0, 2113, 2112, 64, 4, 104),
  (yX12_sharesBySize, cX12_sharesBySize, 12, 7, none, 5, 0, 2125, 2124, 67, 4, 106),
  (yX12_nextBySize, cX12_nextBySize, 12, 10, some .int, 6, 0, 2129, 2128, 68, 3, 77),
  (yX12_sharesOut, cX12_sharesOut, 12, 12, none, 5, 0, 2133, 2132, 69, 4, 104),
  (yX12_tradesWith, cX12_tradesWith, 12, 7, none, 4, 0, 2141, 2140, 71, 4, 101),
  (yX12_served, cX12_served, 12, 9, some .int, 4, 0, 2137, 2136, 70, 1, 30),
  (yX12_servesAll, cX12_servesAll, 12, 6, none, 3, 0, 2101, 2100, 61, 5, 135),
  (yX12_hasOwn, cX12_hasOwn, 12, 5, some .boolean, 3, 0, 2089, 2088, 58, 3, 77),
  (yX12_removesOwn, cX12_removesOwn, 12, 4, none, 3, 0, 2097, 2096, 60, 3, 77),
  (yX12_beginsAuction, cX12_beginsAuction, 12, 4, none, 4, 0, 2085, 2084, 57, 1, 30),
  (yX12_looks, cX12_looks, 12, 4, some .boolean, 2, 0, 2077, 2076, 55, 6, 160),
  (yX12_matches, cX12_matches, 12, 3, none, 2, 0, 2073, 2072, 54, 7, 183),
  (yX12_enters, cX12_enters, 12, 2, none, 2, 0, 2069, 2068, 53, 8, 205),
  (yX12_readyStop, cX12_readyStop, 12, 4, some .int, 1, 0, 2249, 2248, 98, 2, 51),
  (yX12_firstOf, cX12_firstOf, 12, 7, some .int, 3, 0, 2269, 2268, 103, 3, 78),
  (yX12_canDeal, cX12_canDeal, 12, 5, some .boolean, 5, 0, 2273, 2272, 104, 3, 73),
  (yX12_falls1, cX12_falls1, 12, 3, none, 3, 0, 2277, 2276, 105, 2, 53),
  (yX12_joins, cX12_joins, 12, 12, some .boolean, 3, 0, 2265, 2264, 102, 4, 104),
  (yX12_chains, cX12_chains, 12, 11, some .boolean, 2, 0, 2281, 2280, 106, 4, 104),
  (yX12_combines, cX12_combines, 12, 1, some .boolean, 1, 0, 2261, 2260, 101, 5, 135),
  (yX12_pegs, cX12_pegs, 12, 5, none, 2, 0, 2289, 2288, 108, 3, 78),
  (yX12_pegsAll, cX12_pegsAll, 12, 5, none, 1, 0, 2285, 2284, 107, 4, 102),
  (yX12_works, cX12_works, 12, 3, none, 1, 0, 2245, 2244, 97, 8, 205),
  (yX12_wants, cX12_wants, 12, 6, some .int, 4, 0, 2233, 2232, 94, 2, 53),
  (yX12_finds, cX12_finds, 12, 11, none, 2, 0, 2229, 2228, 93, 3, 78),
  (yX12_firstIn, cX12_firstIn, 12, 8, some .int, 4, 0, 2241, 2240, 96, 2, 53),
  (yX12_tradesAll, cX12_tradesAll, 12, 6, none, 3, 0, 2237, 2236, 95, 4, 101),
  (yX12_endsAuction, cX12_endsAuction, 12, 3, none, 2, 0, 2225, 2224, 92, 9, 227),
  (yX12_hasQuote, cX12_hasQuote, 12, 6, some .boolean, 4, 0, 2221, 2220, 91, 1, 30),
  (yX12_passes, cX12_passes, 12, 5, none, 2, 0, 2217, 2216, 90, 10, 249),
  (yX12_net, cX12_net, 12, 3, some .long, 3, 0, 2360, 2359, 123, 1, 30),
  (yX12_risk, cX12_risk, 12, 8, some .long, 2, 0, 2356, 2355, 122, 2, 52),
  (yX12_worth, cX12_worth, 12, 5, some .long, 2, 0, 2370, 2369, 125, 2, 52),
  (yX12_value, cX12_value, 12, 2, some .long, 2, 0, 2366, 2365, 124, 3, 76),
  (yX12_call, cX12_call, 12, 9, some .long, 4, 0, 2352, 2351, 121, 4, 97),
  (yX12_isAccount, cX12_isAccount, 12, 1, some .boolean, 1, 1, 2006, 2005, 0, 2, 52),
  (yX12_isQuantity, cX12_isQuantity, 12, 2, some .boolean, 2, 0, 2016, 2015, 42, 2, 52),
  (yX12_isShut, cX12_isShut, 12, 4, some .boolean, 4, 0, 2023, 2022, 43, 5, 131),
  (yX12_isEnough, cX12_isEnough, 12, 9, some .boolean, 6, 0, 2050, 2049, 49, 3, 72),
  (yX12_doLimit, cX12_doLimit, 12, 10, some .int, 7, 0, 2003, 2002, 41, 9, 226),
  (yX12_doMarket, cX12_doMarket, 12, 5, some .int, 4, 0, 2173, 2172, 79, 9, 226),
  (yX12_doIceberg, cX12_doIceberg, 12, 7, some .int, 6, 0, 2177, 2176, 80, 9, 226),
  (yX12_doPeg, cX12_doPeg, 12, 7, some .int, 6, 0, 2181, 2180, 81, 6, 154),
  (yX12_doStop, cX12_doStop, 12, 7, some .int, 6, 0, 2185, 2184, 82, 6, 154),
  (yX12_doQuote, cX12_doQuote, 12, 7, some .int, 6, 0, 2189, 2188, 83, 9, 226),
  (yX12_doCancel, cX12_doCancel, 12, 3, some .int, 2, 0, 2193, 2192, 84, 2, 53),
  (yX12_doRule, cX12_doRule, 12, 6, some .int, 5, 0, 2201, 2200, 86, 2, 52),
  (yX12_puts, cX12_puts, 12, 7, some .int, 6, 0, 2205, 2204, 87, 1, 30),
  (yX12_doAuction, cX12_doAuction, 12, 5, some .int, 5, 0, 2209, 2208, 88, 2, 53),
  (yX12_doPass, cX12_doPass, 12, 2, some .int, 2, 0, 2213, 2212, 89, 11, 273),
  (yX12_doEndDay, cX12_doEndDay, 12, 4, some .int, 1, 0, 2293, 2292, 109, 2, 51),
  (yX12_undoes, cX12_undoes, 12, 4, none, 4, 0, 2301, 2300, 111, 3, 75),
  (yX12_doBust, cX12_doBust, 12, 6, some .int, 2, 0, 2297, 2296, 110, 4, 98),
  (yX12_doAdjust, cX12_doAdjust, 12, 5, some .int, 3, 0, 2305, 2304, 112, 3, 74),
  (yX12_doGiveUp, cX12_doGiveUp, 12, 7, some .int, 4, 0, 2309, 2308, 113, 4, 98)]
def mE_3 : List wME := [(yX12_average, cX12_average, 12, 10, some .int, 4, 0, 2321, 2320, 116, 2, 53),
  (yX12_doAllot, cX12_doAllot, 12, 6, some .int, 5, 0, 2317, 2316, 115, 3, 82),
  (yX12_doExercise, cX12_doExercise, 12, 7, some .int, 4, 0, 2328, 2327, 117, 3, 75),
  (yX12_drawn, cX12_drawn, 12, 6, some .int, 2, 0, 2332, 2331, 118, 1, 30),
  (yX12_hasContract, cX12_hasContract, 12, 2, some .boolean, 2, 1, 2341, 2340, 0, 2, 51),
  (yX12_doConvert, cX12_doConvert, 12, 14, some .int, 4, 0, 2336, 2335, 119, 3, 72),
  (yX12_converted, cX12_converted, 12, 4, some .int, 3, 1, 2344, 2343, 0, 1, 30),
  (yX12_callOf, cX12_callOf, 12, 2, some .long, 2, 0, 2375, 2374, 126, 5, 125),
  (yX12_doPay, cX12_doPay, 12, 4, some .long, 4, 0, 2348, 2347, 120, 6, 146),
  (yX12_doFund, cX12_doFund, 12, 4, some .int, 3, 0, 2379, 2378, 127, 2, 52),
  (yX12_doFail, cX12_doFail, 12, 4, some .int, 2, 0, 2383, 2382, 128, 6, 146),
  (yX12_doBid, cX12_doBid, 12, 5, some .int, 3, 0, 2387, 2386, 129, 2, 52),
  (yX12_shares, cX12_shares, 12, 12, some .long, 2, 0, 2415, 2414, 136, 1, 30),
  (yX12_winner, cX12_winner, 12, 3, some .int, 1, 0, 2395, 2394, 131, 1, 30),
  (yX12_covers, cX12_covers, 12, 5, none, 4, 0, 2407, 2406, 134, 1, 30),
  (yX12_upTo, cX12_upTo, 12, 3, some .long, 2, 0, 2403, 2402, 133, 1, 30),
  (yX12_doCloseOut, cX12_doCloseOut, 12, 7, some .int, 1, 0, 2391, 2390, 130, 4, 122),
  (yX12_coversAll, cX12_coversAll, 12, 16, none, 3, 0, 2399, 2398, 132, 3, 87),
  (yX12_coversByFunds, cX12_coversByFunds, 12, 7, none, 4, 0, 2411, 2410, 135, 2, 61),
  (yX12_does, cX12_does, 12, 8, some .long, 8, 0, 1999, 1998, 40, 12, 294),
  (yX12_doesMore, cX12_doesMore, 12, 7, some .long, 6, 0, 2313, 2312, 114, 7, 169),
  (yX12_act, cX12_act, 12, 11, some .int, 8, 0, 1995, 1994, 39, 13, 321),
  (yX12_limit, cX12_limit, 12, 7, some .int, 7, 0, 1991, 1989, 1990, 14, 351),
  (yX12_market, cX12_market, 12, 4, some .int, 4, 0, 2419, 2417, 2418, 14, 351),
  (yX12_iceberg, cX12_iceberg, 12, 6, some .int, 6, 0, 2423, 2421, 2422, 14, 351),
  (yX12_peg, cX12_peg, 12, 6, some .int, 6, 0, 2427, 2425, 2426, 14, 351),
  (yX12_stop, cX12_stop, 12, 6, some .int, 6, 0, 2431, 2429, 2430, 14, 351),
  (yX12_quote, cX12_quote, 12, 6, some .int, 6, 0, 2435, 2433, 2434, 14, 351),
  (yX12_cancel, cX12_cancel, 12, 2, some .int, 2, 0, 2439, 2437, 2438, 14, 351),
  (yX12_setRule, cX12_setRule, 12, 5, some .int, 5, 0, 2443, 2441, 2442, 14, 351),
  (yX12_setBand, cX12_setBand, 12, 3, some .int, 3, 0, 2447, 2445, 2446, 14, 351),
  (yX12_setProtection, cX12_setProtection, 12, 3, some .int, 3, 0, 2451, 2449, 2450, 14, 351),
  (yX12_setLimit, cX12_setLimit, 12, 4, some .int, 4, 0, 2455, 2453, 2454, 14, 351),
  (yX12_auction, cX12_auction, 12, 5, some .int, 5, 0, 2459, 2457, 2458, 14, 351),
  (yX12_pass, cX12_pass, 12, 2, some .int, 2, 0, 2463, 2461, 2462, 14, 351),
  (yX12_endDay, cX12_endDay, 12, 1, some .int, 1, 0, 2467, 2465, 2466, 14, 351),
  (yX12_bust, cX12_bust, 12, 2, some .int, 2, 0, 2471, 2469, 2470, 14, 351),
  (yX12_adjust, cX12_adjust, 12, 3, some .int, 3, 0, 2475, 2473, 2474, 14, 351),
  (yX12_giveUp, cX12_giveUp, 12, 4, some .int, 4, 0, 2479, 2477, 2478, 14, 351),
  (yX12_allot, cX12_allot, 12, 5, some .int, 5, 0, 2483, 2481, 2482, 14, 351),
  (yX12_exercise, cX12_exercise, 12, 4, some .int, 4, 0, 2487, 2485, 2486, 14, 351),
  (yX12_convert, cX12_convert, 12, 4, some .int, 4, 0, 2491, 2489, 2490, 14, 351),
  (yX12_setMove, cX12_setMove, 12, 4, some .int, 4, 0, 2495, 2493, 2494, 14, 351),
  (yX12_setHaircut, cX12_setHaircut, 12, 2, some .int, 2, 0, 2499, 2497, 2498, 14, 351),
  (yX12_pay, cX12_pay, 12, 4, some .int, 4, 0, 2503, 2501, 2502, 14, 351),
  (yX12_setFund, cX12_setFund, 12, 3, some .int, 3, 0, 2507, 2505, 2506, 14, 351),
  (yX12_fail, cX12_fail, 12, 2, some .int, 2, 0, 2511, 2509, 2510, 14, 351),
  (yX12_bid, cX12_bid, 12, 3, some .int, 3, 0, 2515, 2513, 2514, 14, 351),
  (yX12_closeOut, cX12_closeOut, 12, 1, some .int, 1, 0, 2519, 2517, 2518, 14, 351),
  (yX12_keep, cX12_keep, 12, 1, some .int, 1, 0, 2523, 2521, 2522, 1, 30),
  (yX12_failOver, cX12_failOver, 12, 6, some .int, 1, 0, 2527, 2525, 2526, 13, 321),
  (yX12_events, cX12_events, 12, 1, some .int, 1, 0, 2531, 2529, 2530, 1, 30),
  (yX12_positionByLog, cX12_positionByLog, 12, 3, some .int, 3, 0, 2535, 2533, 2534, 3, 74),
  (yX12_bestByLog, cX12_bestByLog, 12, 3, some .int, 3, 0, 2543, 2541, 2542, 4, 100),
  (yX12_isBook, cX12_isBook, 12, 2, some .boolean, 2, 0, 2551, 2550, 137, 2, 52),
  (yX12_best, cX12_best, 12, 3, some .int, 3, 0, 2547, 2545, 2546, 3, 78),
  (yX12_shown, cX12_shown, 12, 6, some .int, 4, 0, 2556, 2554, 2555, 3, 77),
  (yX12_stateOf, cX12_stateOf, 12, 3, some .int, 2, 0, 2560, 2558, 2559, 2, 53),
  (yX12_rest, cX12_rest, 12, 3, some .int, 2, 0, 2564, 2562, 2563, 2, 53),
  (yX12_priceOf, cX12_priceOf, 12, 3, some .int, 2, 0, 2568, 2566, 2567, 2, 53),
  (yX12_last, cX12_last, 12, 3, some .int, 3, 0, 2572, 2570, 2571, 3, 73),
  (yX12_endOf, cX12_endOf, 12, 2, some .int, 2, 0, 2576, 2574, 2575, 3, 73),
  (yX12_indicated, cX12_indicated, 12, 3, some .int, 3, 0, 2580, 2578, 2579, 4, 108),
  (yX12_trades, cX12_trades, 12, 1, some .int, 1, 0, 2584, 2582, 2583, 1, 30),
  (yX12_trade, cX12_trade, 12, 4, some .int, 3, 0, 2588, 2586, 2587, 2, 52),
  (yX12_position, cX12_position, 12, 3, some .int, 3, 0, 2539, 2537, 2538, 2, 52),
  (yX12_cash, cX12_cash, 12, 2, some .long, 2, 0, 2593, 2591, 2592, 2, 52),
  (yX12_quoted, cX12_quoted, 12, 2, some .int, 2, 0, 2597, 2595, 2596, 3, 72),
  (yX12_member, cX12_member, 12, 3, some .long, 3, 0, 2601, 2599, 2600, 6, 146),
  (yX12_stake, cX12_stake, 12, 1, some .int, 1, 0, 2605, 2603, 2604, 1, 30),
  (yJ9_floorDiv_b2ac5, cJ9_floorDiv_b2ac5, 14, 3, some .long, 2, 1, 1118, 1117, 0, 2, 55),
  (yJ9_floorDiv_f86c9, cJ9_floorDiv_f86c9, 14, 6, some .long, 2, 1, 1066, 1065, 0, 1, 30),
  (yJ9_floorMod_7cf53, cJ9_floorMod_7cf53, 14, 3, some .int, 2, 1, 1082, 1081, 0, 1, 30),
  (yJ9_abs_0f7a4, cJ9_abs_0f7a4, 14, 1, some .int, 1, 1, 727, 726, 0, 1, 30),
  (yJ9_abs_067f4, cJ9_abs_067f4, 14, 2, some .long, 1, 1, 1163, 1162, 0, 1, 30),
  (yJ9_max_7cf53, cJ9_max_7cf53, 14, 2, some .int, 2, 1, 961, 960, 0, 1, 30),
  (yJ9_max_f86c9, cJ9_max_f86c9, 14, 4, some .long, 2, 1, 1159, 1158, 0, 1, 30),
  (yJ9_min_7cf53, cJ9_min_7cf53, 14, 2, some .int, 2, 1, 759, 758, 0, 1, 30),
  (yJ9_min_f86c9, cJ9_min_f86c9, 14, 4, some .long, 2, 1, 1224, 1223, 0, 1, 30),
  (yL_limit, cL_limit, 13, 9, some .int, 8, 1, 1262, 1261, 0, 10, 254),
  (yL_market, cL_market, 13, 6, some .int, 5, 1, 1425, 1424, 0, 10, 250),
  (yL_iceberg, cL_iceberg, 13, 8, some .int, 7, 1, 1432, 1431, 0, 10, 252),
  (yL_peg, cL_peg, 13, 8, some .int, 7, 1, 1439, 1438, 0, 10, 252),
  (yL_stop, cL_stop, 13, 8, some .int, 7, 1, 1446, 1445, 0, 10, 252),
  (yL_quote, cL_quote, 13, 8, some .int, 7, 1, 1456, 1455, 0, 10, 253),
  (yL_cancel, cL_cancel, 13, 4, some .int, 3, 1, 1464, 1463, 0, 10, 249),
  (yL_setRule, cL_setRule, 13, 7, some .int, 6, 1, 1476, 1475, 0, 10, 251),
  (yL_setBand, cL_setBand, 13, 5, some .int, 4, 1, 1483, 1482, 0, 10, 249),
  (yL_setProtection, cL_setProtection, 13, 5, some .int, 4, 1, 1490, 1489, 0, 10, 249),
  (yL_setLimit, cL_setLimit, 13, 6, some .int, 5, 1, 1497, 1496, 0, 10, 250),
  (yL_auction, cL_auction, 13, 7, some .int, 6, 1, 1504, 1503, 0, 10, 251),
  (yL_pass, cL_pass, 13, 4, some .int, 3, 1, 1511, 1510, 0, 10, 248),
  (yL_endDay, cL_endDay, 13, 3, some .int, 2, 1, 1518, 1517, 0, 10, 247),
  (yL_bust, cL_bust, 13, 4, some .int, 3, 1, 1529, 1528, 0, 10, 248),
  (yL_adjust, cL_adjust, 13, 5, some .int, 4, 1, 1542, 1541, 0, 10, 250),
  (yL_giveUp, cL_giveUp, 13, 6, some .int, 5, 1, 1549, 1548, 0, 10, 251),
  (yL_allot, cL_allot, 13, 7, some .int, 6, 1, 1556, 1555, 0, 10, 251),
  (yL_exercise, cL_exercise, 13, 6, some .int, 5, 1, 1567, 1566, 0, 10, 250),
  (yL_convert, cL_convert, 13, 6, some .int, 5, 1, 1575, 1574, 0, 10, 250),
  (yL_setMove, cL_setMove, 13, 6, some .int, 5, 1, 1588, 1587, 0, 10, 250)]
def mE_4 : List wME := [(yL_setHaircut, cL_setHaircut, 13, 4, some .int, 3, 1, 1595, 1594, 0, 10, 248),
  (yL_pay, cL_pay, 13, 6, some .int, 5, 1, 1602, 1601, 0, 10, 250),
  (yL_setFund, cL_setFund, 13, 5, some .int, 4, 1, 1616, 1615, 0, 10, 249),
  (yL_fail, cL_fail, 13, 4, some .int, 3, 1, 1624, 1623, 0, 10, 248),
  (yL_bid, cL_bid, 13, 5, some .int, 4, 1, 1635, 1634, 0, 10, 249),
  (yL_closeOut, cL_closeOut, 13, 3, some .int, 2, 1, 1642, 1641, 0, 10, 247),
  (yL_positionByLog, cL_positionByLog, 13, 5, some .int, 4, 1, 1649, 1648, 0, 10, 249),
  (yL_bestByLog, cL_bestByLog, 13, 5, some .int, 4, 1, 1656, 1655, 0, 10, 249),
  (yL_best, cL_best, 13, 5, some .int, 4, 1, 1664, 1663, 0, 8, 142),
  (yL_shown, cL_shown, 13, 6, some .int, 5, 1, 1671, 1670, 0, 8, 143),
  (yL_rest, cL_rest, 13, 4, some .int, 3, 1, 1682, 1681, 0, 7, 122),
  (yL_priceOf, cL_priceOf, 13, 4, some .int, 3, 1, 1689, 1688, 0, 7, 122),
  (yL_last, cL_last, 13, 5, some .int, 4, 1, 1696, 1695, 0, 8, 143),
  (yL_endOf, cL_endOf, 13, 4, some .int, 3, 1, 1703, 1702, 0, 8, 142),
  (yL_indicated, cL_indicated, 13, 5, some .int, 4, 1, 1710, 1709, 0, 8, 158),
  (yL_trade, cL_trade, 13, 5, some .int, 4, 1, 1719, 1718, 0, 8, 145),
  (yL_position, cL_position, 13, 5, some .int, 4, 1, 1730, 1729, 0, 8, 142),
  (yL_cash, cL_cash, 13, 4, some .int, 3, 1, 1737, 1736, 0, 8, 141),
  (yL_quoted, cL_quoted, 13, 4, some .int, 3, 1, 1744, 1743, 0, 8, 141),
  (yL_member, cL_member, 13, 5, some .int, 4, 1, 1751, 1750, 0, 8, 190),
  (yL_law, cL_law, 13, 8, some .boolean, 1, 1, 0, 0, 0, 16, 696)]
def mE : List wME := mE_0 ++ (mE_1 ++ (mE_2 ++ (mE_3 ++ (mE_4))))
def fT_0 : List (Nat × Nat × Nat × Nat × Nat × Nat) := [(1009, 1, 0, 0, 1, 181),
  (4034, 1, 0, 0, 1, 182),
  (7106, 1, 0, 0, 1, 183),
  (1015, 1, 1, 0, 1, 184),
  (3023, 1, 1, 0, 1, 185),
  (42, 1, 1, 0, 1, 186),
  (10073, 1, 1, 0, 1, 187),
  (6093, 1, 1, 0, 1, 188),
  (1019, 1, 2, 0, 1, 189),
  (3029, 1, 2, 0, 1, 190),
  (10078, 1, 2, 0, 1, 191),
  (47, 1, 2, 0, 1, 192),
  (6109, 1, 2, 0, 1, 193),
  (1026, 1, 3, 0, 0, 194),
  (7044, 1, 3, 0, 0, 195),
  (10084, 1, 3, 0, 0, 196),
  (2113, 1, 3, 0, 0, 197),
  (5198, 1, 3, 0, 0, 198),
  (6176, 1, 3, 0, 0, 199),
  (11219, 1, 3, 0, 0, 200),
  (1029, 1, 4, 0, 0, 201),
  (7088, 1, 4, 0, 0, 202),
  (8176, 1, 4, 0, 0, 203),
  (5205, 1, 4, 0, 0, 204),
  (6179, 1, 4, 0, 0, 205),
  (11216, 1, 4, 0, 0, 206),
  (1032, 1, 5, 1, 0, 207),
  (3032, 1, 5, 1, 0, 208),
  (11066, 1, 5, 1, 0, 209),
  (10081, 1, 5, 1, 0, 210),
  (5148, 1, 5, 1, 0, 211),
  (6154, 1, 5, 1, 0, 212),
  (1036, 1, 6, 1, 0, 213),
  (8163, 1, 6, 1, 0, 214),
  (6164, 1, 6, 1, 0, 215),
  (1039, 1, 7, 0, 0, 216),
  (8169, 1, 7, 0, 0, 217),
  (5167, 1, 7, 0, 0, 218),
  (6167, 1, 7, 0, 0, 219),
  (11222, 1, 7, 0, 0, 220),
  (1042, 1, 8, 0, 0, 221),
  (6170, 1, 8, 0, 0, 222),
  (1045, 1, 9, 0, 0, 223),
  (8119, 1, 9, 0, 0, 224),
  (1048, 1, 10, 0, 0, 225),
  (8134, 1, 10, 0, 0, 226),
  (1051, 1, 11, 0, 0, 227),
  (8088, 1, 11, 0, 0, 228),
  (3073, 1, 11, 0, 0, 229),
  (1054, 1, 12, 0, 0, 230),
  (18, 0, 0, 0, 1, 273),
  (4039, 0, 0, 0, 1, 274),
  (7099, 0, 0, 0, 1, 275),
  (11133, 0, 0, 0, 1, 276),
  (22, 0, 1, 0, 1, 277),
  (8050, 0, 1, 0, 1, 278),
  (5067, 0, 1, 0, 1, 279),
  (3080, 0, 1, 0, 1, 280),
  (6138, 0, 1, 0, 1, 281),
  (9, 0, 2, 16, 1, 282),
  (15, 0, 3, 16, 1, 283),
  (25, 0, 4, 2, 0, 284),
  (7091, 0, 4, 2, 0, 285),
  (2121, 0, 4, 2, 0, 286),
  (11245, 0, 4, 2, 0, 287),
  (29, 0, 5, 0, 0, 288),
  (6144, 0, 5, 0, 0, 289),
  (32, 0, 6, 0, 0, 290),
  (5135, 0, 6, 0, 0, 291),
  (6141, 0, 6, 0, 0, 292),
  (35, 0, 7, 1, 0, 293),
  (5138, 0, 7, 1, 0, 294),
  (6147, 0, 7, 1, 0, 295),
  (39, 0, 8, 0, 0, 296),
  (6161, 0, 8, 0, 0, 297),
  (11249, 0, 8, 0, 0, 298),
  (4007, 4, 0, 4, 0, 324),
  (7063, 4, 0, 4, 0, 325),
  (5185, 4, 0, 4, 0, 326),
  (11128, 4, 0, 4, 0, 327),
  (4013, 4, 1, 3, 0, 328),
  (7075, 4, 1, 3, 0, 329),
  (11129, 4, 1, 3, 0, 330),
  (4017, 4, 2, 3, 0, 331),
  (7085, 4, 2, 3, 0, 332),
  (11138, 4, 2, 3, 0, 333),
  (4020, 4, 3, 0, 0, 334),
  (7082, 4, 3, 0, 0, 335),
  (4024, 4, 4, 0, 0, 336),
  (7079, 4, 4, 0, 0, 337),
  (4027, 4, 5, 1, 0, 338),
  (7067, 4, 5, 1, 0, 339),
  (11123, 4, 5, 1, 0, 340),
  (4031, 4, 6, 1, 0, 341),
  (7032, 4, 6, 1, 0, 342),
  (7011, 7, 0, 19, 1, 358),
  (7019, 7, 1, 21, 1, 359),
  (7036, 7, 2, 0, 0, 360),
  (11239, 7, 2, 0, 0, 361),
  (10019, 10, 0, 0, 0, 386)]
def fT_1 : List (Nat × Nat × Nat × Nat × Nat × Nat) := [(6045, 10, 0, 0, 0, 387),
  (5116, 10, 0, 0, 0, 388),
  (10023, 10, 1, 0, 0, 389),
  (5122, 10, 1, 0, 0, 390),
  (6076, 10, 1, 0, 0, 391),
  (10026, 10, 2, 0, 0, 392),
  (6029, 10, 2, 0, 0, 393),
  (8072, 10, 2, 0, 0, 394),
  (5107, 10, 2, 0, 0, 395),
  (11207, 10, 2, 0, 0, 396),
  (10009, 10, 3, 3, 0, 397),
  (8046, 10, 3, 3, 0, 398),
  (3076, 10, 3, 3, 0, 399),
  (6115, 10, 3, 3, 0, 400),
  (10015, 10, 4, 4, 0, 401),
  (8034, 10, 4, 4, 0, 402),
  (11102, 10, 4, 4, 0, 403),
  (5144, 10, 4, 4, 0, 404),
  (6130, 10, 4, 4, 0, 405),
  (10029, 10, 5, 1, 0, 406),
  (8038, 10, 5, 1, 0, 407),
  (6151, 10, 5, 1, 0, 408),
  (10033, 10, 6, 0, 0, 409),
  (8110, 10, 6, 0, 0, 410),
  (6052, 10, 6, 0, 0, 411),
  (10037, 10, 7, 0, 0, 412),
  (8056, 10, 7, 0, 0, 413),
  (3040, 10, 7, 0, 0, 414),
  (6055, 10, 7, 0, 0, 415),
  (11213, 10, 7, 0, 0, 416),
  (10040, 10, 8, 0, 0, 417),
  (8113, 10, 8, 0, 0, 418),
  (6173, 10, 8, 0, 0, 419),
  (10049, 10, 9, 0, 0, 420),
  (8068, 10, 9, 0, 0, 421),
  (6123, 10, 9, 0, 0, 422),
  (11210, 10, 9, 0, 0, 423),
  (10052, 10, 10, 0, 0, 424),
  (5119, 10, 10, 0, 0, 425),
  (10055, 10, 11, 0, 0, 426),
  (3049, 10, 11, 0, 0, 427),
  (8122, 10, 11, 0, 0, 428),
  (6062, 10, 11, 0, 0, 429),
  (10058, 10, 12, 0, 0, 430),
  (8125, 10, 12, 0, 0, 431),
  (6068, 10, 12, 0, 0, 432),
  (10061, 10, 13, 0, 0, 433),
  (5125, 10, 13, 0, 0, 434),
  (6205, 10, 13, 0, 0, 435),
  (10064, 10, 14, 0, 0, 436),
  (5128, 10, 14, 0, 0, 437),
  (10067, 10, 15, 0, 0, 438),
  (5236, 10, 15, 0, 0, 439),
  (6185, 10, 15, 0, 0, 440),
  (10070, 10, 16, 1, 0, 441),
  (6188, 10, 16, 1, 0, 442),
  (6017, 6, 0, 20, 1, 478),
  (5163, 6, 0, 20, 1, 479),
  (6011, 6, 1, 23, 1, 480),
  (8029, 6, 1, 23, 1, 481),
  (6033, 6, 2, 0, 0, 482),
  (11108, 6, 2, 0, 0, 483),
  (5157, 6, 2, 0, 0, 484),
  (8166, 6, 2, 0, 0, 485),
  (6036, 6, 3, 0, 0, 486),
  (5096, 6, 3, 0, 0, 487),
  (6039, 6, 4, 0, 0, 488),
  (5141, 6, 4, 0, 0, 489),
  (6042, 6, 5, 0, 0, 490),
  (8021, 8, 0, 9, 1, 511),
  (8025, 8, 1, 10, 1, 512),
  (8011, 8, 2, 23, 1, 513),
  (8017, 8, 3, 16, 1, 514),
  (3007, 3, 0, 9, 1, 530),
  (3013, 3, 1, 10, 1, 531),
  (9007, 9, 0, 0, 0, 552),
  (2066, 9, 0, 0, 0, 553),
  (9013, 9, 1, 0, 0, 554),
  (2055, 9, 1, 0, 0, 555),
  (9016, 9, 2, 0, 0, 556),
  (2073, 9, 2, 0, 0, 557),
  (9019, 9, 3, 1, 0, 558),
  (5077, 9, 3, 1, 0, 559),
  (2076, 9, 3, 1, 0, 560),
  (11176, 9, 3, 1, 0, 561),
  (9026, 9, 4, 1, 0, 562),
  (2136, 9, 4, 1, 0, 563),
  (9029, 9, 5, 0, 0, 564),
  (2139, 9, 5, 0, 0, 565),
  (2166, 9, 6, 0, 0, 566),
  (2187, 9, 7, 2, 0, 567),
  (2193, 9, 8, 2, 0, 568),
  (2022, 2, 0, 9, 1, 588),
  (2026, 2, 1, 10, 1, 589),
  (2011, 2, 2, 22, 1, 590),
  (2019, 2, 3, 24, 1, 591),
  (2034, 2, 4, 0, 0, 592),
  (2038, 2, 5, 0, 0, 593),
  (11255, 2, 5, 0, 0, 594),
  (2042, 2, 6, 0, 0, 595)]
def fT_2 : List (Nat × Nat × Nat × Nat × Nat × Nat) := [(11184, 2, 6, 0, 0, 596),
  (2163, 2, 7, 2, 0, 597),
  (2156, 2, 8, 0, 0, 598),
  (5034, 5, 0, 9, 1, 655),
  (11034, 5, 0, 9, 1, 656),
  (5019, 5, 1, 10, 1, 657),
  (11141, 5, 1, 10, 1, 658),
  (5043, 5, 2, 11, 1, 659),
  (11225, 5, 2, 11, 1, 660),
  (5050, 5, 3, 6, 1, 661),
  (5057, 5, 4, 5, 1, 662),
  (11163, 5, 4, 5, 1, 663),
  (11010, 11, 0, 8, 1, 675),
  (11016, 11, 1, 8, 1, 676),
  (11019, 11, 2, 16, 1, 677),
  (11187, 11, 3, 0, 0, 678),
  (11190, 11, 4, 0, 0, 679),
  (11196, 11, 5, 0, 0, 680),
  (12180, 12, 0, 0, 0, 1771),
  (12007, 12, 1, 16, 1, 1772),
  (12013, 12, 2, 17, 1, 1773),
  (12017, 12, 3, 16, 1, 1774),
  (12020, 12, 4, 16, 1, 1775),
  (12023, 12, 5, 16, 1, 1776),
  (12026, 12, 6, 18, 1, 1777),
  (12030, 12, 7, 16, 1, 1778),
  (12033, 12, 8, 16, 1, 1779),
  (12036, 12, 9, 16, 1, 1780),
  (12039, 12, 10, 16, 1, 1781),
  (12042, 12, 11, 16, 1, 1782),
  (12045, 12, 12, 16, 1, 1783),
  (12048, 12, 13, 16, 1, 1784),
  (12051, 12, 14, 16, 1, 1785),
  (12054, 12, 15, 16, 1, 1786),
  (12057, 12, 16, 18, 1, 1787),
  (12194, 12, 17, 0, 0, 1788),
  (12197, 12, 18, 0, 0, 1789),
  (12060, 12, 19, 18, 1, 1790),
  (12063, 12, 20, 16, 1, 1791),
  (12066, 12, 21, 16, 1, 1792),
  (12069, 12, 22, 16, 1, 1793),
  (12072, 12, 23, 18, 1, 1794),
  (12075, 12, 24, 16, 1, 1795),
  (12078, 12, 25, 18, 1, 1796),
  (12081, 12, 26, 16, 1, 1797),
  (12084, 12, 27, 16, 1, 1798),
  (12087, 12, 28, 16, 1, 1799),
  (12090, 12, 29, 16, 1, 1800),
  (12093, 12, 30, 16, 1, 1801),
  (12096, 12, 31, 16, 1, 1802),
  (12099, 12, 32, 16, 1, 1803),
  (12102, 12, 33, 16, 1, 1804),
  (12105, 12, 34, 16, 1, 1805),
  (12108, 12, 35, 16, 1, 1806),
  (12111, 12, 36, 16, 1, 1807),
  (12114, 12, 37, 18, 1, 1808),
  (12117, 12, 38, 16, 1, 1809),
  (12200, 12, 39, 0, 0, 1810),
  (12203, 12, 40, 0, 0, 1811),
  (12120, 12, 41, 16, 1, 1812),
  (12123, 12, 42, 16, 1, 1813),
  (12126, 12, 43, 16, 1, 1814),
  (12129, 12, 44, 16, 1, 1815),
  (12132, 12, 45, 16, 1, 1816),
  (12135, 12, 46, 18, 1, 1817),
  (12138, 12, 47, 18, 1, 1818),
  (12206, 12, 48, 0, 0, 1819),
  (12141, 12, 49, 16, 1, 1820),
  (12185, 12, 50, 0, 0, 1821),
  (12144, 12, 51, 16, 1, 1822),
  (12147, 12, 52, 16, 1, 1823),
  (12150, 12, 53, 16, 1, 1824),
  (12153, 12, 54, 18, 1, 1825),
  (12156, 12, 55, 18, 1, 1826),
  (12159, 12, 56, 16, 1, 1827),
  (12188, 12, 57, 0, 0, 1828),
  (12191, 12, 58, 0, 0, 1829),
  (12162, 12, 59, 16, 1, 1830),
  (12591, 12, 60, 0, 0, 1831),
  (12598, 12, 61, 0, 0, 1832),
  (12165, 12, 62, 16, 1, 1833),
  (12168, 12, 63, 16, 1, 1834),
  (12375, 12, 64, 0, 0, 1835),
  (12372, 12, 65, 0, 0, 1836),
  (12171, 12, 66, 17, 1, 1837),
  (12174, 12, 67, 17, 1, 1838),
  (12482, 12, 68, 0, 0, 1839),
  (12485, 12, 69, 2, 0, 1840)]
def fT : List (Nat × Nat × Nat × Nat × Nat × Nat) := fT_0 ++ (fT_1 ++ (fT_2))
def mT_0 : List (Nat × Nat × Nat × Nat) := [(13149, 152, 2, 161),
  (11001, 0, 4, 164),
  (11009, 56, 2, 169),
  (5003, 0, 4, 172),
  (5011, 8, 2, 176),
  (1003, 0, 4, 179),
  (5016, 103, 2, 260),
  (7003, 0, 4, 263),
  (7023, 0, 2, 269),
  (3, 0, 4, 272),
  (7026, 52, 2, 320),
  (4001, 0, 4, 323),
  (5027, 105, 0, 371),
  (5031, 72, 2, 375),
  (6003, 0, 4, 378),
  (6021, 142, 2, 382),
  (10003, 0, 4, 385),
  (5040, 121, 2, 506),
  (8003, 0, 4, 509),
  (5049, 46, 2, 526),
  (3001, 0, 4, 529),
  (5056, 17, 2, 539),
  (2003, 0, 4, 542),
  (2030, 139, 3, 548),
  (9001, 0, 4, 551),
  (5061, 57, 0, 618),
  (5064, 73, 0, 622),
  (6024, 9, 0, 626),
  (1022, 10, 0, 630),
  (5065, 104, 0, 634),
  (7029, 1, 0, 638),
  (5066, 18, 0, 642),
  (2031, 140, 0, 646),
  (9023, 141, 0, 650),
  (13247, 180, 0, 694),
  (13251, 181, 0, 698),
  (11193, 57, 0, 702),
  (11080, 211, 0, 703),
  (11274, 59, 0, 707),
  (5087, 74, 0, 712),
  (5099, 77, 0, 716),
  (6048, 143, 0, 720),
  (10043, 373, 1, 725),
  (5103, 122, 0, 728),
  (8042, 144, 0, 732),
  (8059, 145, 0, 736),
  (8063, 13, 0, 740),
  (1057, 373, 1, 744),
  (5112, 65, 0, 745),
  (5151, 78, 0, 749),
  (6058, 150, 0, 753),
  (10087, 377, 1, 757),
  (6065, 79, 0, 760),
  (5154, 123, 0, 764),
  (8075, 81, 0, 769),
  (6072, 144, 0, 774),
  (6079, 146, 0, 775),
  (8080, 94, 0, 780),
  (8084, 125, 0, 784),
  (8091, 126, 0, 788),
  (8095, 127, 0, 792),
  (8128, 377, 1, 796),
  (8137, 128, 0, 797),
  (8141, 129, 0, 801),
  (8099, 130, 0, 805),
  (8145, 106, 0, 809),
  (7040, 53, 0, 813),
  (7049, 5, 0, 817),
  (8151, 151, 0, 821),
  (8155, 90, 0, 825),
  (8103, 80, 0, 829),
  (8107, 124, 0, 833),
  (8116, 78, 0, 837),
  (11278, 60, 0, 838),
  (11282, 61, 0, 842),
  (11286, 62, 0, 846),
  (11289, 63, 0, 850),
  (11292, 64, 0, 854),
  (5131, 87, 0, 858),
  (11295, 86, 0, 862),
  (6126, 75, 0, 866),
  (11038, 74, 0, 870),
  (11298, 15, 0, 871),
  (11301, 16, 0, 875),
  (11150, 105, 0, 879),
  (11304, 6, 0, 880),
  (11307, 7, 0, 884),
  (50, 3, 0, 888),
  (11311, 94, 0, 892),
  (11315, 66, 0, 893),
  (5160, 91, 0, 897),
  (6157, 92, 0, 901),
  (5170, 131, 0, 905),
  (8159, 135, 0, 909),
  (8195, 137, 0, 913),
  (8199, 138, 0, 917),
  (8203, 373, 1, 921),
  (8207, 136, 1, 922),
  (8172, 132, 0, 925),
  (8183, 133, 0, 929)]
def mT_1 : List (Nat × Nat × Nat × Nat) := [(8187, 134, 0, 933),
  (8191, 146, 0, 937),
  (8179, 95, 0, 938),
  (5174, 71, 0, 942),
  (5228, 97, 0, 947),
  (6182, 148, 0, 951),
  (5232, 108, 0, 955),
  (7053, 375, 1, 959),
  (7059, 107, 0, 962),
  (5239, 47, 0, 967),
  (3017, 74, 0, 971),
  (3036, 82, 0, 972),
  (6083, 81, 0, 976),
  (3045, 49, 1, 977),
  (3066, 11, 0, 980),
  (3070, 13, 0, 984),
  (3052, 377, 1, 985),
  (3058, 50, 0, 986),
  (3085, 106, 0, 990),
  (3062, 51, 0, 991),
  (3090, 151, 0, 995),
  (3094, 90, 0, 996),
  (3098, 80, 0, 997),
  (5243, 48, 0, 998),
  (5247, 99, 0, 1002),
  (6194, 100, 0, 1006),
  (6197, 101, 0, 1010),
  (6208, 377, 1, 1014),
  (6212, 375, 1, 1015),
  (6215, 11, 0, 1016),
  (6201, 102, 0, 1017),
  (6191, 149, 0, 1021),
  (11318, 96, 0, 1025),
  (11321, 67, 0, 1029),
  (5177, 109, 0, 1033),
  (7071, 108, 0, 1037),
  (5181, 107, 0, 1038),
  (5188, 98, 0, 1039),
  (11324, 110, 0, 1043),
  (11327, 111, 0, 1047),
  (7095, 105, 0, 1051),
  (11331, 114, 0, 1052),
  (7115, 112, 0, 1056),
  (7102, 54, 0, 1060),
  (7107, 371, 1, 1064),
  (7111, 2, 0, 1067),
  (7119, 4, 0, 1071),
  (11335, 115, 0, 1075),
  (7125, 372, 1, 1080),
  (7128, 116, 0, 1083),
  (11338, 68, 0, 1087),
  (5192, 88, 0, 1091),
  (6134, 12, 0, 1095),
  (5195, 120, 0, 1099),
  (7144, 12, 0, 1103),
  (5201, 69, 1, 1104),
  (5212, 377, 1, 1107),
  (5218, 375, 1, 1108),
  (5208, 119, 0, 1109),
  (7131, 118, 1, 1113),
  (7141, 370, 1, 1116),
  (14143, 371, 1, 1119),
  (11341, 31, 0, 1120),
  (2086, 24, 0, 1124),
  (11344, 32, 0, 1128),
  (11347, 30, 0, 1132),
  (2051, 19, 0, 1136),
  (2069, 28, 0, 1140),
  (2107, 74, 0, 1144),
  (2133, 371, 1, 1146),
  (2058, 25, 0, 1147),
  (2090, 23, 0, 1151),
  (2045, 105, 0, 1155),
  (2080, 2, 0, 1156),
  (2093, 376, 1, 1157),
  (2101, 374, 1, 1161),
  (2062, 27, 0, 1165),
  (2118, 20, 0, 1169),
  (2125, 21, 0, 1173),
  (2128, 26, 0, 1177),
  (11350, 33, 0, 1181),
  (11353, 70, 0, 1185),
  (5221, 35, 0, 1189),
  (5224, 89, 0, 1193),
  (11356, 36, 0, 1197),
  (11359, 38, 0, 1201),
  (2142, 37, 0, 1205),
  (2146, 39, 0, 1209),
  (2159, 4, 0, 1213),
  (2150, 40, 0, 1214),
  (2169, 41, 0, 1218),
  (2180, 378, 1, 1222),
  (2173, 42, 0, 1225),
  (2177, 44, 0, 1229),
  (2183, 43, 0, 1233),
  (2190, 45, 0, 1237),
  (2153, 141, 0, 1241),
  (11362, 71, 0, 1242),
  (13255, 182, 0, 1243),
  (13272, 187, 0, 1247)]
def mT_2 : List (Nat × Nat × Nat × Nat) := [(11091, 75, 0, 1251),
  (13291, 193, 0, 1252),
  (13310, 199, 0, 1256),
  (13153, 379, 1, 1260),
  (13007, 153, 0, 1266),
  (11023, 204, 1, 1270),
  (11059, 203, 1, 1273),
  (11027, 205, 1, 1276),
  (11030, 200, 1, 1279),
  (11044, 11, 0, 1350),
  (11049, 208, 1, 1351),
  (11052, 373, 1, 1354),
  (11063, 201, 1, 1356),
  (11070, 58, 0, 1375),
  (5073, 19, 0, 1379),
  (5083, 76, 0, 1380),
  (5091, 84, 0, 1384),
  (6087, 373, 1, 1388),
  (6096, 85, 0, 1389),
  (6112, 2, 0, 1393),
  (6119, 147, 0, 1394),
  (6100, 3, 0, 1398),
  (6105, 10, 0, 1399),
  (11073, 202, 1, 1400),
  (11076, 210, 0, 1419),
  (13162, 380, 1, 1423),
  (13019, 154, 0, 1426),
  (13166, 381, 1, 1430),
  (13023, 155, 0, 1433),
  (13170, 382, 1, 1437),
  (13027, 156, 0, 1440),
  (13173, 383, 1, 1444),
  (13030, 157, 0, 1447),
  (11084, 206, 1, 1451),
  (13176, 384, 1, 1454),
  (13033, 158, 0, 1457),
  (11087, 76, 0, 1461),
  (13179, 385, 1, 1462),
  (13036, 159, 0, 1465),
  (11112, 14, 0, 1470),
  (13183, 386, 1, 1474),
  (13040, 160, 0, 1477),
  (13187, 387, 1, 1481),
  (13044, 161, 0, 1484),
  (13191, 388, 1, 1488),
  (13048, 162, 0, 1491),
  (13194, 389, 1, 1495),
  (13051, 163, 0, 1498),
  (13197, 390, 1, 1502),
  (13054, 164, 0, 1505),
  (13200, 391, 1, 1509),
  (13057, 165, 0, 1512),
  (13203, 392, 1, 1516),
  (13060, 166, 0, 1519),
  (11115, 93, 0, 1523),
  (13207, 393, 1, 1527),
  (13064, 167, 0, 1530),
  (11119, 209, 0, 1534),
  (11270, 107, 0, 1538),
  (13210, 394, 1, 1540),
  (13067, 168, 0, 1543),
  (13213, 395, 1, 1547),
  (13070, 169, 0, 1550),
  (13217, 396, 1, 1554),
  (13074, 170, 0, 1557),
  (11145, 113, 0, 1561),
  (13220, 397, 1, 1565),
  (13077, 171, 0, 1568),
  (11154, 2, 0, 1572),
  (13223, 398, 1, 1573),
  (13080, 172, 0, 1576),
  (11157, 117, 0, 1580),
  (7135, 374, 1, 1584),
  (13226, 399, 1, 1586),
  (13083, 173, 0, 1589),
  (13229, 400, 1, 1593),
  (13086, 174, 0, 1596),
  (13232, 401, 1, 1600),
  (13089, 175, 0, 1603),
  (11160, 207, 1, 1607),
  (11167, 29, 0, 1610),
  (13235, 402, 1, 1614),
  (13092, 176, 0, 1617),
  (11172, 19, 0, 1621),
  (13238, 403, 1, 1622),
  (13095, 177, 0, 1625),
  (11181, 34, 0, 1629),
  (13241, 404, 1, 1633),
  (13098, 178, 0, 1636),
  (13244, 405, 1, 1640),
  (13101, 179, 0, 1643),
  (13259, 406, 1, 1647),
  (13104, 183, 0, 1650),
  (13262, 407, 1, 1654),
  (13107, 184, 0, 1657),
  (11199, 81, 0, 1661),
  (13266, 408, 1, 1662),
  (13111, 185, 0, 1665),
  (13269, 409, 1, 1669),
  (13114, 186, 0, 1672)]
def mT_3 : List (Nat × Nat × Nat × Nat) := [(11203, 83, 0, 1676),
  (13276, 410, 1, 1680),
  (13117, 188, 0, 1683),
  (13279, 411, 1, 1687),
  (13120, 189, 0, 1690),
  (13282, 412, 1, 1694),
  (13123, 190, 0, 1697),
  (13285, 413, 1, 1701),
  (13126, 191, 0, 1704),
  (13288, 414, 1, 1708),
  (13129, 192, 0, 1711),
  (11229, 135, 0, 1715),
  (11235, 137, 0, 1716),
  (13295, 415, 1, 1717),
  (13132, 194, 0, 1720),
  (11242, 55, 0, 1724),
  (13298, 416, 1, 1728),
  (13135, 195, 0, 1731),
  (13301, 417, 1, 1735),
  (13138, 196, 0, 1738),
  (13304, 418, 1, 1742),
  (13142, 197, 0, 1745),
  (13307, 419, 1, 1749),
  (13145, 198, 0, 1752),
  (11252, 22, 0, 1756),
  (13152, 212, 2, 1762),
  (12001, 0, 4, 1765),
  (12177, 214, 0, 1766),
  (13159, 213, 0, 1984),
  (13158, 322, 0, 1988),
  (12594, 321, 0, 1992),
  (12587, 319, 0, 1996),
  (12509, 284, 0, 2000),
  (12429, 280, 1, 2004),
  (12209, 215, 1, 2007),
  (12334, 219, 1, 2010),
  (12432, 281, 0, 2013),
  (12213, 216, 1, 2017),
  (12435, 282, 0, 2020),
  (12423, 222, 0, 2024),
  (12426, 231, 0, 2028),
  (12224, 221, 1, 2032),
  (12232, 230, 0, 2035),
  (12228, 229, 0, 2039),
  (12328, 218, 0, 2043),
  (12438, 283, 0, 2047),
  (12244, 238, 0, 2051),
  (12248, 239, 1, 2055),
  (12305, 220, 0, 2058),
  (12442, 224, 0, 2062),
  (12446, 257, 0, 2066),
  (12331, 256, 0, 2070),
  (12322, 255, 0, 2074),
  (12301, 240, 0, 2078),
  (12309, 254, 0, 2082),
  (12312, 252, 0, 2086),
  (12251, 241, 0, 2090),
  (12315, 253, 0, 2094),
  (12319, 251, 0, 2098),
  (12280, 243, 0, 2102),
  (12258, 226, 0, 2106),
  (12283, 245, 0, 2110),
  (12254, 242, 0, 2114),
  (12261, 244, 0, 2118),
  (12287, 246, 0, 2122),
  (12265, 247, 0, 2126),
  (12290, 248, 0, 2130),
  (12293, 250, 0, 2134),
  (12297, 249, 0, 2138),
  (12269, 233, 0, 2142),
  (12236, 232, 0, 2146),
  (12273, 236, 0, 2150),
  (12217, 227, 0, 2154),
  (12221, 225, 0, 2158),
  (12277, 237, 0, 2162),
  (12325, 228, 0, 2166),
  (12513, 285, 0, 2170),
  (12516, 286, 0, 2174),
  (12520, 287, 0, 2178),
  (12523, 288, 0, 2182),
  (12526, 289, 0, 2186),
  (12529, 290, 0, 2190),
  (12449, 223, 0, 2194),
  (12532, 291, 0, 2198),
  (12536, 292, 0, 2202),
  (12540, 293, 0, 2206),
  (12543, 294, 0, 2210),
  (12452, 274, 0, 2214),
  (12393, 273, 0, 2218),
  (12396, 272, 0, 2222),
  (12384, 269, 0, 2226),
  (12378, 268, 0, 2230),
  (12387, 271, 0, 2234),
  (12381, 270, 0, 2238),
  (12390, 267, 0, 2242),
  (12358, 258, 0, 2246),
  (12362, 235, 0, 2250),
  (12240, 234, 0, 2254),
  (12365, 264, 0, 2258),
  (12347, 262, 0, 2262)]
def mT_4 : List (Nat × Nat × Nat × Nat) := [(12337, 259, 0, 2266),
  (12340, 260, 0, 2270),
  (12344, 261, 0, 2274),
  (12351, 263, 0, 2278),
  (12369, 266, 0, 2282),
  (12355, 265, 0, 2286),
  (12546, 295, 0, 2290),
  (12549, 297, 0, 2294),
  (12455, 296, 0, 2298),
  (12552, 298, 0, 2302),
  (12555, 299, 0, 2306),
  (12558, 320, 0, 2310),
  (12562, 301, 0, 2314),
  (12458, 300, 0, 2318),
  (12419, 217, 1, 2322),
  (12565, 302, 0, 2325),
  (12461, 303, 0, 2329),
  (12568, 305, 0, 2333),
  (12468, 304, 1, 2339),
  (12471, 306, 1, 2342),
  (12571, 308, 0, 2345),
  (12475, 279, 0, 2349),
  (12411, 276, 0, 2353),
  (12399, 275, 0, 2357),
  (12414, 278, 0, 2363),
  (12407, 277, 0, 2367),
  (12479, 307, 0, 2372),
  (12575, 309, 0, 2376),
  (12578, 310, 0, 2380),
  (12581, 311, 0, 2384),
  (12584, 316, 0, 2388),
  (12489, 313, 0, 2392),
  (12492, 317, 0, 2396),
  (12495, 315, 0, 2400),
  (12499, 314, 0, 2404),
  (12503, 318, 0, 2408),
  (12506, 312, 0, 2412),
  (13165, 323, 0, 2416),
  (13169, 324, 0, 2420),
  (13172, 325, 0, 2424),
  (13175, 326, 0, 2428),
  (13178, 327, 0, 2432),
  (13182, 328, 0, 2436),
  (13186, 329, 0, 2440),
  (13190, 330, 0, 2444),
  (13193, 331, 0, 2448),
  (13196, 332, 0, 2452),
  (13199, 333, 0, 2456),
  (13202, 334, 0, 2460),
  (13206, 335, 0, 2464),
  (13209, 336, 0, 2468),
  (13212, 337, 0, 2472),
  (13216, 338, 0, 2476),
  (13219, 339, 0, 2480),
  (13222, 340, 0, 2484),
  (13225, 341, 0, 2488),
  (13228, 342, 0, 2492),
  (13231, 343, 0, 2496),
  (13234, 344, 0, 2500),
  (13237, 345, 0, 2504),
  (13240, 346, 0, 2508),
  (13243, 347, 0, 2512),
  (13246, 348, 0, 2516),
  (13250, 349, 0, 2520),
  (13254, 350, 0, 2524),
  (13258, 351, 0, 2528),
  (13261, 352, 0, 2532),
  (12601, 365, 0, 2536),
  (13265, 353, 0, 2540),
  (12604, 355, 0, 2544),
  (12607, 354, 0, 2548),
  (13268, 355, 0, 2552),
  (13271, 356, 0, 2553),
  (13275, 357, 0, 2557),
  (13278, 358, 0, 2561),
  (13281, 359, 0, 2565),
  (13284, 360, 0, 2569),
  (13287, 361, 0, 2573),
  (13290, 362, 0, 2577),
  (13294, 363, 0, 2581),
  (13297, 364, 0, 2585),
  (13300, 365, 0, 2589),
  (13303, 366, 0, 2590),
  (13306, 367, 0, 2594),
  (13309, 368, 0, 2598),
  (13313, 369, 0, 2602)]
def mT : List (Nat × Nat × Nat × Nat) := mT_0 ++ (mT_1 ++ (mT_2 ++ (mT_3 ++ (mT_4))))
def kT_0 : List (Nat × Nat × Nat) := [(13008, 11, 159),
  (11007, 5, 167),
  (5009, 1, 173),
  (5014, 7, 258),
  (7009, 0, 264),
  (7017, 4, 266),
  (5025, 6, 369),
  (6009, 10, 379),
  (5038, 8, 504),
  (8009, 10, 510),
  (5047, 3, 524),
  (5054, 2, 537),
  (2009, 9, 543),
  (2017, 21, 545),
  (13013, 100, 1263),
  (13015, 101, 1264),
  (13017, 102, 1265),
  (11095, 100, 1282),
  (11260, 101, 1359),
  (11265, 102, 1403),
  (13150, 12, 1760)]
def kT : List (Nat × Nat × Nat) := kT_0
def cT_0 : List (Nat × Int × Nat) := [(1018, -100000, 180),
  (2041, -100000, 654),
  (5095, -100000, 711),
  (10036, -100000, 724),
  (8071, 1000000, 768),
  (6071, -100000, 773),
  (8079, -100000, 779),
  (5227, 1000000, 946),
  (7070, -100000, 966),
  (11058, -100000, 1355),
  (12184, -100000, 1770)]
def cT : List (Nat × Int × Nat) := cT_0
def lT_0 : List (Nat × Int × Nat) := [(7123, 100, 1079),
  (2131, 100, 1145),
  (2099, 5, 1160),
  (2105, 30, 1164),
  (7139, 1000000, 1585),
  (12464, 1000000, 2337),
  (12466, -1000000, 2338),
  (12403, 30, 2361),
  (12405, 5, 2362),
  (12417, 100, 2371)]
def lT : List (Nat × Int × Nat) := lT_0
def sT_0 : List (Nat × String × Nat) := [(11258, "no such thing", 1323),
  (11262, "out of range", 1368),
  (11267, "not as things stand", 1412),
  (11097, "no such live order", 1469),
  (11272, "no such kept trade", 1539)]
def sT : List (Nat × String × Nat) := sT_0
def aT_0 : List (Nat × Nat × Nat × Nat) := [(3, 11, 1, 6),
  (0, 5, 1, 5),
  (0, 17, 1, 6),
  (0, 1, 1, 13),
  (0, 1, 2, 13),
  (0, 1, 3, 13),
  (0, 1, 4, 13),
  (0, 1, 5, 13),
  (0, 1, 6, 13),
  (0, 7, 1, 3),
  (0, 16, 1, 9),
  (0, 18, 1, 60),
  (0, 0, 1, 9),
  (0, 13, 1, 4),
  (0, 13, 2, 4),
  (0, 0, 2, 9),
  (0, 13, 3, 4),
  (0, 13, 4, 4),
  (0, 0, 3, 9),
  (0, 13, 5, 4),
  (0, 13, 6, 4),
  (0, 0, 4, 9),
  (0, 13, 7, 4),
  (0, 13, 8, 4),
  (0, 0, 5, 9),
  (0, 13, 9, 4),
  (0, 13, 10, 4),
  (0, 0, 6, 9),
  (0, 13, 11, 4),
  (0, 13, 12, 4),
  (0, 0, 7, 9),
  (0, 13, 13, 4),
  (0, 13, 14, 4),
  (0, 0, 8, 9),
  (0, 13, 15, 4),
  (0, 13, 16, 4),
  (0, 0, 9, 9),
  (0, 13, 17, 4),
  (0, 13, 18, 4),
  (0, 4, 1, 7),
  (0, 4, 2, 7),
  (0, 4, 3, 7),
  (0, 4, 4, 7),
  (0, 4, 5, 7),
  (0, 4, 6, 7),
  (0, 4, 7, 7),
  (0, 4, 8, 7),
  (0, 4, 9, 7),
  (0, 4, 10, 7),
  (0, 4, 11, 7),
  (0, 4, 12, 7),
  (0, 4, 13, 7),
  (0, 4, 14, 7),
  (0, 4, 15, 7),
  (0, 4, 16, 7),
  (0, 4, 17, 7),
  (0, 4, 18, 7),
  (0, 4, 19, 7),
  (0, 4, 20, 7),
  (0, 4, 21, 7),
  (0, 4, 22, 7),
  (0, 4, 23, 7),
  (0, 4, 24, 7),
  (0, 4, 25, 7),
  (0, 4, 26, 7),
  (0, 4, 27, 7),
  (0, 4, 28, 7),
  (0, 4, 29, 7),
  (0, 4, 30, 7),
  (0, 4, 31, 7),
  (0, 4, 32, 7),
  (0, 4, 33, 7),
  (0, 4, 34, 7),
  (0, 4, 35, 7),
  (0, 4, 36, 7),
  (0, 4, 37, 7),
  (0, 4, 38, 7),
  (0, 4, 39, 7),
  (0, 4, 40, 7),
  (0, 4, 41, 7),
  (0, 4, 42, 7),
  (0, 4, 43, 7),
  (0, 4, 44, 7),
  (0, 4, 45, 7),
  (0, 4, 46, 7),
  (0, 4, 47, 7),
  (0, 4, 48, 7),
  (0, 4, 49, 7),
  (0, 4, 50, 7),
  (0, 4, 51, 7),
  (0, 4, 52, 7),
  (0, 4, 53, 7),
  (0, 4, 54, 7),
  (0, 4, 55, 7),
  (0, 4, 56, 7),
  (0, 4, 57, 7),
  (0, 4, 58, 7),
  (0, 4, 59, 7),
  (0, 4, 60, 7),
  (0, 6, 1, 6)]
def aT_1 : List (Nat × Nat × Nat × Nat) := [(0, 20, 1, 40),
  (0, 10, 1, 17),
  (0, 10, 2, 17),
  (0, 10, 3, 17),
  (0, 10, 4, 17),
  (0, 10, 5, 17),
  (0, 10, 6, 17),
  (0, 10, 7, 17),
  (0, 10, 8, 17),
  (0, 10, 9, 17),
  (0, 10, 10, 17),
  (0, 10, 11, 17),
  (0, 10, 12, 17),
  (0, 10, 13, 17),
  (0, 10, 14, 17),
  (0, 10, 15, 17),
  (0, 10, 16, 17),
  (0, 10, 17, 17),
  (0, 10, 18, 17),
  (0, 10, 19, 17),
  (0, 10, 20, 17),
  (0, 10, 21, 17),
  (0, 10, 22, 17),
  (0, 10, 23, 17),
  (0, 10, 24, 17),
  (0, 10, 25, 17),
  (0, 10, 26, 17),
  (0, 10, 27, 17),
  (0, 10, 28, 17),
  (0, 10, 29, 17),
  (0, 10, 30, 17),
  (0, 10, 31, 17),
  (0, 10, 32, 17),
  (0, 10, 33, 17),
  (0, 10, 34, 17),
  (0, 10, 35, 17),
  (0, 10, 36, 17),
  (0, 10, 37, 17),
  (0, 10, 38, 17),
  (0, 10, 39, 17),
  (0, 10, 40, 17),
  (0, 8, 1, 4),
  (0, 20, 2, 40),
  (0, 13, 19, 40),
  (0, 3, 1, 2),
  (0, 2, 1, 9),
  (0, 19, 1, 4),
  (0, 21, 1, 4),
  (0, 13, 20, 4),
  (0, 13, 21, 4),
  (0, 13, 22, 4),
  (0, 13, 23, 4),
  (0, 9, 1, 9),
  (0, 9, 2, 9),
  (0, 9, 3, 9),
  (0, 9, 4, 9),
  (1, 5, 1, 5),
  (1, 17, 1, 6),
  (1, 1, 1, 13),
  (1, 1, 2, 13),
  (1, 1, 3, 13),
  (1, 1, 4, 13),
  (1, 1, 5, 13),
  (1, 1, 6, 13),
  (1, 7, 1, 3),
  (1, 16, 1, 9),
  (1, 18, 1, 60),
  (1, 0, 1, 9),
  (1, 13, 1, 4),
  (1, 13, 2, 4),
  (1, 0, 2, 9),
  (1, 13, 3, 4),
  (1, 13, 4, 4),
  (1, 0, 3, 9),
  (1, 13, 5, 4),
  (1, 13, 6, 4),
  (1, 0, 4, 9),
  (1, 13, 7, 4),
  (1, 13, 8, 4),
  (1, 0, 5, 9),
  (1, 13, 9, 4),
  (1, 13, 10, 4),
  (1, 0, 6, 9),
  (1, 13, 11, 4),
  (1, 13, 12, 4),
  (1, 0, 7, 9),
  (1, 13, 13, 4),
  (1, 13, 14, 4),
  (1, 0, 8, 9),
  (1, 13, 15, 4),
  (1, 13, 16, 4),
  (1, 0, 9, 9),
  (1, 13, 17, 4),
  (1, 13, 18, 4),
  (1, 4, 1, 7),
  (1, 4, 2, 7),
  (1, 4, 3, 7),
  (1, 4, 4, 7),
  (1, 4, 5, 7),
  (1, 4, 6, 7)]
def aT_2 : List (Nat × Nat × Nat × Nat) := [(1, 4, 7, 7),
  (1, 4, 8, 7),
  (1, 4, 9, 7),
  (1, 4, 10, 7),
  (1, 4, 11, 7),
  (1, 4, 12, 7),
  (1, 4, 13, 7),
  (1, 4, 14, 7),
  (1, 4, 15, 7),
  (1, 4, 16, 7),
  (1, 4, 17, 7),
  (1, 4, 18, 7),
  (1, 4, 19, 7),
  (1, 4, 20, 7),
  (1, 4, 21, 7),
  (1, 4, 22, 7),
  (1, 4, 23, 7),
  (1, 4, 24, 7),
  (1, 4, 25, 7),
  (1, 4, 26, 7),
  (1, 4, 27, 7),
  (1, 4, 28, 7),
  (1, 4, 29, 7),
  (1, 4, 30, 7),
  (1, 4, 31, 7),
  (1, 4, 32, 7),
  (1, 4, 33, 7),
  (1, 4, 34, 7),
  (1, 4, 35, 7),
  (1, 4, 36, 7),
  (1, 4, 37, 7),
  (1, 4, 38, 7),
  (1, 4, 39, 7),
  (1, 4, 40, 7),
  (1, 4, 41, 7),
  (1, 4, 42, 7),
  (1, 4, 43, 7),
  (1, 4, 44, 7),
  (1, 4, 45, 7),
  (1, 4, 46, 7),
  (1, 4, 47, 7),
  (1, 4, 48, 7),
  (1, 4, 49, 7),
  (1, 4, 50, 7),
  (1, 4, 51, 7),
  (1, 4, 52, 7),
  (1, 4, 53, 7),
  (1, 4, 54, 7),
  (1, 4, 55, 7),
  (1, 4, 56, 7),
  (1, 4, 57, 7),
  (1, 4, 58, 7),
  (1, 4, 59, 7),
  (1, 4, 60, 7),
  (1, 6, 1, 6),
  (1, 20, 1, 40),
  (1, 10, 1, 17),
  (1, 10, 2, 17),
  (1, 10, 3, 17),
  (1, 10, 4, 17),
  (1, 10, 5, 17),
  (1, 10, 6, 17),
  (1, 10, 7, 17),
  (1, 10, 8, 17),
  (1, 10, 9, 17),
  (1, 10, 10, 17),
  (1, 10, 11, 17),
  (1, 10, 12, 17),
  (1, 10, 13, 17),
  (1, 10, 14, 17),
  (1, 10, 15, 17),
  (1, 10, 16, 17),
  (1, 10, 17, 17),
  (1, 10, 18, 17),
  (1, 10, 19, 17),
  (1, 10, 20, 17),
  (1, 10, 21, 17),
  (1, 10, 22, 17),
  (1, 10, 23, 17),
  (1, 10, 24, 17),
  (1, 10, 25, 17),
  (1, 10, 26, 17),
  (1, 10, 27, 17),
  (1, 10, 28, 17),
  (1, 10, 29, 17),
  (1, 10, 30, 17),
  (1, 10, 31, 17),
  (1, 10, 32, 17),
  (1, 10, 33, 17),
  (1, 10, 34, 17),
  (1, 10, 35, 17),
  (1, 10, 36, 17),
  (1, 10, 37, 17),
  (1, 10, 38, 17),
  (1, 10, 39, 17),
  (1, 10, 40, 17),
  (1, 8, 1, 4),
  (1, 20, 2, 40),
  (1, 13, 19, 40),
  (1, 3, 1, 2)]
def aT_3 : List (Nat × Nat × Nat × Nat) := [(1, 2, 1, 9),
  (1, 19, 1, 4),
  (1, 21, 1, 4),
  (1, 13, 20, 4),
  (1, 13, 21, 4),
  (1, 13, 22, 4),
  (1, 13, 23, 4),
  (1, 9, 1, 9),
  (1, 9, 2, 9),
  (1, 9, 3, 9),
  (1, 9, 4, 9),
  (3, 13, 1, 3584),
  (2, 12, 1, 70),
  (2, 13, 1, 36),
  (2, 14, 1, 9),
  (2, 13, 2, 32),
  (2, 13, 3, 8),
  (2, 13, 4, 8),
  (2, 15, 1, 8),
  (2, 13, 5, 8),
  (2, 13, 6, 6),
  (2, 13, 7, 6),
  (2, 13, 8, 6),
  (2, 13, 9, 6),
  (2, 13, 10, 6),
  (2, 13, 11, 6),
  (2, 13, 12, 6),
  (2, 13, 13, 6),
  (2, 15, 2, 6),
  (2, 15, 3, 44),
  (2, 13, 14, 44),
  (2, 13, 15, 44),
  (2, 13, 16, 44),
  (2, 15, 4, 44),
  (2, 13, 17, 44),
  (2, 15, 5, 44),
  (2, 13, 18, 44),
  (2, 13, 19, 44),
  (2, 13, 20, 44),
  (2, 13, 21, 44),
  (2, 13, 22, 44),
  (2, 13, 23, 44),
  (2, 13, 24, 44),
  (2, 13, 25, 44),
  (2, 13, 26, 44),
  (2, 13, 27, 44),
  (2, 13, 28, 44),
  (2, 15, 6, 44),
  (2, 13, 29, 44),
  (2, 13, 30, 60),
  (2, 13, 31, 60),
  (2, 13, 32, 60),
  (2, 13, 33, 60),
  (2, 13, 34, 60),
  (2, 15, 7, 60),
  (2, 15, 8, 60),
  (2, 13, 35, 16),
  (2, 13, 36, 4),
  (2, 13, 37, 4),
  (2, 13, 38, 4),
  (2, 15, 9, 4),
  (2, 15, 10, 4),
  (2, 13, 39, 4),
  (2, 13, 40, 3640),
  (2, 13, 41, 44),
  (2, 13, 42, 44),
  (2, 14, 2, 4),
  (2, 14, 3, 4),
  (3, 14, 1, 1)]
def aT : List (Nat × Nat × Nat × Nat) := aT_0 ++ (aT_1 ++ (aT_2 ++ (aT_3)))
def hT_0 : List (Nat × List (Nat × Nat × Nat × Nat × Nat × Nat × Nat)) := [(379, [(0, 18, 21, 13, 0, 23, 8), (0, 18, 25, 15, 1, 27, 8), (0, 18, 29, 17, 2, 31, 8)]),
  (380, [(0, 12, 15, 13, 0, 17, 5), (0, 12, 19, 15, 1, 21, 5), (0, 12, 23, 17, 2, 25, 5)]),
  (381, [(0, 16, 19, 13, 0, 21, 7), (0, 16, 23, 15, 1, 25, 7), (0, 16, 27, 17, 2, 29, 7)]),
  (382, [(0, 16, 19, 13, 0, 21, 7), (0, 16, 23, 15, 1, 25, 7), (0, 16, 27, 17, 2, 29, 7)]),
  (383, [(0, 16, 19, 13, 0, 21, 7), (0, 16, 23, 15, 1, 25, 7), (0, 16, 27, 17, 2, 29, 7)]),
  (384, [(0, 16, 19, 13, 0, 21, 7), (0, 16, 23, 15, 1, 25, 7), (0, 16, 27, 17, 2, 29, 7)]),
  (385, [(0, 9, 12, 13, 0, 13, 3), (0, 9, 15, 17, 2, 16, 3)]),
  (386, [(0, 14, 17, 13, 0, 19, 6), (0, 14, 21, 15, 1, 23, 6)]),
  (387, [(0, 10, 13, 13, 0, 15, 4), (0, 10, 17, 15, 1, 19, 4)]),
  (388, [(0, 10, 13, 13, 0, 15, 4), (0, 10, 17, 15, 1, 19, 4)]),
  (389, [(0, 12, 15, 13, 0, 17, 5), (0, 12, 19, 15, 1, 21, 5)]),
  (390, [(0, 14, 17, 13, 0, 19, 6), (0, 14, 21, 15, 1, 23, 6), (0, 14, 25, 17, 2, 27, 6)]),
  (391, [(0, 9, 12, 15, 1, 13, 3)]),
  (392, [(0, 8, 11, 17, 2, 12, 2)]),
  (393, [(0, 9, 12, 13, 0, 13, 3), (0, 9, 15, 17, 2, 16, 3)]),
  (394, [(0, 10, 13, 13, 0, 15, 4), (0, 10, 17, 15, 1, 19, 4), (0, 10, 21, 17, 2, 23, 4)]),
  (395, [(0, 12, 15, 13, 0, 17, 5), (0, 12, 19, 17, 2, 21, 5)]),
  (396, [(0, 14, 17, 13, 0, 19, 6), (0, 14, 21, 15, 1, 23, 6), (0, 14, 25, 17, 2, 27, 6)]),
  (397, [(0, 12, 15, 13, 0, 17, 5), (0, 12, 19, 15, 1, 21, 5), (0, 12, 23, 17, 2, 25, 5)]),
  (398, [(0, 12, 15, 13, 0, 17, 5), (0, 12, 19, 15, 1, 21, 5), (0, 12, 23, 17, 2, 25, 5)]),
  (399, [(0, 12, 15, 13, 0, 17, 5), (0, 12, 19, 15, 1, 21, 5)]),
  (400, [(0, 9, 12, 15, 1, 13, 3)]),
  (401, [(0, 12, 15, 13, 0, 17, 5), (0, 12, 19, 15, 1, 21, 5), (0, 12, 23, 17, 2, 25, 5)]),
  (402, [(0, 10, 13, 13, 0, 15, 4), (0, 10, 17, 15, 1, 19, 4), (0, 10, 21, 17, 2, 23, 4)]),
  (403, [(0, 9, 12, 13, 0, 13, 3), (0, 9, 15, 17, 2, 16, 3)]),
  (404, [(0, 10, 13, 13, 0, 15, 4), (0, 10, 17, 15, 1, 19, 4), (0, 10, 21, 17, 2, 23, 4)]),
  (405, [(0, 8, 11, 17, 2, 12, 2)]),
  (406, [(0, 10, 13, 13, 0, 15, 4)]),
  (407, [(0, 10, 13, 13, 0, 15, 4)]),
  (408, [(0, 10, 13, 13, 0, 15, 4)]),
  (409, [(0, 12, 15, 13, 0, 17, 5)]),
  (410, [(0, 9, 12, 13, 0, 13, 3)]),
  (411, [(0, 9, 12, 13, 0, 13, 3)]),
  (412, [(0, 10, 13, 13, 0, 15, 4)]),
  (413, [(0, 9, 12, 13, 0, 13, 3)]),
  (414, [(0, 10, 13, 13, 0, 15, 4)]),
  (415, [(0, 10, 13, 13, 0, 15, 4), (0, 10, 17, 15, 1, 19, 4)]),
  (416, [(0, 10, 13, 13, 0, 15, 4)]),
  (417, [(0, 8, 11, 13, 0, 12, 3)]),
  (418, [(0, 9, 12, 13, 0, 13, 3)]),
  (419, [(0, 9, 12, 13, 0, 14, 4), (0, 9, 16, 15, 1, 18, 4)])]
def hT : List (Nat × List (Nat × Nat × Nat × Nat × Nat × Nat × Nat)) := hT_0
def adL : List (List (List Nat)) := [[[12, 15, 18, 21, 24, 27, 30, 33, 36], [3, 4, 5, 6, 7, 8], [145], [144], [39, 40, 41, 42, 43, 44, 45, 46, 47, 48, 49, 50, 51, 52, 53, 54, 55, 56, 57, 58, 59, 60, 61, 62, 63, 64, 65, 66, 67, 68, 69, 70, 71, 72, 73, 74, 75, 76, 77, 78, 79, 80, 81, 82, 83, 84, 85, 86, 87, 88, 89, 90, 91, 92, 93, 94, 95, 96, 97, 98], [1], [99], [9], [141], [152, 153, 154, 155], [101, 102, 103, 104, 105, 106, 107, 108, 109, 110, 111, 112, 113, 114, 115, 116, 117, 118, 119, 120, 121, 122, 123, 124, 125, 126, 127, 128, 129, 130, 131, 132, 133, 134, 135, 136, 137, 138, 139, 140], [], [], [13, 14, 16, 17, 19, 20, 22, 23, 25, 26, 28, 29, 31, 32, 34, 35, 37, 38, 143, 148, 149, 150, 151], [], [], [10], [2], [11], [146], [100, 142], [147]],
  [[167, 170, 173, 176, 179, 182, 185, 188, 191], [158, 159, 160, 161, 162, 163], [300], [299], [194, 195, 196, 197, 198, 199, 200, 201, 202, 203, 204, 205, 206, 207, 208, 209, 210, 211, 212, 213, 214, 215, 216, 217, 218, 219, 220, 221, 222, 223, 224, 225, 226, 227, 228, 229, 230, 231, 232, 233, 234, 235, 236, 237, 238, 239, 240, 241, 242, 243, 244, 245, 246, 247, 248, 249, 250, 251, 252, 253], [156], [254], [164], [296], [307, 308, 309, 310], [256, 257, 258, 259, 260, 261, 262, 263, 264, 265, 266, 267, 268, 269, 270, 271, 272, 273, 274, 275, 276, 277, 278, 279, 280, 281, 282, 283, 284, 285, 286, 287, 288, 289, 290, 291, 292, 293, 294, 295], [], [], [168, 169, 171, 172, 174, 175, 177, 178, 180, 181, 183, 184, 186, 187, 189, 190, 192, 193, 298, 303, 304, 305, 306], [], [], [165], [157], [166], [301], [255, 297], [302]],
  [[], [], [], [], [], [], [], [], [], [], [], [], [312], [313, 315, 316, 317, 319, 320, 321, 322, 323, 324, 325, 326, 327, 330, 331, 332, 334, 336, 337, 338, 339, 340, 341, 342, 343, 344, 345, 346, 348, 349, 350, 351, 352, 353, 356, 357, 358, 359, 362, 363, 364, 365], [314, 366, 367], [318, 328, 329, 333, 335, 347, 354, 355, 360, 361], [], [], [], [], [], []],
  [[], [], [], [], [], [], [], [], [], [], [], [0], [], [311], [368], [], [], [], [], [], [], []]]
def tyT : List (List Nat) := [[0, 0, 16, 16, 2, 0, 0, 1, 0], [0, 0, 0, 0, 0, 1, 1, 0, 0, 0, 0, 0, 0], [9, 10, 22, 24, 0, 0, 0, 2, 0], [9, 10], [4, 3, 3, 0, 0, 1, 1], [9, 10, 11, 6, 5], [20, 23, 0, 0, 0, 0], [19, 21, 0], [9, 10, 23, 16], [0, 0, 0, 1, 1, 0, 0, 2, 2], [0, 0, 0, 3, 4, 1, 0, 0, 0, 0, 0, 0, 0, 0, 0, 0, 1], [8, 8, 16, 0, 0, 0], [0, 16, 17, 16, 16, 16, 18, 16, 16, 16, 16, 16, 16, 16, 16, 16, 18, 0, 0, 18, 16, 16, 16, 18, 16, 18, 16, 16, 16, 16, 16, 16, 16, 16, 16, 16, 16, 18, 16, 0, 0, 16, 16, 16, 16, 16, 18, 18, 0, 16, 0, 16, 16, 16, 18, 18, 16, 0, 0, 16, 0, 0, 16, 16, 0, 0, 17, 17, 0, 2]]
def mulA : List Nat := [147, 302]
abbrev k_X0_init : Nat := 0
abbrev k_X0_restore : Nat := 1
abbrev k_X0_holds : Nat := 2
abbrev k_X0_limitOf : Nat := 3
abbrev k_X0_put : Nat := 4
abbrev k_X0_take : Nat := 5
abbrev k_X0_changeProtection : Nat := 6
abbrev k_X0_changeLimit : Nat := 7
abbrev k_X1_init : Nat := 8
abbrev k_X1_restore : Nat := 9
abbrev k_X1_isSpread : Nat := 10
abbrev k_X1_hasPrice : Nat := 11
abbrev k_X1_hasContract : Nat := 12
abbrev k_X1_isBeyondBand : Nat := 13
abbrev k_X1_isFrozen : Nat := 14
abbrev k_X1_changeRule : Nat := 15
abbrev k_X1_changeBand : Nat := 16
abbrev k_X2_init : Nat := 17
abbrev k_X2_restore : Nat := 18
abbrev k_X2_memberAt : Nat := 19
abbrev k_X2_lowerOf : Nat := 20
abbrev k_X2_upperOf : Nat := 21
abbrev k_X2_tell : Nat := 22
abbrev k_X2_netOf : Nat := 23
abbrev k_X2_moveOf : Nat := 24
abbrev k_X2_riskOf : Nat := 25
abbrev k_X2_worthOf : Nat := 26
abbrev k_X2_valueOf : Nat := 27
abbrev k_X2_callOf : Nat := 28
abbrev k_X2_canPay : Nat := 29
abbrev k_X2_bring : Nat := 30
abbrev k_X2_changeMove : Nat := 31
abbrev k_X2_changeHaircut : Nat := 32
abbrev k_X2_changeFund : Nat := 33
abbrev k_X2_canFail : Nat := 34
abbrev k_X2_fall : Nat := 35
abbrev k_X2_takeBid : Nat := 36
abbrev k_X2_highestBidder : Nat := 37
abbrev k_X2_closePortfolio : Nat := 38
abbrev k_X2_handOver : Nat := 39
abbrev k_X2_cover : Nat := 40
abbrev k_X2_give : Nat := 41
abbrev k_X2_sellUnits : Nat := 42
abbrev k_X2_givesIn : Nat := 43
abbrev k_X2_shareLayer : Nat := 44
abbrev k_X2_shareLoss : Nat := 45
abbrev k_X3_init : Nat := 46
abbrev k_X3_makePair : Nat := 47
abbrev k_X3_makeChain : Nat := 48
abbrev k_X3_isBarred : Nat := 49
abbrev k_X3_record : Nat := 50
abbrev k_X3_fallTogether : Nat := 51
abbrev k_X4_init : Nat := 52
abbrev k_X4_fill : Nat := 53
abbrev k_X4_counts : Nat := 54
abbrev k_X4_tell : Nat := 55
abbrev k_X5_init : Nat := 56
abbrev k_X5_restore : Nat := 57
abbrev k_X5_admits : Nat := 58
abbrev k_X5_tellLimit : Nat := 59
abbrev k_X5_tellMarket : Nat := 60
abbrev k_X5_tellIceberg : Nat := 61
abbrev k_X5_tellPeg : Nat := 62
abbrev k_X5_tellStop : Nat := 63
abbrev k_X5_tellQuote : Nat := 64
abbrev k_X5_place : Nat := 65
abbrev k_X5_letPass : Nat := 66
abbrev k_X5_undo : Nat := 67
abbrev k_X5_convertContract : Nat := 68
abbrev k_X5_convertPrice : Nat := 69
abbrev k_X5_failMember : Nat := 70
abbrev k_X5_work : Nat := 71
abbrev k_X6_init : Nat := 72
abbrev k_X6_restore : Nat := 73
abbrev k_X6_bookAt : Nat := 74
abbrev k_X6_find : Nat := 75
abbrev k_X6_countLive : Nat := 76
abbrev k_X6_draw : Nat := 77
abbrev k_X6_stand : Nat := 78
abbrev k_X6_nextTurn : Nat := 79
abbrev k_X6_showAnew : Nat := 80
abbrev k_X6_bestPrice : Nat := 81
abbrev k_X6_firstOf : Nat := 82
abbrev k_X6_sumShown : Nat := 83
abbrev k_X6_refuses : Nat := 84
abbrev k_X6_reach : Nat := 85
abbrev k_X6_withdraw : Nat := 86
abbrev k_X6_withdrawQuote : Nat := 87
abbrev k_X6_withdrawContract : Nat := 88
abbrev k_X6_withdrawMember : Nat := 89
abbrev k_X6_guard : Nat := 90
abbrev k_X6_countQuotes : Nat := 91
abbrev k_X6_hasOtherSide : Nat := 92
abbrev k_X6_hasAuction : Nat := 93
abbrev k_X6_beginAuction : Nat := 94
abbrev k_X6_openBook : Nat := 95
abbrev k_X6_turnDay : Nat := 96
abbrev k_X6_dueStop : Nat := 97
abbrev k_X6_holdStops : Nat := 98
abbrev k_X6_pricePegs : Nat := 99
abbrev k_X6_nextPeg : Nat := 100
abbrev k_X6_pegPrice : Nat := 101
abbrev k_X6_movePeg : Nat := 102
abbrev k_X7_init : Nat := 103
abbrev k_X7_restore : Nat := 104
abbrev k_X7_accountAt : Nat := 105
abbrev k_X7_record : Nat := 106
abbrev k_X7_find : Nat := 107
abbrev k_X7_latestOf : Nat := 108
abbrev k_X7_reverse : Nat := 109
abbrev k_X7_reprice : Nat := 110
abbrev k_X7_replaceSide : Nat := 111
abbrev k_X7_averageOf : Nat := 112
abbrev k_X7_canAllot : Nat := 113
abbrev k_X7_allotLots : Nat := 114
abbrev k_X7_exerciseLots : Nat := 115
abbrev k_X7_assign : Nat := 116
abbrev k_X7_canConvert : Nat := 117
abbrev k_X7_scaled : Nat := 118
abbrev k_X7_convertPositions : Nat := 119
abbrev k_X7_forget : Nat := 120
abbrev k_X8_init : Nat := 121
abbrev k_X8_reachable : Nat := 122
abbrev k_X8_match : Nat := 123
abbrev k_X8_settle : Nat := 124
abbrev k_X8_gather : Nat := 125
abbrev k_X8_meetsOwn : Nat := 126
abbrev k_X8_share : Nat := 127
abbrev k_X8_giveTop : Nat := 128
abbrev k_X8_giveShares : Nat := 129
abbrev k_X8_strike : Nat := 130
abbrev k_X8_endAuction : Nat := 131
abbrev k_X8_tradeAll : Nat := 132
abbrev k_X8_firstAt : Nat := 133
abbrev k_X8_comesBefore : Nat := 134
abbrev k_X8_findPrice : Nat := 135
abbrev k_X8_isNearer : Nat := 136
abbrev k_X8_volumeAt : Nat := 137
abbrev k_X8_sumAt : Nat := 138
abbrev k_X9_init : Nat := 139
abbrev k_X9_restore : Nat := 140
abbrev k_X9_forgetBid : Nat := 141
abbrev k_X10_init : Nat := 142
abbrev k_X10_begin : Nat := 143
abbrev k_X10_standsIn : Nat := 144
abbrev k_X10_allows : Nat := 145
abbrev k_X10_isBetter : Nat := 146
abbrev k_X10_addsTo : Nat := 147
abbrev k_X10_isDue : Nat := 148
abbrev k_X10_hold : Nat := 149
abbrev k_X10_showable : Nat := 150
abbrev k_X10_fall : Nat := 151
abbrev k_X11_init : Nat := 152
abbrev k_X11_limit : Nat := 153
abbrev k_X11_market : Nat := 154
abbrev k_X11_iceberg : Nat := 155
abbrev k_X11_peg : Nat := 156
abbrev k_X11_stop : Nat := 157
abbrev k_X11_quote : Nat := 158
abbrev k_X11_cancel : Nat := 159
abbrev k_X11_setRule : Nat := 160
abbrev k_X11_setBand : Nat := 161
abbrev k_X11_setProtection : Nat := 162
abbrev k_X11_setLimit : Nat := 163
abbrev k_X11_auction : Nat := 164
abbrev k_X11_pass : Nat := 165
abbrev k_X11_endDay : Nat := 166
abbrev k_X11_bust : Nat := 167
abbrev k_X11_adjust : Nat := 168
abbrev k_X11_giveUp : Nat := 169
abbrev k_X11_allot : Nat := 170
abbrev k_X11_exercise : Nat := 171
abbrev k_X11_convert : Nat := 172
abbrev k_X11_setMove : Nat := 173
abbrev k_X11_setHaircut : Nat := 174
abbrev k_X11_pay : Nat := 175
abbrev k_X11_setFund : Nat := 176
abbrev k_X11_fail : Nat := 177
abbrev k_X11_bid : Nat := 178
abbrev k_X11_closeOut : Nat := 179
abbrev k_X11_keep : Nat := 180
abbrev k_X11_failOver : Nat := 181
abbrev k_X11_events : Nat := 182
abbrev k_X11_positionByLog : Nat := 183
abbrev k_X11_bestByLog : Nat := 184
abbrev k_X11_best : Nat := 185
abbrev k_X11_shown : Nat := 186
abbrev k_X11_stateOf : Nat := 187
abbrev k_X11_rest : Nat := 188
abbrev k_X11_priceOf : Nat := 189
abbrev k_X11_last : Nat := 190
abbrev k_X11_endOf : Nat := 191
abbrev k_X11_indicated : Nat := 192
abbrev k_X11_trades : Nat := 193
abbrev k_X11_trade : Nat := 194
abbrev k_X11_position : Nat := 195
abbrev k_X11_cash : Nat := 196
abbrev k_X11_quoted : Nat := 197
abbrev k_X11_member : Nat := 198
abbrev k_X11_stake : Nat := 199
abbrev k_X11_needPlace : Nat := 200
abbrev k_X11_needRange : Nat := 201
abbrev k_X11_needState : Nat := 202
abbrev k_X11_isWithin : Nat := 203
abbrev k_X11_isTrader : Nat := 204
abbrev k_X11_isBook : Nat := 205
abbrev k_X11_isContract : Nat := 206
abbrev k_X11_isMember : Nat := 207
abbrev k_X11_isQuantity : Nat := 208
abbrev k_X11_keptDeal : Nat := 209
abbrev k_X11_enter : Nat := 210
abbrev k_X11_play : Nat := 211
abbrev k_X12_init : Nat := 212
abbrev k_X12_thrown : Nat := 213
abbrev k_X12_resets : Nat := 214
abbrev k_X12_in : Nat := 215
abbrev k_X12_abs : Nat := 216
abbrev k_X12_floor : Nat := 217
abbrev k_X12_isOpen : Nat := 218
abbrev k_X12_isPrice : Nat := 219
abbrev k_X12_isNear : Nat := 220
abbrev k_X12_contractOf : Nat := 221
abbrev k_X12_live : Nat := 222
abbrev k_X12_placeOf : Nat := 223
abbrev k_X12_newOrder : Nat := 224
abbrev k_X12_newTurn : Nat := 225
abbrev k_X12_showsNow : Nat := 226
abbrev k_X12_showsAnew : Nat := 227
abbrev k_X12_comes : Nat := 228
abbrev k_X12_restsOf : Nat := 229
abbrev k_X12_isOver : Nat := 230
abbrev k_X12_isRefused : Nat := 231
abbrev k_X12_holds : Nat := 232
abbrev k_X12_deals : Nat := 233
abbrev k_X12_isKept : Nat := 234
abbrev k_X12_latest : Nat := 235
abbrev k_X12_falls : Nat := 236
abbrev k_X12_guards : Nat := 237
abbrev k_X12_isThere : Nat := 238
abbrev k_X12_isBetter : Nat := 239
abbrev k_X12_bestOf : Nat := 240
abbrev k_X12_isAt : Nat := 241
abbrev k_X12_behindTurn : Nat := 242
abbrev k_X12_clearsGets : Nat := 243
abbrev k_X12_least : Nat := 244
abbrev k_X12_sharesByTurns : Nat := 245
abbrev k_X12_sharesBySize : Nat := 246
abbrev k_X12_nextBySize : Nat := 247
abbrev k_X12_sharesOut : Nat := 248
abbrev k_X12_tradesWith : Nat := 249
abbrev k_X12_served : Nat := 250
abbrev k_X12_servesAll : Nat := 251
abbrev k_X12_hasOwn : Nat := 252
abbrev k_X12_removesOwn : Nat := 253
abbrev k_X12_beginsAuction : Nat := 254
abbrev k_X12_looks : Nat := 255
abbrev k_X12_matches : Nat := 256
abbrev k_X12_enters : Nat := 257
abbrev k_X12_readyStop : Nat := 258
abbrev k_X12_firstOf : Nat := 259
abbrev k_X12_canDeal : Nat := 260
abbrev k_X12_falls1 : Nat := 261
abbrev k_X12_joins : Nat := 262
abbrev k_X12_chains : Nat := 263
abbrev k_X12_combines : Nat := 264
abbrev k_X12_pegs : Nat := 265
abbrev k_X12_pegsAll : Nat := 266
abbrev k_X12_works : Nat := 267
abbrev k_X12_wants : Nat := 268
abbrev k_X12_finds : Nat := 269
abbrev k_X12_firstIn : Nat := 270
abbrev k_X12_tradesAll : Nat := 271
abbrev k_X12_endsAuction : Nat := 272
abbrev k_X12_hasQuote : Nat := 273
abbrev k_X12_passes : Nat := 274
abbrev k_X12_net : Nat := 275
abbrev k_X12_risk : Nat := 276
abbrev k_X12_worth : Nat := 277
abbrev k_X12_value : Nat := 278
abbrev k_X12_call : Nat := 279
abbrev k_X12_isAccount : Nat := 280
abbrev k_X12_isQuantity : Nat := 281
abbrev k_X12_isShut : Nat := 282
abbrev k_X12_isEnough : Nat := 283
abbrev k_X12_doLimit : Nat := 284
abbrev k_X12_doMarket : Nat := 285
abbrev k_X12_doIceberg : Nat := 286
abbrev k_X12_doPeg : Nat := 287
abbrev k_X12_doStop : Nat := 288
abbrev k_X12_doQuote : Nat := 289
abbrev k_X12_doCancel : Nat := 290
abbrev k_X12_doRule : Nat := 291
abbrev k_X12_puts : Nat := 292
abbrev k_X12_doAuction : Nat := 293
abbrev k_X12_doPass : Nat := 294
abbrev k_X12_doEndDay : Nat := 295
abbrev k_X12_undoes : Nat := 296
abbrev k_X12_doBust : Nat := 297
abbrev k_X12_doAdjust : Nat := 298
abbrev k_X12_doGiveUp : Nat := 299
abbrev k_X12_average : Nat := 300
abbrev k_X12_doAllot : Nat := 301
abbrev k_X12_doExercise : Nat := 302
abbrev k_X12_drawn : Nat := 303
abbrev k_X12_hasContract : Nat := 304
abbrev k_X12_doConvert : Nat := 305
abbrev k_X12_converted : Nat := 306
abbrev k_X12_callOf : Nat := 307
abbrev k_X12_doPay : Nat := 308
abbrev k_X12_doFund : Nat := 309
abbrev k_X12_doFail : Nat := 310
abbrev k_X12_doBid : Nat := 311
abbrev k_X12_shares : Nat := 312
abbrev k_X12_winner : Nat := 313
abbrev k_X12_covers : Nat := 314
abbrev k_X12_upTo : Nat := 315
abbrev k_X12_doCloseOut : Nat := 316
abbrev k_X12_coversAll : Nat := 317
abbrev k_X12_coversByFunds : Nat := 318
abbrev k_X12_does : Nat := 319
abbrev k_X12_doesMore : Nat := 320
abbrev k_X12_act : Nat := 321
abbrev k_X12_limit : Nat := 322
abbrev k_X12_market : Nat := 323
abbrev k_X12_iceberg : Nat := 324
abbrev k_X12_peg : Nat := 325
abbrev k_X12_stop : Nat := 326
abbrev k_X12_quote : Nat := 327
abbrev k_X12_cancel : Nat := 328
abbrev k_X12_setRule : Nat := 329
abbrev k_X12_setBand : Nat := 330
abbrev k_X12_setProtection : Nat := 331
abbrev k_X12_setLimit : Nat := 332
abbrev k_X12_auction : Nat := 333
abbrev k_X12_pass : Nat := 334
abbrev k_X12_endDay : Nat := 335
abbrev k_X12_bust : Nat := 336
abbrev k_X12_adjust : Nat := 337
abbrev k_X12_giveUp : Nat := 338
abbrev k_X12_allot : Nat := 339
abbrev k_X12_exercise : Nat := 340
abbrev k_X12_convert : Nat := 341
abbrev k_X12_setMove : Nat := 342
abbrev k_X12_setHaircut : Nat := 343
abbrev k_X12_pay : Nat := 344
abbrev k_X12_setFund : Nat := 345
abbrev k_X12_fail : Nat := 346
abbrev k_X12_bid : Nat := 347
abbrev k_X12_closeOut : Nat := 348
abbrev k_X12_keep : Nat := 349
abbrev k_X12_failOver : Nat := 350
abbrev k_X12_events : Nat := 351
abbrev k_X12_positionByLog : Nat := 352
abbrev k_X12_bestByLog : Nat := 353
abbrev k_X12_isBook : Nat := 354
abbrev k_X12_best : Nat := 355
abbrev k_X12_shown : Nat := 356
abbrev k_X12_stateOf : Nat := 357
abbrev k_X12_rest : Nat := 358
abbrev k_X12_priceOf : Nat := 359
abbrev k_X12_last : Nat := 360
abbrev k_X12_endOf : Nat := 361
abbrev k_X12_indicated : Nat := 362
abbrev k_X12_trades : Nat := 363
abbrev k_X12_trade : Nat := 364
abbrev k_X12_position : Nat := 365
abbrev k_X12_cash : Nat := 366
abbrev k_X12_quoted : Nat := 367
abbrev k_X12_member : Nat := 368
abbrev k_X12_stake : Nat := 369
abbrev k_J9_floorDiv_b2ac5 : Nat := 370
abbrev k_J9_floorDiv_f86c9 : Nat := 371
abbrev k_J9_floorMod_7cf53 : Nat := 372
abbrev k_J9_abs_0f7a4 : Nat := 373
abbrev k_J9_abs_067f4 : Nat := 374
abbrev k_J9_max_7cf53 : Nat := 375
abbrev k_J9_max_f86c9 : Nat := 376
abbrev k_J9_min_7cf53 : Nat := 377
abbrev k_J9_min_f86c9 : Nat := 378
abbrev k_L_limit : Nat := 379
abbrev k_L_market : Nat := 380
abbrev k_L_iceberg : Nat := 381
abbrev k_L_peg : Nat := 382
abbrev k_L_stop : Nat := 383
abbrev k_L_quote : Nat := 384
abbrev k_L_cancel : Nat := 385
abbrev k_L_setRule : Nat := 386
abbrev k_L_setBand : Nat := 387
abbrev k_L_setProtection : Nat := 388
abbrev k_L_setLimit : Nat := 389
abbrev k_L_auction : Nat := 390
abbrev k_L_pass : Nat := 391
abbrev k_L_endDay : Nat := 392
abbrev k_L_bust : Nat := 393
abbrev k_L_adjust : Nat := 394
abbrev k_L_giveUp : Nat := 395
abbrev k_L_allot : Nat := 396
abbrev k_L_exercise : Nat := 397
abbrev k_L_convert : Nat := 398
abbrev k_L_setMove : Nat := 399
abbrev k_L_setHaircut : Nat := 400
abbrev k_L_pay : Nat := 401
abbrev k_L_setFund : Nat := 402
abbrev k_L_fail : Nat := 403
abbrev k_L_bid : Nat := 404
abbrev k_L_closeOut : Nat := 405
abbrev k_L_positionByLog : Nat := 406
abbrev k_L_bestByLog : Nat := 407
abbrev k_L_best : Nat := 408
abbrev k_L_shown : Nat := 409
abbrev k_L_rest : Nat := 410
abbrev k_L_priceOf : Nat := 411
abbrev k_L_last : Nat := 412
abbrev k_L_endOf : Nat := 413
abbrev k_L_indicated : Nat := 414
abbrev k_L_trade : Nat := 415
abbrev k_L_position : Nat := 416
abbrev k_L_cash : Nat := 417
abbrev k_L_quoted : Nat := 418
abbrev k_L_member : Nat := 419
abbrev k_L_law : Nat := 420
