/-! the words of links and methods, each by its place in the printed tables (no strings are compared) -/
theorem gw_of {w : Cond} (h : w ∈ tables_1) (hg : goodWord w = true) : w ∈ GW := List.mem_filter.mpr ⟨List.mem_append_right _ h, hg⟩
theorem gt1 {w : Cond} (r : Nat) (h : tables_1_1[r]? = some w) (hg : goodWord w = true) : w ∈ GW := gw_of (List.mem_append_left _ (List.mem_of_getElem? h)) hg
theorem gt2 {w : Cond} (r : Nat) (h : tables_1_2[r]? = some w) (hg : goodWord w = true) : w ∈ GW := gw_of (List.mem_append_right _ (List.mem_append_left _ (List.mem_of_getElem? h))) hg
theorem gt3 {w : Cond} (r : Nat) (h : tables_1_3[r]? = some w) (hg : goodWord w = true) : w ∈ GW := gw_of (List.mem_append_right _ (List.mem_append_right _ (List.mem_append_left _ (List.mem_of_getElem? h)))) hg
theorem gt4 {w : Cond} (r : Nat) (h : tables_1_4[r]? = some w) (hg : goodWord w = true) : w ∈ GW := gw_of (List.mem_append_right _ (List.mem_append_right _ (List.mem_append_right _ (List.mem_append_left _ (List.mem_of_getElem? h))))) hg
theorem gt5 {w : Cond} (r : Nat) (h : tables_1_5[r]? = some w) (hg : goodWord w = true) : w ∈ GW := gw_of (List.mem_append_right _ (List.mem_append_right _ (List.mem_append_right _ (List.mem_append_right _ (List.mem_append_left _ (List.mem_of_getElem? h)))))) hg
theorem gt6 {w : Cond} (r : Nat) (h : tables_1_6[r]? = some w) (hg : goodWord w = true) : w ∈ GW := gw_of (List.mem_append_right _ (List.mem_append_right _ (List.mem_append_right _ (List.mem_append_right _ (List.mem_append_right _ (List.mem_append_left _ (List.mem_of_getElem? h))))))) hg
theorem gt7 {w : Cond} (r : Nat) (h : tables_1_7[r]? = some w) (hg : goodWord w = true) : w ∈ GW := gw_of (List.mem_append_right _ (List.mem_append_right _ (List.mem_append_right _ (List.mem_append_right _ (List.mem_append_right _ (List.mem_append_right _ (List.mem_of_getElem? h))))))) hg
theorem gs_of {q : MethodName × Nat} (h : q ∈ lw_privs) : Cond.selects q.1.cls q.1 q.1 ∈ GW := List.mem_filter.mpr ⟨List.mem_append_left _ (List.mem_map.mpr ⟨q, h, rfl⟩), rfl⟩
theorem gp0 {q : MethodName × Nat} (r : Nat) (h : lw_privs_1[r]? = some q) : Cond.selects q.1.cls q.1 q.1 ∈ GW := gs_of (List.mem_append_left _ (List.mem_of_getElem? h))
theorem gp1 {q : MethodName × Nat} (r : Nat) (h : lw_privs_2[r]? = some q) : Cond.selects q.1.cls q.1 q.1 ∈ GW := gs_of (List.mem_append_right _ (List.mem_append_left _ (List.mem_of_getElem? h)))
theorem gp2 {q : MethodName × Nat} (r : Nat) (h : lw_privs_3[r]? = some q) : Cond.selects q.1.cls q.1 q.1 ∈ GW := gs_of (List.mem_append_right _ (List.mem_append_right _ (List.mem_of_getElem? h)))
set_option maxRecDepth 100000 in
theorem mX_0 : mX 0 = (yX0_init, cX0_init, 0, 2, none, 2, 0, 170, 169, 0, 1, 30) := rfl
set_option maxRecDepth 100000 in
theorem mX_1 : mX 1 = (yX0_restore, cX0_restore, 0, 2, none, 1, 0, 533, 531, 532, 1, 30) := rfl
set_option maxRecDepth 100000 in
theorem mX_2 : mX 2 = (yX0_holds, cX0_holds, 0, 2, some .int, 2, 0, 962, 960, 961, 1, 30) := rfl
set_option maxRecDepth 100000 in
theorem mX_3 : mX 3 = (yX0_limitOf, cX0_limitOf, 0, 2, some .int, 2, 0, 783, 781, 782, 1, 30) := rfl
set_option maxRecDepth 100000 in
theorem mX_4 : mX 4 = (yX0_put, cX0_put, 0, 3, none, 3, 0, 966, 964, 965, 1, 30) := rfl
set_option maxRecDepth 100000 in
theorem mX_5 : mX 5 = (yX0_take, cX0_take, 0, 4, none, 4, 0, 712, 710, 711, 1, 30) := rfl
set_option maxRecDepth 100000 in
theorem mX_6 : mX 6 = (yX0_changeProtection, cX0_changeProtection, 0, 3, some .int, 2, 0, 775, 773, 774, 1, 30) := rfl
set_option maxRecDepth 100000 in
theorem mX_7 : mX 7 = (yX0_changeLimit, cX0_changeLimit, 0, 4, some .int, 3, 0, 779, 777, 778, 2, 51) := rfl
set_option maxRecDepth 100000 in
theorem mX_8 : mX 8 = (yX1_init, cX1_init, 1, 2, none, 2, 0, 77, 76, 0, 1, 30) := rfl
set_option maxRecDepth 100000 in
theorem mX_9 : mX 9 = (yX1_restore, cX1_restore, 1, 1, none, 1, 0, 521, 519, 520, 2, 50) := rfl
set_option maxRecDepth 100000 in
theorem mX_10 : mX 10 = (yX1_isSpread, cX1_isSpread, 1, 1, some .boolean, 1, 0, 525, 523, 524, 1, 30) := rfl
set_option maxRecDepth 100000 in
theorem mX_11 : mX 11 = (yX1_hasPrice, cX1_hasPrice, 1, 2, some .boolean, 2, 0, 875, 873, 874, 2, 50) := rfl
set_option maxRecDepth 100000 in
theorem mX_12 : mX 12 = (yX1_hasContract, cX1_hasContract, 1, 2, some .boolean, 2, 0, 990, 988, 989, 1, 30) := rfl
set_option maxRecDepth 100000 in
theorem mX_13 : mX 13 = (yX1_isBeyondBand, cX1_isBeyondBand, 1, 2, some .boolean, 2, 0, 635, 633, 634, 2, 50) := rfl
set_option maxRecDepth 100000 in
theorem mX_14 : mX 14 = (yX1_changeRule, cX1_changeRule, 1, 5, some .int, 4, 0, 766, 764, 765, 1, 30) := rfl
set_option maxRecDepth 100000 in
theorem mX_15 : mX 15 = (yX1_changeBand, cX1_changeBand, 1, 3, some .int, 2, 0, 770, 768, 769, 1, 30) := rfl
set_option maxRecDepth 100000 in
theorem mX_16 : mX 16 = (yX2_init, cX2_init, 2, 4, none, 3, 0, 433, 432, 0, 2, 50) := rfl
set_option maxRecDepth 100000 in
theorem mX_17 : mX 17 = (yX2_restore, cX2_restore, 2, 6, none, 1, 0, 537, 535, 536, 3, 70) := rfl
set_option maxRecDepth 100000 in
theorem mX_18 : mX 18 = (yX2_memberAt, cX2_memberAt, 2, 2, some (.object "Openbook$Member"), 2, 0, 1031, 1029, 1030, 1, 30) := rfl
set_option maxRecDepth 100000 in
theorem mX_19 : mX 19 = (yX2_lowerOf, cX2_lowerOf, 2, 2, some (.object "Openbook$Account"), 2, 0, 1064, 1062, 1063, 2, 51) := rfl
set_option maxRecDepth 100000 in
theorem mX_20 : mX 20 = (yX2_upperOf, cX2_upperOf, 2, 2, some (.object "Openbook$Account"), 2, 0, 1068, 1066, 1067, 2, 51) := rfl
set_option maxRecDepth 100000 in
theorem mX_21 : mX 21 = (yX2_tell, cX2_tell, 2, 4, some .long, 3, 0, 1425, 1423, 1424, 6, 145) := rfl
set_option maxRecDepth 100000 in
theorem mX_22 : mX 22 = (yX2_netOf, cX2_netOf, 2, 5, some .long, 3, 0, 1046, 1045, 23, 2, 51) := rfl
set_option maxRecDepth 100000 in
theorem mX_23 : mX 23 = (yX2_moveOf, cX2_moveOf, 2, 4, some .int, 3, 0, 1019, 1018, 20, 1, 30) := rfl
set_option maxRecDepth 100000 in
theorem mX_24 : mX 24 = (yX2_riskOf, cX2_riskOf, 2, 9, some .long, 3, 0, 1042, 1041, 22, 3, 75) := rfl
set_option maxRecDepth 100000 in
theorem mX_25 : mX 25 = (yX2_worthOf, cX2_worthOf, 2, 5, some .long, 2, 0, 1072, 1071, 25, 3, 75) := rfl
set_option maxRecDepth 100000 in
theorem mX_26 : mX 26 = (yX2_valueOf, cX2_valueOf, 2, 2, some .long, 2, 0, 1060, 1059, 24, 4, 99) := rfl
set_option maxRecDepth 100000 in
theorem mX_27 : mX 27 = (yX2_callOf, cX2_callOf, 2, 6, some .long, 4, 0, 1035, 1034, 21, 5, 120) := rfl
set_option maxRecDepth 100000 in
theorem mX_28 : mX 28 = (yX2_canPay, cX2_canPay, 2, 7, some .boolean, 4, 0, 1433, 1431, 1432, 6, 145) := rfl
set_option maxRecDepth 100000 in
theorem mX_29 : mX 29 = (yX2_bring, cX2_bring, 2, 5, some .int, 4, 0, 1027, 1025, 1026, 6, 145) := rfl
set_option maxRecDepth 100000 in
theorem mX_30 : mX 30 = (yX2_changeMove, cX2_changeMove, 2, 6, some .int, 4, 0, 1015, 1013, 1014, 2, 53) := rfl
set_option maxRecDepth 100000 in
theorem mX_31 : mX 31 = (yX2_changeHaircut, cX2_changeHaircut, 2, 3, some .int, 2, 0, 1023, 1021, 1022, 1, 30) := rfl
set_option maxRecDepth 100000 in
theorem mX_32 : mX 32 = (yX2_changeFund, cX2_changeFund, 2, 5, some .int, 3, 0, 1076, 1074, 1075, 2, 51) := rfl
set_option maxRecDepth 100000 in
theorem mX_33 : mX 33 = (yX2_canFail, cX2_canFail, 2, 3, some .boolean, 2, 0, 1444, 1442, 1443, 6, 145) := rfl
set_option maxRecDepth 100000 in
theorem mX_34 : mX 34 = (yX2_fall, cX2_fall, 2, 2, none, 2, 0, 1084, 1082, 1083, 2, 51) := rfl
set_option maxRecDepth 100000 in
theorem mX_35 : mX 35 = (yX2_takeBid, cX2_takeBid, 2, 9, some .int, 3, 0, 1092, 1090, 1091, 2, 51) := rfl
set_option maxRecDepth 100000 in
theorem mX_36 : mX 36 = (yX2_highestBidder, cX2_highestBidder, 2, 4, some .int, 1, 0, 1100, 1099, 26, 2, 51) := rfl
set_option maxRecDepth 100000 in
theorem mX_37 : mX 37 = (yX2_closePortfolio, cX2_closePortfolio, 2, 6, some .int, 1, 0, 1096, 1094, 1095, 6, 165) := rfl
set_option maxRecDepth 100000 in
theorem mX_38 : mX 38 = (yX2_handOver, cX2_handOver, 2, 9, none, 2, 0, 1104, 1103, 27, 4, 99) := rfl
set_option maxRecDepth 100000 in
theorem mX_39 : mX 39 = (yX2_cover, cX2_cover, 2, 8, none, 2, 0, 1109, 1108, 28, 5, 138) := rfl
set_option maxRecDepth 100000 in
theorem mX_40 : mX 40 = (yX2_give, cX2_give, 2, 6, some .long, 3, 0, 1113, 1112, 29, 2, 53) := rfl
set_option maxRecDepth 100000 in
theorem mX_41 : mX 41 = (yX2_sellUnits, cX2_sellUnits, 2, 8, some .long, 2, 0, 1120, 1119, 30, 3, 78) := rfl
set_option maxRecDepth 100000 in
theorem mX_42 : mX 42 = (yX2_givesIn, cX2_givesIn, 2, 5, some .boolean, 4, 0, 1128, 1127, 32, 2, 51) := rfl
set_option maxRecDepth 100000 in
theorem mX_43 : mX 43 = (yX2_shareLayer, cX2_shareLayer, 2, 9, none, 3, 0, 1124, 1123, 31, 4, 110) := rfl
set_option maxRecDepth 100000 in
theorem mX_44 : mX 44 = (yX2_shareLoss, cX2_shareLoss, 2, 13, none, 2, 0, 1132, 1131, 33, 3, 78) := rfl
set_option maxRecDepth 100000 in
theorem mX_45 : mX 45 = (yX3_init, cX3_init, 3, 3, none, 3, 0, 420, 419, 0, 1, 30) := rfl
set_option maxRecDepth 100000 in
theorem mX_46 : mX 46 = (yX3_makePair, cX3_makePair, 3, 11, some .boolean, 3, 0, 862, 860, 861, 5, 117) := rfl
set_option maxRecDepth 100000 in
theorem mX_47 : mX 47 = (yX3_makeChain, cX3_makeChain, 3, 13, some .boolean, 2, 0, 893, 891, 892, 5, 117) := rfl
set_option maxRecDepth 100000 in
theorem mX_48 : mX 48 = (yX3_isBarred, cX3_isBarred, 3, 4, some .boolean, 4, 1, 871, 870, 0, 3, 71) := rfl
set_option maxRecDepth 100000 in
theorem mX_49 : mX 49 = (yX3_record, cX3_record, 3, 9, none, 7, 0, 881, 880, 14, 3, 81) := rfl
set_option maxRecDepth 100000 in
theorem mX_50 : mX 50 = (yX3_fallTogether, cX3_fallTogether, 3, 6, none, 6, 0, 886, 885, 15, 4, 92) := rfl
set_option maxRecDepth 100000 in
theorem mX_51 : mX 51 = (yX4_init, cX4_init, 4, 3, none, 3, 0, 219, 218, 0, 1, 30) := rfl
set_option maxRecDepth 100000 in
theorem mX_52 : mX 52 = (yX4_fill, cX4_fill, 4, 6, none, 6, 0, 708, 706, 707, 1, 30) := rfl
set_option maxRecDepth 100000 in
theorem mX_53 : mX 53 = (yX4_counts, cX4_counts, 4, 1, some .boolean, 1, 0, 955, 953, 954, 1, 30) := rfl
set_option maxRecDepth 100000 in
theorem mX_54 : mX 54 = (yX4_tell, cX4_tell, 4, 2, some .int, 2, 0, 1380, 1378, 1379, 1, 30) := rfl
set_option maxRecDepth 100000 in
theorem mX_55 : mX 55 = (yX5_init, cX5_init, 5, 3, none, 1, 0, 70, 69, 0, 5, 115) := rfl
set_option maxRecDepth 100000 in
theorem mX_56 : mX 56 = (yX5_restore, cX5_restore, 5, 1, none, 1, 0, 513, 511, 512, 4, 95) := rfl
set_option maxRecDepth 100000 in
theorem mX_57 : mX 57 = (yX5_admits, cX5_admits, 5, 5, some .boolean, 4, 0, 1265, 1263, 1264, 4, 106) := rfl
set_option maxRecDepth 100000 in
theorem mX_58 : mX 58 = (yX5_tellLimit, cX5_tellLimit, 5, 9, some .int, 7, 0, 602, 600, 601, 7, 162) := rfl
set_option maxRecDepth 100000 in
theorem mX_59 : mX 59 = (yX5_tellMarket, cX5_tellMarket, 5, 5, some .int, 4, 0, 733, 731, 732, 7, 162) := rfl
set_option maxRecDepth 100000 in
theorem mX_60 : mX 60 = (yX5_tellIceberg, cX5_tellIceberg, 5, 7, some .int, 6, 0, 737, 735, 736, 7, 162) := rfl
set_option maxRecDepth 100000 in
theorem mX_61 : mX 61 = (yX5_tellPeg, cX5_tellPeg, 5, 7, some .int, 6, 0, 741, 739, 740, 4, 105) := rfl
set_option maxRecDepth 100000 in
theorem mX_62 : mX 62 = (yX5_tellStop, cX5_tellStop, 5, 8, some .int, 6, 0, 745, 743, 744, 4, 105) := rfl
set_option maxRecDepth 100000 in
theorem mX_63 : mX 63 = (yX5_tellQuote, cX5_tellQuote, 5, 10, some .int, 6, 0, 749, 747, 748, 7, 162) := rfl
set_option maxRecDepth 100000 in
theorem mX_64 : mX 64 = (yX5_place, cX5_place, 5, 2, none, 2, 0, 640, 639, 1, 6, 141) := rfl
set_option maxRecDepth 100000 in
theorem mX_65 : mX 65 = (yX5_letPass, cX5_letPass, 5, 7, some .int, 2, 0, 788, 786, 787, 7, 171) := rfl
set_option maxRecDepth 100000 in
theorem mX_66 : mX 66 = (yX5_undo, cX5_undo, 5, 4, some .int, 2, 0, 924, 922, 923, 4, 102) := rfl
set_option maxRecDepth 100000 in
theorem mX_67 : mX 67 = (yX5_convertContract, cX5_convertContract, 5, 6, some .int, 4, 0, 982, 980, 981, 4, 113) := rfl
set_option maxRecDepth 100000 in
theorem mX_68 : mX 68 = (yX5_convertPrice, cX5_convertPrice, 5, 4, some .int, 3, 1, 998, 997, 0, 2, 51) := rfl
set_option maxRecDepth 100000 in
theorem mX_69 : mX 69 = (yX5_failMember, cX5_failMember, 5, 2, some .int, 2, 0, 1080, 1078, 1079, 3, 72) := rfl
set_option maxRecDepth 100000 in
theorem mX_70 : mX 70 = (yX5_work, cX5_work, 5, 3, none, 1, 0, 837, 835, 836, 6, 149) := rfl
set_option maxRecDepth 100000 in
theorem mX_71 : mX 71 = (yX6_init, cX6_init, 6, 4, none, 3, 0, 271, 270, 0, 2, 52) := rfl
set_option maxRecDepth 100000 in
theorem mX_72 : mX 72 = (yX6_restore, cX6_restore, 6, 5, none, 1, 0, 517, 515, 516, 3, 70) := rfl
set_option maxRecDepth 100000 in
theorem mX_73 : mX 73 = (yX6_bookAt, cX6_bookAt, 6, 2, some (.object "Openbook$Book"), 2, 0, 607, 605, 606, 1, 30) := rfl
set_option maxRecDepth 100000 in
theorem mX_74 : mX 74 = (yX6_find, cX6_find, 6, 6, some (.object "Openbook$Order"), 2, 0, 761, 759, 760, 1, 30) := rfl
set_option maxRecDepth 100000 in
theorem mX_75 : mX 75 = (yX6_countLive, cX6_countLive, 6, 6, some .int, 1, 0, 1270, 1268, 1269, 1, 30) := rfl
set_option maxRecDepth 100000 in
theorem mX_76 : mX 76 = (yX6_draw, cX6_draw, 6, 10, some (.object "Openbook$Order"), 6, 0, 611, 609, 610, 3, 76) := rfl
set_option maxRecDepth 100000 in
theorem mX_77 : mX 77 = (yX6_stand, cX6_stand, 6, 2, none, 2, 0, 644, 642, 643, 3, 71) := rfl
set_option maxRecDepth 100000 in
theorem mX_78 : mX 78 = (yX6_nextTurn, cX6_nextTurn, 6, 1, some .int, 1, 0, 655, 653, 654, 1, 30) := rfl
set_option maxRecDepth 100000 in
theorem mX_79 : mX 79 = (yX6_showAnew, cX6_showAnew, 6, 2, none, 2, 0, 724, 722, 723, 3, 71) := rfl
set_option maxRecDepth 100000 in
theorem mX_80 : mX 80 = (yX6_bestPrice, cX6_bestPrice, 6, 9, some .int, 4, 0, 664, 662, 663, 2, 52) := rfl
set_option maxRecDepth 100000 in
theorem mX_81 : mX 81 = (yX6_firstOf, cX6_firstOf, 6, 9, some (.object "Openbook$Order"), 3, 0, 867, 865, 866, 3, 80) := rfl
set_option maxRecDepth 100000 in
theorem mX_82 : mX 82 = (yX6_sumShown, cX6_sumShown, 6, 9, some .int, 4, 0, 1521, 1519, 1520, 2, 52) := rfl
set_option maxRecDepth 100000 in
theorem mX_83 : mX 83 = (yX6_refuses, cX6_refuses, 6, 6, some .boolean, 4, 0, 1274, 1272, 1273, 3, 81) := rfl
set_option maxRecDepth 100000 in
theorem mX_84 : mX 84 = (yX6_reach, cX6_reach, 6, 10, some .long, 4, 0, 1279, 1278, 35, 2, 52) := rfl
set_option maxRecDepth 100000 in
theorem mX_85 : mX 85 = (yX6_withdraw, cX6_withdraw, 6, 3, some .int, 2, 0, 757, 755, 756, 2, 55) := rfl
set_option maxRecDepth 100000 in
theorem mX_86 : mX 86 = (yX6_withdrawQuote, cX6_withdrawQuote, 6, 7, none, 3, 0, 753, 751, 752, 1, 30) := rfl
set_option maxRecDepth 100000 in
theorem mX_87 : mX 87 = (yX6_withdrawContract, cX6_withdrawContract, 6, 7, some .int, 2, 0, 986, 984, 985, 2, 51) := rfl
set_option maxRecDepth 100000 in
theorem mX_88 : mX 88 = (yX6_withdrawMember, cX6_withdrawMember, 6, 7, some .int, 2, 0, 1088, 1086, 1087, 1, 30) := rfl
set_option maxRecDepth 100000 in
theorem mX_89 : mX 89 = (yX6_guard, cX6_guard, 6, 8, none, 3, 0, 720, 718, 719, 1, 30) := rfl
set_option maxRecDepth 100000 in
theorem mX_90 : mX 90 = (yX6_countQuotes, cX6_countQuotes, 6, 5, none, 1, 0, 792, 790, 791, 3, 77) := rfl
set_option maxRecDepth 100000 in
theorem mX_91 : mX 91 = (yX6_hasOtherSide, cX6_hasOtherSide, 6, 6, some .boolean, 2, 0, 796, 795, 9, 2, 52) := rfl
set_option maxRecDepth 100000 in
theorem mX_92 : mX 92 = (yX6_hasAuction, cX6_hasAuction, 6, 5, some .boolean, 1, 0, 1483, 1481, 1482, 1, 30) := rfl
set_option maxRecDepth 100000 in
theorem mX_93 : mX 93 = (yX6_beginAuction, cX6_beginAuction, 6, 4, some .int, 4, 0, 675, 673, 674, 1, 30) := rfl
set_option maxRecDepth 100000 in
theorem mX_94 : mX 94 = (yX6_openBook, cX6_openBook, 6, 6, none, 2, 0, 833, 831, 832, 3, 71) := rfl
set_option maxRecDepth 100000 in
theorem mX_95 : mX 95 = (yX6_turnDay, cX6_turnDay, 6, 6, some .int, 1, 0, 920, 918, 919, 1, 30) := rfl
set_option maxRecDepth 100000 in
theorem mX_96 : mX 96 = (yX6_dueStop, cX6_dueStop, 6, 6, some (.object "Openbook$Order"), 1, 0, 842, 840, 841, 2, 50) := rfl
set_option maxRecDepth 100000 in
theorem mX_97 : mX 97 = (yX6_holdStops, cX6_holdStops, 6, 7, none, 3, 0, 934, 932, 933, 2, 50) := rfl
set_option maxRecDepth 100000 in
theorem mX_98 : mX 98 = (yX6_pricePegs, cX6_pricePegs, 6, 4, none, 1, 0, 897, 895, 896, 4, 103) := rfl
set_option maxRecDepth 100000 in
theorem mX_99 : mX 99 = (yX6_nextPeg, cX6_nextPeg, 6, 7, some (.object "Openbook$Order"), 2, 0, 901, 900, 16, 1, 30) := rfl
set_option maxRecDepth 100000 in
theorem mX_100 : mX 100 = (yX6_pegPrice, cX6_pegPrice, 6, 4, some .int, 2, 0, 905, 904, 17, 3, 80) := rfl
set_option maxRecDepth 100000 in
theorem mX_101 : mX 101 = (yX6_movePeg, cX6_movePeg, 6, 3, none, 3, 0, 912, 911, 18, 3, 71) := rfl
set_option maxRecDepth 100000 in
theorem mX_102 : mX 102 = (yX7_init, cX7_init, 7, 3, none, 2, 0, 161, 160, 0, 2, 52) := rfl
set_option maxRecDepth 100000 in
theorem mX_103 : mX 103 = (yX7_restore, cX7_restore, 7, 5, none, 1, 0, 529, 527, 528, 2, 51) := rfl
set_option maxRecDepth 100000 in
theorem mX_104 : mX 104 = (yX7_accountAt, cX7_accountAt, 7, 2, some (.object "Openbook$Account"), 2, 0, 268, 266, 267, 1, 30) := rfl
set_option maxRecDepth 100000 in
theorem mX_105 : mX 105 = (yX7_record, cX7_record, 7, 7, none, 6, 0, 704, 702, 703, 2, 55) := rfl
set_option maxRecDepth 100000 in
theorem mX_106 : mX 106 = (yX7_find, cX7_find, 7, 4, some (.object "Openbook$Deal"), 2, 0, 857, 855, 856, 1, 30) := rfl
set_option maxRecDepth 100000 in
theorem mX_107 : mX 107 = (yX7_latestOf, cX7_latestOf, 7, 5, some .int, 2, 0, 850, 848, 849, 2, 53) := rfl
set_option maxRecDepth 100000 in
theorem mX_108 : mX 108 = (yX7_reverse, cX7_reverse, 7, 6, some .int, 2, 0, 928, 926, 927, 3, 77) := rfl
set_option maxRecDepth 100000 in
theorem mX_109 : mX 109 = (yX7_reprice, cX7_reprice, 7, 7, some .int, 3, 0, 938, 936, 937, 3, 77) := rfl
set_option maxRecDepth 100000 in
theorem mX_110 : mX 110 = (yX7_replaceSide, cX7_replaceSide, 7, 8, some .int, 4, 0, 942, 940, 941, 2, 53) := rfl
set_option maxRecDepth 100000 in
theorem mX_111 : mX 111 = (yX7_averageOf, cX7_averageOf, 7, 13, some .int, 4, 0, 951, 949, 950, 2, 55) := rfl
set_option maxRecDepth 100000 in
theorem mX_112 : mX 112 = (yX7_allotLots, cX7_allotLots, 7, 8, some .int, 5, 0, 947, 945, 946, 3, 87) := rfl
set_option maxRecDepth 100000 in
theorem mX_113 : mX 113 = (yX7_exerciseLots, cX7_exerciseLots, 7, 8, some .int, 4, 0, 970, 968, 969, 3, 82) := rfl
set_option maxRecDepth 100000 in
theorem mX_114 : mX 114 = (yX7_assign, cX7_assign, 7, 11, some .int, 2, 0, 978, 977, 19, 2, 52) := rfl
set_option maxRecDepth 100000 in
theorem mX_115 : mX 115 = (yX7_canConvert, cX7_canConvert, 7, 5, some .boolean, 4, 0, 1470, 1468, 1469, 2, 52) := rfl
set_option maxRecDepth 100000 in
theorem mX_116 : mX 116 = (yX7_scaled, cX7_scaled, 7, 3, some .long, 3, 1, 1007, 1006, 0, 1, 30) := rfl
set_option maxRecDepth 100000 in
theorem mX_117 : mX 117 = (yX7_convertPositions, cX7_convertPositions, 7, 17, none, 5, 0, 1004, 1002, 1003, 3, 77) := rfl
set_option maxRecDepth 100000 in
theorem mX_118 : mX 118 = (yX7_forget, cX7_forget, 7, 6, none, 2, 0, 994, 992, 993, 2, 51) := rfl
set_option maxRecDepth 100000 in
theorem mX_119 : mX 119 = (yX8_init, cX8_init, 8, 4, none, 3, 0, 400, 399, 0, 1, 30) := rfl
set_option maxRecDepth 100000 in
theorem mX_120 : mX 120 = (yX8_reachable, cX8_reachable, 8, 8, some .long, 2, 0, 623, 621, 622, 3, 71) := rfl
set_option maxRecDepth 100000 in
theorem mX_121 : mX 121 = (yX8_match, cX8_match, 8, 9, none, 2, 0, 659, 657, 658, 5, 113) := rfl
set_option maxRecDepth 100000 in
theorem mX_122 : mX 122 = (yX8_settle, cX8_settle, 8, 2, none, 2, 0, 728, 727, 8, 4, 92) := rfl
set_option maxRecDepth 100000 in
theorem mX_123 : mX 123 = (yX8_gather, cX8_gather, 8, 12, some .int, 3, 0, 679, 678, 2, 2, 52) := rfl
set_option maxRecDepth 100000 in
theorem mX_124 : mX 124 = (yX8_meetsOwn, cX8_meetsOwn, 8, 6, some .boolean, 3, 0, 683, 682, 3, 1, 30) := rfl
set_option maxRecDepth 100000 in
theorem mX_125 : mX 125 = (yX8_share, cX8_share, 8, 7, none, 4, 0, 687, 686, 4, 3, 78) := rfl
set_option maxRecDepth 100000 in
theorem mX_126 : mX 126 = (yX8_giveTop, cX8_giveTop, 8, 4, some .int, 4, 0, 692, 691, 5, 2, 51) := rfl
set_option maxRecDepth 100000 in
theorem mX_127 : mX 127 = (yX8_giveShares, cX8_giveShares, 8, 8, none, 3, 0, 696, 695, 6, 2, 51) := rfl
set_option maxRecDepth 100000 in
theorem mX_128 : mX 128 = (yX8_strike, cX8_strike, 8, 7, none, 5, 0, 700, 699, 7, 3, 81) := rfl
set_option maxRecDepth 100000 in
theorem mX_129 : mX 129 = (yX8_endAuction, cX8_endAuction, 8, 3, some .boolean, 2, 0, 800, 798, 799, 5, 134) := rfl
set_option maxRecDepth 100000 in
theorem mX_130 : mX 130 = (yX8_tradeAll, cX8_tradeAll, 8, 6, none, 3, 0, 820, 819, 11, 4, 107) := rfl
set_option maxRecDepth 100000 in
theorem mX_131 : mX 131 = (yX8_firstAt, cX8_firstAt, 8, 9, some (.object "Openbook$Order"), 4, 0, 824, 823, 12, 3, 74) := rfl
set_option maxRecDepth 100000 in
theorem mX_132 : mX 132 = (yX8_comesBefore, cX8_comesBefore, 8, 3, some .boolean, 3, 0, 828, 827, 13, 2, 52) := rfl
set_option maxRecDepth 100000 in
theorem mX_133 : mX 133 = (yX8_findPrice, cX8_findPrice, 8, 13, some .int, 2, 0, 804, 802, 803, 4, 102) := rfl
set_option maxRecDepth 100000 in
theorem mX_134 : mX 134 = (yX8_isNearer, cX8_isNearer, 8, 5, some .boolean, 3, 1, 816, 815, 0, 2, 50) := rfl
set_option maxRecDepth 100000 in
theorem mX_135 : mX 135 = (yX8_volumeAt, cX8_volumeAt, 8, 3, some .int, 3, 0, 808, 806, 807, 3, 80) := rfl
set_option maxRecDepth 100000 in
theorem mX_136 : mX 136 = (yX8_sumAt, cX8_sumAt, 8, 9, some .int, 4, 0, 812, 811, 10, 2, 52) := rfl
set_option maxRecDepth 100000 in
theorem mX_137 : mX 137 = (yX9_init, cX9_init, 9, 1, none, 1, 0, 442, 441, 0, 1, 30) := rfl
set_option maxRecDepth 100000 in
theorem mX_138 : mX 138 = (yX9_restore, cX9_restore, 9, 1, none, 1, 0, 541, 539, 540, 2, 50) := rfl
set_option maxRecDepth 100000 in
theorem mX_139 : mX 139 = (yX9_forgetBid, cX9_forgetBid, 9, 1, none, 1, 0, 545, 543, 544, 1, 30) := rfl
set_option maxRecDepth 100000 in
theorem mX_140 : mX 140 = (yX10_init, cX10_init, 10, 3, none, 3, 0, 278, 277, 0, 1, 30) := rfl
set_option maxRecDepth 100000 in
theorem mX_141 : mX 141 = (yX10_begin, cX10_begin, 10, 7, none, 7, 0, 615, 613, 614, 2, 50) := rfl
set_option maxRecDepth 100000 in
theorem mX_142 : mX 142 = (yX10_standsIn, cX10_standsIn, 10, 3, some .boolean, 3, 0, 627, 625, 626, 1, 30) := rfl
set_option maxRecDepth 100000 in
theorem mX_143 : mX 143 = (yX10_allows, cX10_allows, 10, 2, some .boolean, 2, 0, 631, 629, 630, 1, 30) := rfl
set_option maxRecDepth 100000 in
theorem mX_144 : mX 144 = (yX10_isBetter, cX10_isBetter, 10, 3, some .boolean, 3, 0, 670, 668, 669, 1, 30) := rfl
set_option maxRecDepth 100000 in
theorem mX_145 : mX 145 = (yX10_addsTo, cX10_addsTo, 10, 3, some .boolean, 3, 0, 1284, 1282, 1283, 1, 30) := rfl
set_option maxRecDepth 100000 in
theorem mX_146 : mX 146 = (yX10_isDue, cX10_isDue, 10, 1, some .boolean, 1, 0, 846, 844, 845, 1, 30) := rfl
set_option maxRecDepth 100000 in
theorem mX_147 : mX 147 = (yX10_hold, cX10_hold, 10, 1, none, 1, 0, 916, 914, 915, 1, 30) := rfl
set_option maxRecDepth 100000 in
theorem mX_148 : mX 148 = (yX10_showable, cX10_showable, 10, 1, some .int, 1, 0, 648, 646, 647, 2, 51) := rfl
set_option maxRecDepth 100000 in
theorem mX_149 : mX 149 = (yX10_fall, cX10_fall, 10, 2, none, 2, 0, 716, 714, 715, 1, 30) := rfl
set_option maxRecDepth 100000 in
theorem mX_150 : mX 150 = (yX11_init, cX11_init, 11, 1, none, 1, 0, 62, 61, 0, 6, 137) := rfl
set_option maxRecDepth 100000 in
theorem mX_151 : mX 151 = (yX11_limit, cX11_limit, 11, 8, some .int, 7, 0, 1156, 1154, 1155, 9, 227) := rfl
set_option maxRecDepth 100000 in
theorem mX_152 : mX 152 = (yX11_market, cX11_market, 11, 4, some .int, 4, 0, 1316, 1314, 1315, 9, 227) := rfl
set_option maxRecDepth 100000 in
theorem mX_153 : mX 153 = (yX11_iceberg, cX11_iceberg, 11, 6, some .int, 6, 0, 1323, 1321, 1322, 9, 227) := rfl
set_option maxRecDepth 100000 in
theorem mX_154 : mX 154 = (yX11_peg, cX11_peg, 11, 6, some .int, 6, 0, 1330, 1328, 1329, 9, 227) := rfl
set_option maxRecDepth 100000 in
theorem mX_155 : mX 155 = (yX11_stop, cX11_stop, 11, 6, some .int, 6, 0, 1337, 1335, 1336, 9, 227) := rfl
set_option maxRecDepth 100000 in
theorem mX_156 : mX 156 = (yX11_quote, cX11_quote, 11, 7, some .int, 6, 0, 1347, 1345, 1346, 9, 227) := rfl
set_option maxRecDepth 100000 in
theorem mX_157 : mX 157 = (yX11_setRule, cX11_setRule, 11, 5, some .int, 5, 0, 1398, 1396, 1397, 9, 227) := rfl
set_option maxRecDepth 100000 in
theorem mX_158 : mX 158 = (yX11_setBand, cX11_setBand, 11, 3, some .int, 3, 0, 1402, 1400, 1401, 9, 227) := rfl
set_option maxRecDepth 100000 in
theorem mX_159 : mX 159 = (yX11_setProtection, cX11_setProtection, 11, 3, some .int, 3, 0, 1414, 1412, 1413, 9, 227) := rfl
set_option maxRecDepth 100000 in
theorem mX_160 : mX 160 = (yX11_auction, cX11_auction, 11, 5, some .int, 5, 0, 1390, 1388, 1389, 9, 227) := rfl
set_option maxRecDepth 100000 in
theorem mX_161 : mX 161 = (yX11_pass, cX11_pass, 11, 2, some .int, 2, 0, 1406, 1404, 1405, 9, 227) := rfl
set_option maxRecDepth 100000 in
theorem mX_162 : mX 162 = (yX11_endDay, cX11_endDay, 11, 1, some .int, 1, 0, 1479, 1477, 1478, 9, 227) := rfl
set_option maxRecDepth 100000 in
theorem mX_163 : mX 163 = (yX11_bust, cX11_bust, 11, 2, some .int, 2, 0, 1363, 1361, 1362, 9, 227) := rfl
set_option maxRecDepth 100000 in
theorem mX_164 : mX 164 = (yX11_convert, cX11_convert, 11, 4, some .int, 4, 0, 1466, 1464, 1465, 9, 227) := rfl
set_option maxRecDepth 100000 in
theorem mX_165 : mX 165 = (yX11_setMove, cX11_setMove, 11, 4, some .int, 4, 0, 1410, 1408, 1409, 9, 227) := rfl
set_option maxRecDepth 100000 in
theorem mX_166 : mX 166 = (yX11_setHaircut, cX11_setHaircut, 11, 2, some .int, 2, 0, 1487, 1485, 1486, 9, 227) := rfl
set_option maxRecDepth 100000 in
theorem mX_167 : mX 167 = (yX11_pay, cX11_pay, 11, 4, some .int, 4, 0, 1429, 1427, 1428, 9, 227) := rfl
set_option maxRecDepth 100000 in
theorem mX_168 : mX 168 = (yX11_fail, cX11_fail, 11, 2, some .int, 2, 0, 1440, 1438, 1439, 9, 227) := rfl
set_option maxRecDepth 100000 in
theorem mX_169 : mX 169 = (yX11_bid, cX11_bid, 11, 3, some .int, 3, 0, 1451, 1449, 1450, 9, 227) := rfl
set_option maxRecDepth 100000 in
theorem mX_170 : mX 170 = (yX11_closeOut, cX11_closeOut, 11, 1, some .int, 1, 0, 1459, 1457, 1458, 9, 227) := rfl
set_option maxRecDepth 100000 in
theorem mX_171 : mX 171 = (yX11_keep, cX11_keep, 11, 1, some .int, 1, 0, 589, 587, 588, 1, 30) := rfl
set_option maxRecDepth 100000 in
theorem mX_172 : mX 172 = (yX11_failOver, cX11_failOver, 11, 3, some .int, 1, 0, 593, 591, 592, 9, 227) := rfl
set_option maxRecDepth 100000 in
theorem mX_173 : mX 173 = (yX11_events, cX11_events, 11, 1, some .int, 1, 0, 1138, 1136, 1137, 1, 30) := rfl
set_option maxRecDepth 100000 in
theorem mX_174 : mX 174 = (yX11_positionByLog, cX11_positionByLog, 11, 3, some .int, 3, 0, 1534, 1532, 1533, 9, 227) := rfl
set_option maxRecDepth 100000 in
theorem mX_175 : mX 175 = (yX11_bestByLog, cX11_bestByLog, 11, 3, some .int, 3, 0, 1538, 1536, 1537, 9, 227) := rfl
set_option maxRecDepth 100000 in
theorem mX_176 : mX 176 = (yX11_best, cX11_best, 11, 3, some .int, 3, 0, 1511, 1509, 1510, 7, 120) := rfl
set_option maxRecDepth 100000 in
theorem mX_177 : mX 177 = (yX11_shown, cX11_shown, 11, 4, some .int, 4, 0, 1517, 1515, 1516, 7, 120) := rfl
set_option maxRecDepth 100000 in
theorem mX_178 : mX 178 = (yX11_stateOf, cX11_stateOf, 11, 3, some .int, 2, 0, 1551, 1549, 1550, 2, 55) := rfl
set_option maxRecDepth 100000 in
theorem mX_179 : mX 179 = (yX11_rest, cX11_rest, 11, 3, some .int, 2, 0, 1556, 1554, 1555, 6, 100) := rfl
set_option maxRecDepth 100000 in
theorem mX_180 : mX 180 = (yX11_priceOf, cX11_priceOf, 11, 3, some .int, 2, 0, 1561, 1559, 1560, 6, 100) := rfl
set_option maxRecDepth 100000 in
theorem mX_181 : mX 181 = (yX11_last, cX11_last, 11, 4, some .int, 3, 0, 1547, 1545, 1546, 7, 120) := rfl
set_option maxRecDepth 100000 in
theorem mX_182 : mX 182 = (yX11_endOf, cX11_endOf, 11, 3, some .int, 2, 0, 1394, 1392, 1393, 7, 120) := rfl
set_option maxRecDepth 100000 in
theorem mX_183 : mX 183 = (yX11_indicated, cX11_indicated, 11, 5, some .int, 3, 0, 1525, 1523, 1524, 7, 134) := rfl
set_option maxRecDepth 100000 in
theorem mX_184 : mX 184 = (yX11_trades, cX11_trades, 11, 1, some .int, 1, 0, 1355, 1353, 1354, 1, 30) := rfl
set_option maxRecDepth 100000 in
theorem mX_185 : mX 185 = (yX11_trade, cX11_trade, 11, 4, some .int, 3, 0, 1376, 1374, 1375, 7, 122) := rfl
set_option maxRecDepth 100000 in
theorem mX_186 : mX 186 = (yX11_position, cX11_position, 11, 3, some .int, 3, 0, 1494, 1492, 1493, 7, 120) := rfl
set_option maxRecDepth 100000 in
theorem mX_187 : mX 187 = (yX11_cash, cX11_cash, 11, 2, some .long, 2, 0, 1503, 1501, 1502, 7, 120) := rfl
set_option maxRecDepth 100000 in
theorem mX_188 : mX 188 = (yX11_member, cX11_member, 11, 3, some .long, 3, 0, 1418, 1416, 1417, 7, 168) := rfl
set_option maxRecDepth 100000 in
theorem mX_189 : mX 189 = (yX11_stake, cX11_stake, 11, 1, some .int, 1, 0, 1499, 1497, 1498, 1, 30) := rfl
set_option maxRecDepth 100000 in
theorem mX_190 : mX 190 = (yX11_needPlace, cX11_needPlace, 11, 1, none, 1, 1, 1168, 1167, 0, 6, 100) := rfl
set_option maxRecDepth 100000 in
theorem mX_191 : mX 191 = (yX11_needRange, cX11_needRange, 11, 1, none, 1, 1, 1245, 1244, 0, 6, 100) := rfl
set_option maxRecDepth 100000 in
theorem mX_192 : mX 192 = (yX11_needState, cX11_needState, 11, 1, none, 1, 1, 1289, 1288, 0, 6, 100) := rfl
set_option maxRecDepth 100000 in
theorem mX_193 : mX 193 = (yX11_isWithin, cX11_isWithin, 11, 3, some .boolean, 3, 1, 1162, 1161, 0, 1, 30) := rfl
set_option maxRecDepth 100000 in
theorem mX_194 : mX 194 = (yX11_isTrader, cX11_isTrader, 11, 1, some .boolean, 1, 1, 1159, 1158, 0, 2, 52) := rfl
set_option maxRecDepth 100000 in
theorem mX_195 : mX 195 = (yX11_isBook, cX11_isBook, 11, 1, some .boolean, 1, 1, 1165, 1164, 0, 2, 52) := rfl
set_option maxRecDepth 100000 in
theorem mX_196 : mX 196 = (yX11_isContract, cX11_isContract, 11, 1, some .boolean, 1, 1, 1340, 1339, 0, 2, 52) := rfl
set_option maxRecDepth 100000 in
theorem mX_197 : mX 197 = (yX11_isMember, cX11_isMember, 11, 1, some .boolean, 1, 1, 1421, 1420, 0, 2, 52) := rfl
set_option maxRecDepth 100000 in
theorem mX_198 : mX 198 = (yX11_isQuantity, cX11_isQuantity, 11, 1, some .boolean, 1, 1, 1240, 1239, 0, 2, 52) := rfl
set_option maxRecDepth 100000 in
theorem mX_199 : mX 199 = (yX11_keptDeal, cX11_keptDeal, 11, 3, some (.object "Openbook$Deal"), 2, 0, 1367, 1366, 37, 6, 100) := rfl
set_option maxRecDepth 100000 in
theorem mX_200 : mX 200 = (yX11_enter, cX11_enter, 11, 9, some .int, 8, 0, 1309, 1308, 36, 1, 30) := rfl
set_option maxRecDepth 100000 in
theorem mX_201 : mX 201 = (yX11_play, cX11_play, 11, 11, some .int, 3, 0, 598, 597, 0, 8, 197) := rfl
set_option maxRecDepth 100000 in
theorem mX_202 : mX 202 = (yJ9_floorDiv_b2ac5, cJ9_floorDiv_b2ac5, 14, 3, some .long, 2, 1, 1010, 1009, 0, 2, 55) := rfl
set_option maxRecDepth 100000 in
theorem mX_203 : mX 203 = (yJ9_floorDiv_f86c9, cJ9_floorDiv_f86c9, 14, 6, some .long, 2, 1, 958, 957, 0, 1, 30) := rfl
set_option maxRecDepth 100000 in
theorem mX_204 : mX 204 = (yJ9_floorMod_7cf53, cJ9_floorMod_7cf53, 14, 3, some .int, 2, 1, 974, 973, 0, 1, 30) := rfl
set_option maxRecDepth 100000 in
theorem mX_205 : mX 205 = (yJ9_abs_0f7a4, cJ9_abs_0f7a4, 14, 1, some .int, 1, 1, 619, 618, 0, 1, 30) := rfl
set_option maxRecDepth 100000 in
theorem mX_206 : mX 206 = (yJ9_abs_067f4, cJ9_abs_067f4, 14, 2, some .long, 1, 1, 1055, 1054, 0, 1, 30) := rfl
set_option maxRecDepth 100000 in
theorem mX_207 : mX 207 = (yJ9_max_7cf53, cJ9_max_7cf53, 14, 2, some .int, 2, 1, 853, 852, 0, 1, 30) := rfl
set_option maxRecDepth 100000 in
theorem mX_208 : mX 208 = (yJ9_max_f86c9, cJ9_max_f86c9, 14, 4, some .long, 2, 1, 1051, 1050, 0, 1, 30) := rfl
set_option maxRecDepth 100000 in
theorem mX_209 : mX 209 = (yJ9_min_7cf53, cJ9_min_7cf53, 14, 2, some .int, 2, 1, 651, 650, 0, 1, 30) := rfl
set_option maxRecDepth 100000 in
theorem mX_210 : mX 210 = (yJ9_min_f86c9, cJ9_min_f86c9, 14, 4, some .long, 2, 1, 1116, 1115, 0, 1, 30) := rfl
set_option maxRecDepth 100000 in
theorem mX_211 : mX 211 = (yL_drawn, cL_drawn, 13, 4, some .int, 3, 1, 1141, 1140, 0, 1, 30) := rfl
set_option maxRecDepth 100000 in
theorem mX_212 : mX 212 = (yL_isNoLimit, cL_isNoLimit, 13, 6, some .boolean, 5, 1, 1151, 1150, 0, 10, 254) := rfl
set_option maxRecDepth 100000 in
theorem mX_213 : mX 213 = (yL_isNoQuote, cL_isNoQuote, 13, 5, some .boolean, 4, 1, 1343, 1342, 0, 10, 253) := rfl
set_option maxRecDepth 100000 in
theorem mX_214 : mX 214 = (yL_isNoAuction, cL_isNoAuction, 13, 3, some .boolean, 2, 1, 1386, 1385, 0, 10, 251) := rfl
set_option maxRecDepth 100000 in
theorem mX_215 : mX 215 = (yL_isNoEnd, cL_isNoEnd, 13, 2, some .boolean, 1, 1, 1475, 1474, 0, 10, 247) := rfl
set_option maxRecDepth 100000 in
theorem mX_216 : mX 216 = (yL_isNoClosing, cL_isNoClosing, 13, 2, some .boolean, 1, 1, 1455, 1454, 0, 10, 247) := rfl
set_option maxRecDepth 100000 in
theorem mX_217 : mX 217 = (yL_isNoBid, cL_isNoBid, 13, 4, some .boolean, 3, 1, 1447, 1446, 0, 10, 249) := rfl
set_option maxRecDepth 100000 in
theorem mX_218 : mX 218 = (yL_isNoFail, cL_isNoFail, 13, 3, some .boolean, 2, 1, 1436, 1435, 0, 10, 248) := rfl
set_option maxRecDepth 100000 in
theorem mX_219 : mX 219 = (yL_isNoStop, cL_isNoStop, 13, 6, some .boolean, 5, 1, 1333, 1332, 0, 10, 252) := rfl
set_option maxRecDepth 100000 in
theorem mX_220 : mX 220 = (yL_isNoMarket, cL_isNoMarket, 13, 5, some .boolean, 4, 1, 1312, 1311, 0, 10, 250) := rfl
set_option maxRecDepth 100000 in
theorem mX_221 : mX 221 = (yL_isNoIceberg, cL_isNoIceberg, 13, 6, some .boolean, 5, 1, 1319, 1318, 0, 10, 252) := rfl
set_option maxRecDepth 100000 in
theorem mX_222 : mX 222 = (yL_isNoPeg, cL_isNoPeg, 13, 6, some .boolean, 5, 1, 1326, 1325, 0, 10, 252) := rfl
set_option maxRecDepth 100000 in
theorem mX_223 : mX 223 = (yL_isNoBust, cL_isNoBust, 13, 3, some .boolean, 2, 1, 1383, 1382, 0, 10, 248) := rfl
set_option maxRecDepth 100000 in
theorem mX_224 : mX 224 = (yL_isLostBust, cL_isLostBust, 13, 3, some .boolean, 2, 1, 1358, 1357, 0, 10, 248) := rfl
set_option maxRecDepth 100000 in
theorem mX_225 : mX 225 = (yL_isLostTrade, cL_isLostTrade, 13, 3, some .boolean, 2, 1, 1372, 1371, 0, 8, 145) := rfl
set_option maxRecDepth 100000 in
theorem mX_226 : mX 226 = (yL_isNoConvert, cL_isNoConvert, 13, 5, some .boolean, 4, 1, 1462, 1461, 0, 10, 250) := rfl
set_option maxRecDepth 100000 in
theorem mX_227 : mX 227 = (yL_range, cL_range, 13, 1, some .int, 1, 1, 1148, 1147, 0, 1, 30) := rfl
set_option maxRecDepth 100000 in
theorem mX_228 : mX 228 = (yL_isOrdered, cL_isOrdered, 13, 9, some .boolean, 2, 1, 1145, 1144, 0, 11, 279) := rfl
set_option maxRecDepth 100000 in
theorem mX_229 : mX 229 = (yL_isLater, cL_isLater, 13, 6, some .boolean, 3, 1, 1351, 1350, 0, 11, 274) := rfl
set_option maxRecDepth 100000 in
theorem mX_230 : mX 230 = (yL_isBalanced, cL_isBalanced, 13, 6, some .boolean, 2, 1, 1490, 1489, 0, 8, 190) := rfl
set_option maxRecDepth 100000 in
theorem mX_231 : mX 231 = (yL_areOrders, cL_areOrders, 13, 6, some .boolean, 1, 1, 1507, 1506, 0, 8, 190) := rfl
set_option maxRecDepth 100000 in
theorem mX_232 : mX 232 = (yL_isByLog, cL_isByLog, 13, 2, some .boolean, 2, 1, 1530, 1529, 0, 10, 249) := rfl
set_option maxRecDepth 100000 in
theorem mX_233 : mX 233 = (yL_sum, cL_sum, 13, 5, some .long, 1, 1, 1541, 1540, 0, 8, 190) := rfl
def EMc (y : MethodName) (b : ByteArray) (o L : Nat) (r : Option FieldType) (n st : Nat) : Prop := y.cls = cN o ∧ plainFor y = true ∧ (y.cls ≠ "java/lang/invoke/MethodHandle" ∧ y.cls ≠ "java/lang/invoke/VarHandle") ∧ Cond.initialized y.cls ∈ GW ∧ (st = 1 → Cond.static y ∈ GW ∧ (parseMethodDescriptor y.desc).map (fun d => d.parameters.length) = some n) ∧ (st = 0 → Cond.instanceMethod y ∈ GW ∧ (parseMethodDescriptor y.desc).map (fun d => d.parameters.length + 1) = some n) ∧ (st = 0 → y.name = "<init>" ∨ Cond.selects (cN o) y y ∈ GW)
theorem cls_ok {o : Nat} (h : o < 15) : (o < 14 → plainName (cN o) = true) ∧ (cN o ≠ "java/lang/invoke/MethodHandle" ∧ cN o ≠ "java/lang/invoke/VarHandle") ∧ Cond.initialized (cN o) ∈ GW := by
  match o, h with
  | 0, _ => exact ⟨fun q => by first | decide +kernel | (exact absurd q (by decide)), ⟨by decide +kernel, by decide +kernel⟩, gt1 5 rfl rfl⟩
  | 1, _ => exact ⟨fun q => by first | decide +kernel | (exact absurd q (by decide)), ⟨by decide +kernel, by decide +kernel⟩, gt1 3 rfl rfl⟩
  | 2, _ => exact ⟨fun q => by first | decide +kernel | (exact absurd q (by decide)), ⟨by decide +kernel, by decide +kernel⟩, gt1 11 rfl rfl⟩
  | 3, _ => exact ⟨fun q => by first | decide +kernel | (exact absurd q (by decide)), ⟨by decide +kernel, by decide +kernel⟩, gt1 10 rfl rfl⟩
  | 4, _ => exact ⟨fun q => by first | decide +kernel | (exact absurd q (by decide)), ⟨by decide +kernel, by decide +kernel⟩, gt1 6 rfl rfl⟩
  | 5, _ => exact ⟨fun q => by first | decide +kernel | (exact absurd q (by decide)), ⟨by decide +kernel, by decide +kernel⟩, gt1 2 rfl rfl⟩
  | 6, _ => exact ⟨fun q => by first | decide +kernel | (exact absurd q (by decide)), ⟨by decide +kernel, by decide +kernel⟩, gt1 7 rfl rfl⟩
  | 7, _ => exact ⟨fun q => by first | decide +kernel | (exact absurd q (by decide)), ⟨by decide +kernel, by decide +kernel⟩, gt1 4 rfl rfl⟩
  | 8, _ => exact ⟨fun q => by first | decide +kernel | (exact absurd q (by decide)), ⟨by decide +kernel, by decide +kernel⟩, gt1 9 rfl rfl⟩
  | 9, _ => exact ⟨fun q => by first | decide +kernel | (exact absurd q (by decide)), ⟨by decide +kernel, by decide +kernel⟩, gt1 12 rfl rfl⟩
  | 10, _ => exact ⟨fun q => by first | decide +kernel | (exact absurd q (by decide)), ⟨by decide +kernel, by decide +kernel⟩, gt1 8 rfl rfl⟩
  | 11, _ => exact ⟨fun q => by first | decide +kernel | (exact absurd q (by decide)), ⟨by decide +kernel, by decide +kernel⟩, gt1 1 rfl rfl⟩
  | 12, _ => exact ⟨fun q => by first | decide +kernel | (exact absurd q (by decide)), ⟨by decide +kernel, by decide +kernel⟩, gt1 1 rfl rfl⟩
  | 13, _ => exact ⟨fun q => by first | decide +kernel | (exact absurd q (by decide)), ⟨by decide +kernel, by decide +kernel⟩, gt1 0 rfl rfl⟩
  | 14, _ => exact ⟨fun q => by first | decide +kernel | (exact absurd q (by decide)), ⟨by decide +kernel, by decide +kernel⟩, gt1 17 rfl rfl⟩
set_option maxRecDepth 100000 in
theorem math_ok : ∀ y ∈ ([yJ9_floorDiv_b2ac5, yJ9_floorDiv_f86c9, yJ9_floorMod_7cf53, yJ9_abs_0f7a4, yJ9_abs_067f4, yJ9_max_7cf53, yJ9_max_f86c9, yJ9_min_7cf53, yJ9_min_f86c9] : List MethodName), plainFor y = true := by decide +kernel
set_option maxRecDepth 100000 in
theorem em_0 : EMc yX0_init cX0_init 0 2 (none) 2 0 := ⟨rfl, plainFor_of_name ((cls_ok (o := 0) (by decide)).1 (by decide)), (cls_ok (o := 0) (by decide)).2.1, (cls_ok (o := 0) (by decide)).2.2, fun q => absurd q (by decide), fun _ => ⟨gt1 131 rfl rfl, by decide +kernel⟩, fun _ => Or.inl rfl⟩
set_option maxRecDepth 100000 in
theorem ec_0 : Cond.code yX0_init cX0_init 2 (none) ∈ GW := gt1 132 rfl rfl
set_option maxRecDepth 100000 in
theorem em_1 : EMc yX0_restore cX0_restore 0 2 (none) 1 0 := ⟨rfl, plainFor_of_name ((cls_ok (o := 0) (by decide)).1 (by decide)), (cls_ok (o := 0) (by decide)).2.1, (cls_ok (o := 0) (by decide)).2.2, fun q => absurd q (by decide), fun _ => ⟨gt3 13 rfl rfl, by decide +kernel⟩, fun _ => Or.inr (gt3 14 rfl rfl)⟩
set_option maxRecDepth 100000 in
theorem ec_1 : Cond.code yX0_restore cX0_restore 2 (none) ∈ GW := gt3 15 rfl rfl
set_option maxRecDepth 100000 in
theorem em_2 : EMc yX0_holds cX0_holds 0 2 (some .int) 2 0 := ⟨rfl, plainFor_of_name ((cls_ok (o := 0) (by decide)).1 (by decide)), (cls_ok (o := 0) (by decide)).2.1, (cls_ok (o := 0) (by decide)).2.2, fun q => absurd q (by decide), fun _ => ⟨gt4 202 rfl rfl, by decide +kernel⟩, fun _ => Or.inr (gt4 203 rfl rfl)⟩
set_option maxRecDepth 100000 in
theorem ec_2 : Cond.code yX0_holds cX0_holds 2 (some .int) ∈ GW := gt4 204 rfl rfl
set_option maxRecDepth 100000 in
theorem em_3 : EMc yX0_limitOf cX0_limitOf 0 2 (some .int) 2 0 := ⟨rfl, plainFor_of_name ((cls_ok (o := 0) (by decide)).1 (by decide)), (cls_ok (o := 0) (by decide)).2.1, (cls_ok (o := 0) (by decide)).2.2, fun q => absurd q (by decide), fun _ => ⟨gt4 23 rfl rfl, by decide +kernel⟩, fun _ => Or.inr (gt4 24 rfl rfl)⟩
set_option maxRecDepth 100000 in
theorem ec_3 : Cond.code yX0_limitOf cX0_limitOf 2 (some .int) ∈ GW := gt4 25 rfl rfl
set_option maxRecDepth 100000 in
theorem em_4 : EMc yX0_put cX0_put 0 3 (none) 3 0 := ⟨rfl, plainFor_of_name ((cls_ok (o := 0) (by decide)).1 (by decide)), (cls_ok (o := 0) (by decide)).2.1, (cls_ok (o := 0) (by decide)).2.2, fun q => absurd q (by decide), fun _ => ⟨gt4 206 rfl rfl, by decide +kernel⟩, fun _ => Or.inr (gt4 207 rfl rfl)⟩
set_option maxRecDepth 100000 in
theorem ec_4 : Cond.code yX0_put cX0_put 3 (none) ∈ GW := gt4 208 rfl rfl
set_option maxRecDepth 100000 in
theorem em_5 : EMc yX0_take cX0_take 0 4 (none) 4 0 := ⟨rfl, plainFor_of_name ((cls_ok (o := 0) (by decide)).1 (by decide)), (cls_ok (o := 0) (by decide)).2.1, (cls_ok (o := 0) (by decide)).2.2, fun q => absurd q (by decide), fun _ => ⟨gt3 192 rfl rfl, by decide +kernel⟩, fun _ => Or.inr (gt3 193 rfl rfl)⟩
set_option maxRecDepth 100000 in
theorem ec_5 : Cond.code yX0_take cX0_take 4 (none) ∈ GW := gt3 194 rfl rfl
set_option maxRecDepth 100000 in
theorem em_6 : EMc yX0_changeProtection cX0_changeProtection 0 3 (some .int) 2 0 := ⟨rfl, plainFor_of_name ((cls_ok (o := 0) (by decide)).1 (by decide)), (cls_ok (o := 0) (by decide)).2.1, (cls_ok (o := 0) (by decide)).2.2, fun q => absurd q (by decide), fun _ => ⟨gt4 15 rfl rfl, by decide +kernel⟩, fun _ => Or.inr (gt4 16 rfl rfl)⟩
set_option maxRecDepth 100000 in
theorem ec_6 : Cond.code yX0_changeProtection cX0_changeProtection 3 (some .int) ∈ GW := gt4 17 rfl rfl
set_option maxRecDepth 100000 in
theorem em_7 : EMc yX0_changeLimit cX0_changeLimit 0 4 (some .int) 3 0 := ⟨rfl, plainFor_of_name ((cls_ok (o := 0) (by decide)).1 (by decide)), (cls_ok (o := 0) (by decide)).2.1, (cls_ok (o := 0) (by decide)).2.2, fun q => absurd q (by decide), fun _ => ⟨gt4 19 rfl rfl, by decide +kernel⟩, fun _ => Or.inr (gt4 20 rfl rfl)⟩
set_option maxRecDepth 100000 in
theorem ec_7 : Cond.code yX0_changeLimit cX0_changeLimit 4 (some .int) ∈ GW := gt4 21 rfl rfl
set_option maxRecDepth 100000 in
theorem em_8 : EMc yX1_init cX1_init 1 2 (none) 2 0 := ⟨rfl, plainFor_of_name ((cls_ok (o := 1) (by decide)).1 (by decide)), (cls_ok (o := 1) (by decide)).2.1, (cls_ok (o := 1) (by decide)).2.2, fun q => absurd q (by decide), fun _ => ⟨gt1 38 rfl rfl, by decide +kernel⟩, fun _ => Or.inl rfl⟩
set_option maxRecDepth 100000 in
theorem ec_8 : Cond.code yX1_init cX1_init 2 (none) ∈ GW := gt1 39 rfl rfl
set_option maxRecDepth 100000 in
theorem em_9 : EMc yX1_restore cX1_restore 1 1 (none) 1 0 := ⟨rfl, plainFor_of_name ((cls_ok (o := 1) (by decide)).1 (by decide)), (cls_ok (o := 1) (by decide)).2.1, (cls_ok (o := 1) (by decide)).2.2, fun q => absurd q (by decide), fun _ => ⟨gt3 1 rfl rfl, by decide +kernel⟩, fun _ => Or.inr (gt3 2 rfl rfl)⟩
set_option maxRecDepth 100000 in
theorem ec_9 : Cond.code yX1_restore cX1_restore 1 (none) ∈ GW := gt3 3 rfl rfl
set_option maxRecDepth 100000 in
theorem em_10 : EMc yX1_isSpread cX1_isSpread 1 1 (some .boolean) 1 0 := ⟨rfl, plainFor_of_name ((cls_ok (o := 1) (by decide)).1 (by decide)), (cls_ok (o := 1) (by decide)).2.1, (cls_ok (o := 1) (by decide)).2.2, fun q => absurd q (by decide), fun _ => ⟨gt3 5 rfl rfl, by decide +kernel⟩, fun _ => Or.inr (gt3 6 rfl rfl)⟩
set_option maxRecDepth 100000 in
theorem ec_10 : Cond.code yX1_isSpread cX1_isSpread 1 (some .boolean) ∈ GW := gt3 7 rfl rfl
set_option maxRecDepth 100000 in
theorem em_11 : EMc yX1_hasPrice cX1_hasPrice 1 2 (some .boolean) 2 0 := ⟨rfl, plainFor_of_name ((cls_ok (o := 1) (by decide)).1 (by decide)), (cls_ok (o := 1) (by decide)).2.1, (cls_ok (o := 1) (by decide)).2.2, fun q => absurd q (by decide), fun _ => ⟨gt4 115 rfl rfl, by decide +kernel⟩, fun _ => Or.inr (gt4 116 rfl rfl)⟩
set_option maxRecDepth 100000 in
theorem ec_11 : Cond.code yX1_hasPrice cX1_hasPrice 2 (some .boolean) ∈ GW := gt4 117 rfl rfl
set_option maxRecDepth 100000 in
theorem em_12 : EMc yX1_hasContract cX1_hasContract 1 2 (some .boolean) 2 0 := ⟨rfl, plainFor_of_name ((cls_ok (o := 1) (by decide)).1 (by decide)), (cls_ok (o := 1) (by decide)).2.1, (cls_ok (o := 1) (by decide)).2.2, fun q => absurd q (by decide), fun _ => ⟨gt4 230 rfl rfl, by decide +kernel⟩, fun _ => Or.inr (gt4 231 rfl rfl)⟩
set_option maxRecDepth 100000 in
theorem ec_12 : Cond.code yX1_hasContract cX1_hasContract 2 (some .boolean) ∈ GW := gt4 232 rfl rfl
set_option maxRecDepth 100000 in
theorem em_13 : EMc yX1_isBeyondBand cX1_isBeyondBand 1 2 (some .boolean) 2 0 := ⟨rfl, plainFor_of_name ((cls_ok (o := 1) (by decide)).1 (by decide)), (cls_ok (o := 1) (by decide)).2.1, (cls_ok (o := 1) (by decide)).2.2, fun q => absurd q (by decide), fun _ => ⟨gt3 115 rfl rfl, by decide +kernel⟩, fun _ => Or.inr (gt3 116 rfl rfl)⟩
set_option maxRecDepth 100000 in
theorem ec_13 : Cond.code yX1_isBeyondBand cX1_isBeyondBand 2 (some .boolean) ∈ GW := gt3 117 rfl rfl
set_option maxRecDepth 100000 in
theorem em_14 : EMc yX1_changeRule cX1_changeRule 1 5 (some .int) 4 0 := ⟨rfl, plainFor_of_name ((cls_ok (o := 1) (by decide)).1 (by decide)), (cls_ok (o := 1) (by decide)).2.1, (cls_ok (o := 1) (by decide)).2.2, fun q => absurd q (by decide), fun _ => ⟨gt4 6 rfl rfl, by decide +kernel⟩, fun _ => Or.inr (gt4 7 rfl rfl)⟩
set_option maxRecDepth 100000 in
theorem ec_14 : Cond.code yX1_changeRule cX1_changeRule 5 (some .int) ∈ GW := gt4 8 rfl rfl
set_option maxRecDepth 100000 in
theorem em_15 : EMc yX1_changeBand cX1_changeBand 1 3 (some .int) 2 0 := ⟨rfl, plainFor_of_name ((cls_ok (o := 1) (by decide)).1 (by decide)), (cls_ok (o := 1) (by decide)).2.1, (cls_ok (o := 1) (by decide)).2.2, fun q => absurd q (by decide), fun _ => ⟨gt4 10 rfl rfl, by decide +kernel⟩, fun _ => Or.inr (gt4 11 rfl rfl)⟩
set_option maxRecDepth 100000 in
theorem ec_15 : Cond.code yX1_changeBand cX1_changeBand 3 (some .int) ∈ GW := gt4 12 rfl rfl
set_option maxRecDepth 100000 in
theorem em_16 : EMc yX2_init cX2_init 2 4 (none) 3 0 := ⟨rfl, plainFor_of_name ((cls_ok (o := 2) (by decide)).1 (by decide)), (cls_ok (o := 2) (by decide)).2.1, (cls_ok (o := 2) (by decide)).2.2, fun q => absurd q (by decide), fun _ => ⟨gt2 154 rfl rfl, by decide +kernel⟩, fun _ => Or.inl rfl⟩
set_option maxRecDepth 100000 in
theorem ec_16 : Cond.code yX2_init cX2_init 4 (none) ∈ GW := gt2 155 rfl rfl
set_option maxRecDepth 100000 in
theorem em_17 : EMc yX2_restore cX2_restore 2 6 (none) 1 0 := ⟨rfl, plainFor_of_name ((cls_ok (o := 2) (by decide)).1 (by decide)), (cls_ok (o := 2) (by decide)).2.1, (cls_ok (o := 2) (by decide)).2.2, fun q => absurd q (by decide), fun _ => ⟨gt3 17 rfl rfl, by decide +kernel⟩, fun _ => Or.inr (gt3 18 rfl rfl)⟩
set_option maxRecDepth 100000 in
theorem ec_17 : Cond.code yX2_restore cX2_restore 6 (none) ∈ GW := gt3 19 rfl rfl
set_option maxRecDepth 100000 in
theorem em_18 : EMc yX2_memberAt cX2_memberAt 2 2 (some (.object "Openbook$Member")) 2 0 := ⟨rfl, plainFor_of_name ((cls_ok (o := 2) (by decide)).1 (by decide)), (cls_ok (o := 2) (by decide)).2.1, (cls_ok (o := 2) (by decide)).2.2, fun q => absurd q (by decide), fun _ => ⟨gt5 31 rfl rfl, by decide +kernel⟩, fun _ => Or.inr (gt5 32 rfl rfl)⟩
set_option maxRecDepth 100000 in
theorem ec_18 : Cond.code yX2_memberAt cX2_memberAt 2 (some (.object "Openbook$Member")) ∈ GW := gt5 33 rfl rfl
set_option maxRecDepth 100000 in
theorem em_19 : EMc yX2_lowerOf cX2_lowerOf 2 2 (some (.object "Openbook$Account")) 2 0 := ⟨rfl, plainFor_of_name ((cls_ok (o := 2) (by decide)).1 (by decide)), (cls_ok (o := 2) (by decide)).2.1, (cls_ok (o := 2) (by decide)).2.2, fun q => absurd q (by decide), fun _ => ⟨gt5 64 rfl rfl, by decide +kernel⟩, fun _ => Or.inr (gt5 65 rfl rfl)⟩
set_option maxRecDepth 100000 in
theorem ec_19 : Cond.code yX2_lowerOf cX2_lowerOf 2 (some (.object "Openbook$Account")) ∈ GW := gt5 66 rfl rfl
set_option maxRecDepth 100000 in
theorem em_20 : EMc yX2_upperOf cX2_upperOf 2 2 (some (.object "Openbook$Account")) 2 0 := ⟨rfl, plainFor_of_name ((cls_ok (o := 2) (by decide)).1 (by decide)), (cls_ok (o := 2) (by decide)).2.1, (cls_ok (o := 2) (by decide)).2.2, fun q => absurd q (by decide), fun _ => ⟨gt5 68 rfl rfl, by decide +kernel⟩, fun _ => Or.inr (gt5 69 rfl rfl)⟩
set_option maxRecDepth 100000 in
theorem ec_20 : Cond.code yX2_upperOf cX2_upperOf 2 (some (.object "Openbook$Account")) ∈ GW := gt5 70 rfl rfl
set_option maxRecDepth 100000 in
theorem em_21 : EMc yX2_tell cX2_tell 2 4 (some .long) 3 0 := ⟨rfl, plainFor_of_name ((cls_ok (o := 2) (by decide)).1 (by decide)), (cls_ok (o := 2) (by decide)).2.1, (cls_ok (o := 2) (by decide)).2.2, fun q => absurd q (by decide), fun _ => ⟨gt6 185 rfl rfl, by decide +kernel⟩, fun _ => Or.inr (gt6 186 rfl rfl)⟩
set_option maxRecDepth 100000 in
theorem ec_21 : Cond.code yX2_tell cX2_tell 4 (some .long) ∈ GW := gt6 187 rfl rfl
set_option maxRecDepth 100000 in
theorem em_22 : EMc yX2_netOf cX2_netOf 2 5 (some .long) 3 0 := ⟨rfl, plainFor_of_name ((cls_ok (o := 2) (by decide)).1 (by decide)), (cls_ok (o := 2) (by decide)).2.1, (cls_ok (o := 2) (by decide)).2.2, fun q => absurd q (by decide), fun _ => ⟨gt5 47 rfl rfl, by decide +kernel⟩, fun _ => Or.inr (gp1 7 rfl)⟩
set_option maxRecDepth 100000 in
theorem ec_22 : Cond.code yX2_netOf cX2_netOf 5 (some .long) ∈ GW := gt5 48 rfl rfl
set_option maxRecDepth 100000 in
theorem em_23 : EMc yX2_moveOf cX2_moveOf 2 4 (some .int) 3 0 := ⟨rfl, plainFor_of_name ((cls_ok (o := 2) (by decide)).1 (by decide)), (cls_ok (o := 2) (by decide)).2.1, (cls_ok (o := 2) (by decide)).2.2, fun q => absurd q (by decide), fun _ => ⟨gt5 20 rfl rfl, by decide +kernel⟩, fun _ => Or.inr (gp1 4 rfl)⟩
set_option maxRecDepth 100000 in
theorem ec_23 : Cond.code yX2_moveOf cX2_moveOf 4 (some .int) ∈ GW := gt5 21 rfl rfl
set_option maxRecDepth 100000 in
theorem em_24 : EMc yX2_riskOf cX2_riskOf 2 9 (some .long) 3 0 := ⟨rfl, plainFor_of_name ((cls_ok (o := 2) (by decide)).1 (by decide)), (cls_ok (o := 2) (by decide)).2.1, (cls_ok (o := 2) (by decide)).2.2, fun q => absurd q (by decide), fun _ => ⟨gt5 43 rfl rfl, by decide +kernel⟩, fun _ => Or.inr (gp1 6 rfl)⟩
set_option maxRecDepth 100000 in
theorem ec_24 : Cond.code yX2_riskOf cX2_riskOf 9 (some .long) ∈ GW := gt5 44 rfl rfl
set_option maxRecDepth 100000 in
theorem em_25 : EMc yX2_worthOf cX2_worthOf 2 5 (some .long) 2 0 := ⟨rfl, plainFor_of_name ((cls_ok (o := 2) (by decide)).1 (by decide)), (cls_ok (o := 2) (by decide)).2.1, (cls_ok (o := 2) (by decide)).2.2, fun q => absurd q (by decide), fun _ => ⟨gt5 73 rfl rfl, by decide +kernel⟩, fun _ => Or.inr (gp1 9 rfl)⟩
set_option maxRecDepth 100000 in
theorem ec_25 : Cond.code yX2_worthOf cX2_worthOf 5 (some .long) ∈ GW := gt5 74 rfl rfl
set_option maxRecDepth 100000 in
theorem em_26 : EMc yX2_valueOf cX2_valueOf 2 2 (some .long) 2 0 := ⟨rfl, plainFor_of_name ((cls_ok (o := 2) (by decide)).1 (by decide)), (cls_ok (o := 2) (by decide)).2.1, (cls_ok (o := 2) (by decide)).2.2, fun q => absurd q (by decide), fun _ => ⟨gt5 61 rfl rfl, by decide +kernel⟩, fun _ => Or.inr (gp1 8 rfl)⟩
set_option maxRecDepth 100000 in
theorem ec_26 : Cond.code yX2_valueOf cX2_valueOf 2 (some .long) ∈ GW := gt5 62 rfl rfl
set_option maxRecDepth 100000 in
theorem em_27 : EMc yX2_callOf cX2_callOf 2 6 (some .long) 4 0 := ⟨rfl, plainFor_of_name ((cls_ok (o := 2) (by decide)).1 (by decide)), (cls_ok (o := 2) (by decide)).2.1, (cls_ok (o := 2) (by decide)).2.2, fun q => absurd q (by decide), fun _ => ⟨gt5 36 rfl rfl, by decide +kernel⟩, fun _ => Or.inr (gp1 5 rfl)⟩
set_option maxRecDepth 100000 in
theorem ec_27 : Cond.code yX2_callOf cX2_callOf 6 (some .long) ∈ GW := gt5 37 rfl rfl
set_option maxRecDepth 100000 in
theorem em_28 : EMc yX2_canPay cX2_canPay 2 7 (some .boolean) 4 0 := ⟨rfl, plainFor_of_name ((cls_ok (o := 2) (by decide)).1 (by decide)), (cls_ok (o := 2) (by decide)).2.1, (cls_ok (o := 2) (by decide)).2.2, fun q => absurd q (by decide), fun _ => ⟨gt6 193 rfl rfl, by decide +kernel⟩, fun _ => Or.inr (gt6 194 rfl rfl)⟩
set_option maxRecDepth 100000 in
theorem ec_28 : Cond.code yX2_canPay cX2_canPay 7 (some .boolean) ∈ GW := gt6 195 rfl rfl
set_option maxRecDepth 100000 in
theorem em_29 : EMc yX2_bring cX2_bring 2 5 (some .int) 4 0 := ⟨rfl, plainFor_of_name ((cls_ok (o := 2) (by decide)).1 (by decide)), (cls_ok (o := 2) (by decide)).2.1, (cls_ok (o := 2) (by decide)).2.2, fun q => absurd q (by decide), fun _ => ⟨gt5 27 rfl rfl, by decide +kernel⟩, fun _ => Or.inr (gt5 28 rfl rfl)⟩
set_option maxRecDepth 100000 in
theorem ec_29 : Cond.code yX2_bring cX2_bring 5 (some .int) ∈ GW := gt5 29 rfl rfl
set_option maxRecDepth 100000 in
theorem em_30 : EMc yX2_changeMove cX2_changeMove 2 6 (some .int) 4 0 := ⟨rfl, plainFor_of_name ((cls_ok (o := 2) (by decide)).1 (by decide)), (cls_ok (o := 2) (by decide)).2.1, (cls_ok (o := 2) (by decide)).2.2, fun q => absurd q (by decide), fun _ => ⟨gt5 15 rfl rfl, by decide +kernel⟩, fun _ => Or.inr (gt5 16 rfl rfl)⟩
set_option maxRecDepth 100000 in
theorem ec_30 : Cond.code yX2_changeMove cX2_changeMove 6 (some .int) ∈ GW := gt5 17 rfl rfl
set_option maxRecDepth 100000 in
theorem em_31 : EMc yX2_changeHaircut cX2_changeHaircut 2 3 (some .int) 2 0 := ⟨rfl, plainFor_of_name ((cls_ok (o := 2) (by decide)).1 (by decide)), (cls_ok (o := 2) (by decide)).2.1, (cls_ok (o := 2) (by decide)).2.2, fun q => absurd q (by decide), fun _ => ⟨gt5 23 rfl rfl, by decide +kernel⟩, fun _ => Or.inr (gt5 24 rfl rfl)⟩
set_option maxRecDepth 100000 in
theorem ec_31 : Cond.code yX2_changeHaircut cX2_changeHaircut 3 (some .int) ∈ GW := gt5 25 rfl rfl
set_option maxRecDepth 100000 in
theorem em_32 : EMc yX2_changeFund cX2_changeFund 2 5 (some .int) 3 0 := ⟨rfl, plainFor_of_name ((cls_ok (o := 2) (by decide)).1 (by decide)), (cls_ok (o := 2) (by decide)).2.1, (cls_ok (o := 2) (by decide)).2.2, fun q => absurd q (by decide), fun _ => ⟨gt5 76 rfl rfl, by decide +kernel⟩, fun _ => Or.inr (gt5 77 rfl rfl)⟩
set_option maxRecDepth 100000 in
theorem ec_32 : Cond.code yX2_changeFund cX2_changeFund 5 (some .int) ∈ GW := gt5 78 rfl rfl
set_option maxRecDepth 100000 in
theorem em_33 : EMc yX2_canFail cX2_canFail 2 3 (some .boolean) 2 0 := ⟨rfl, plainFor_of_name ((cls_ok (o := 2) (by decide)).1 (by decide)), (cls_ok (o := 2) (by decide)).2.1, (cls_ok (o := 2) (by decide)).2.2, fun q => absurd q (by decide), fun _ => ⟨gt6 204 rfl rfl, by decide +kernel⟩, fun _ => Or.inr (gt6 205 rfl rfl)⟩
set_option maxRecDepth 100000 in
theorem ec_33 : Cond.code yX2_canFail cX2_canFail 3 (some .boolean) ∈ GW := gt6 206 rfl rfl
set_option maxRecDepth 100000 in
theorem em_34 : EMc yX2_fall cX2_fall 2 2 (none) 2 0 := ⟨rfl, plainFor_of_name ((cls_ok (o := 2) (by decide)).1 (by decide)), (cls_ok (o := 2) (by decide)).2.1, (cls_ok (o := 2) (by decide)).2.2, fun q => absurd q (by decide), fun _ => ⟨gt5 84 rfl rfl, by decide +kernel⟩, fun _ => Or.inr (gt5 85 rfl rfl)⟩
set_option maxRecDepth 100000 in
theorem ec_34 : Cond.code yX2_fall cX2_fall 2 (none) ∈ GW := gt5 86 rfl rfl
set_option maxRecDepth 100000 in
theorem em_35 : EMc yX2_takeBid cX2_takeBid 2 9 (some .int) 3 0 := ⟨rfl, plainFor_of_name ((cls_ok (o := 2) (by decide)).1 (by decide)), (cls_ok (o := 2) (by decide)).2.1, (cls_ok (o := 2) (by decide)).2.2, fun q => absurd q (by decide), fun _ => ⟨gt5 92 rfl rfl, by decide +kernel⟩, fun _ => Or.inr (gt5 93 rfl rfl)⟩
set_option maxRecDepth 100000 in
theorem ec_35 : Cond.code yX2_takeBid cX2_takeBid 9 (some .int) ∈ GW := gt5 94 rfl rfl
set_option maxRecDepth 100000 in
theorem em_36 : EMc yX2_highestBidder cX2_highestBidder 2 4 (some .int) 1 0 := ⟨rfl, plainFor_of_name ((cls_ok (o := 2) (by decide)).1 (by decide)), (cls_ok (o := 2) (by decide)).2.1, (cls_ok (o := 2) (by decide)).2.2, fun q => absurd q (by decide), fun _ => ⟨gt5 101 rfl rfl, by decide +kernel⟩, fun _ => Or.inr (gp1 10 rfl)⟩
set_option maxRecDepth 100000 in
theorem ec_36 : Cond.code yX2_highestBidder cX2_highestBidder 4 (some .int) ∈ GW := gt5 102 rfl rfl
set_option maxRecDepth 100000 in
theorem em_37 : EMc yX2_closePortfolio cX2_closePortfolio 2 6 (some .int) 1 0 := ⟨rfl, plainFor_of_name ((cls_ok (o := 2) (by decide)).1 (by decide)), (cls_ok (o := 2) (by decide)).2.1, (cls_ok (o := 2) (by decide)).2.2, fun q => absurd q (by decide), fun _ => ⟨gt5 96 rfl rfl, by decide +kernel⟩, fun _ => Or.inr (gt5 97 rfl rfl)⟩
set_option maxRecDepth 100000 in
theorem ec_37 : Cond.code yX2_closePortfolio cX2_closePortfolio 6 (some .int) ∈ GW := gt5 98 rfl rfl
set_option maxRecDepth 100000 in
theorem em_38 : EMc yX2_handOver cX2_handOver 2 9 (none) 2 0 := ⟨rfl, plainFor_of_name ((cls_ok (o := 2) (by decide)).1 (by decide)), (cls_ok (o := 2) (by decide)).2.1, (cls_ok (o := 2) (by decide)).2.2, fun q => absurd q (by decide), fun _ => ⟨gt5 105 rfl rfl, by decide +kernel⟩, fun _ => Or.inr (gp1 11 rfl)⟩
set_option maxRecDepth 100000 in
theorem ec_38 : Cond.code yX2_handOver cX2_handOver 9 (none) ∈ GW := gt5 106 rfl rfl
set_option maxRecDepth 100000 in
theorem em_39 : EMc yX2_cover cX2_cover 2 8 (none) 2 0 := ⟨rfl, plainFor_of_name ((cls_ok (o := 2) (by decide)).1 (by decide)), (cls_ok (o := 2) (by decide)).2.1, (cls_ok (o := 2) (by decide)).2.2, fun q => absurd q (by decide), fun _ => ⟨gt5 110 rfl rfl, by decide +kernel⟩, fun _ => Or.inr (gp1 12 rfl)⟩
set_option maxRecDepth 100000 in
theorem ec_39 : Cond.code yX2_cover cX2_cover 8 (none) ∈ GW := gt5 111 rfl rfl
set_option maxRecDepth 100000 in
theorem em_40 : EMc yX2_give cX2_give 2 6 (some .long) 3 0 := ⟨rfl, plainFor_of_name ((cls_ok (o := 2) (by decide)).1 (by decide)), (cls_ok (o := 2) (by decide)).2.1, (cls_ok (o := 2) (by decide)).2.2, fun q => absurd q (by decide), fun _ => ⟨gt5 114 rfl rfl, by decide +kernel⟩, fun _ => Or.inr (gp1 13 rfl)⟩
set_option maxRecDepth 100000 in
theorem ec_40 : Cond.code yX2_give cX2_give 6 (some .long) ∈ GW := gt5 115 rfl rfl
set_option maxRecDepth 100000 in
theorem em_41 : EMc yX2_sellUnits cX2_sellUnits 2 8 (some .long) 2 0 := ⟨rfl, plainFor_of_name ((cls_ok (o := 2) (by decide)).1 (by decide)), (cls_ok (o := 2) (by decide)).2.1, (cls_ok (o := 2) (by decide)).2.2, fun q => absurd q (by decide), fun _ => ⟨gt5 121 rfl rfl, by decide +kernel⟩, fun _ => Or.inr (gp1 14 rfl)⟩
set_option maxRecDepth 100000 in
theorem ec_41 : Cond.code yX2_sellUnits cX2_sellUnits 8 (some .long) ∈ GW := gt5 122 rfl rfl
set_option maxRecDepth 100000 in
theorem em_42 : EMc yX2_givesIn cX2_givesIn 2 5 (some .boolean) 4 0 := ⟨rfl, plainFor_of_name ((cls_ok (o := 2) (by decide)).1 (by decide)), (cls_ok (o := 2) (by decide)).2.1, (cls_ok (o := 2) (by decide)).2.2, fun q => absurd q (by decide), fun _ => ⟨gt5 129 rfl rfl, by decide +kernel⟩, fun _ => Or.inr (gp2 0 rfl)⟩
set_option maxRecDepth 100000 in
theorem ec_42 : Cond.code yX2_givesIn cX2_givesIn 5 (some .boolean) ∈ GW := gt5 130 rfl rfl
set_option maxRecDepth 100000 in
theorem em_43 : EMc yX2_shareLayer cX2_shareLayer 2 9 (none) 3 0 := ⟨rfl, plainFor_of_name ((cls_ok (o := 2) (by decide)).1 (by decide)), (cls_ok (o := 2) (by decide)).2.1, (cls_ok (o := 2) (by decide)).2.2, fun q => absurd q (by decide), fun _ => ⟨gt5 125 rfl rfl, by decide +kernel⟩, fun _ => Or.inr (gp1 15 rfl)⟩
set_option maxRecDepth 100000 in
theorem ec_43 : Cond.code yX2_shareLayer cX2_shareLayer 9 (none) ∈ GW := gt5 126 rfl rfl
set_option maxRecDepth 100000 in
theorem em_44 : EMc yX2_shareLoss cX2_shareLoss 2 13 (none) 2 0 := ⟨rfl, plainFor_of_name ((cls_ok (o := 2) (by decide)).1 (by decide)), (cls_ok (o := 2) (by decide)).2.1, (cls_ok (o := 2) (by decide)).2.2, fun q => absurd q (by decide), fun _ => ⟨gt5 133 rfl rfl, by decide +kernel⟩, fun _ => Or.inr (gp2 1 rfl)⟩
set_option maxRecDepth 100000 in
theorem ec_44 : Cond.code yX2_shareLoss cX2_shareLoss 13 (none) ∈ GW := gt5 134 rfl rfl
set_option maxRecDepth 100000 in
theorem em_45 : EMc yX3_init cX3_init 3 3 (none) 3 0 := ⟨rfl, plainFor_of_name ((cls_ok (o := 3) (by decide)).1 (by decide)), (cls_ok (o := 3) (by decide)).2.1, (cls_ok (o := 3) (by decide)).2.2, fun q => absurd q (by decide), fun _ => ⟨gt2 141 rfl rfl, by decide +kernel⟩, fun _ => Or.inl rfl⟩
set_option maxRecDepth 100000 in
theorem ec_45 : Cond.code yX3_init cX3_init 3 (none) ∈ GW := gt2 142 rfl rfl
set_option maxRecDepth 100000 in
theorem em_46 : EMc yX3_makePair cX3_makePair 3 11 (some .boolean) 3 0 := ⟨rfl, plainFor_of_name ((cls_ok (o := 3) (by decide)).1 (by decide)), (cls_ok (o := 3) (by decide)).2.1, (cls_ok (o := 3) (by decide)).2.2, fun q => absurd q (by decide), fun _ => ⟨gt4 102 rfl rfl, by decide +kernel⟩, fun _ => Or.inr (gt4 103 rfl rfl)⟩
set_option maxRecDepth 100000 in
theorem ec_46 : Cond.code yX3_makePair cX3_makePair 11 (some .boolean) ∈ GW := gt4 104 rfl rfl
set_option maxRecDepth 100000 in
theorem em_47 : EMc yX3_makeChain cX3_makeChain 3 13 (some .boolean) 2 0 := ⟨rfl, plainFor_of_name ((cls_ok (o := 3) (by decide)).1 (by decide)), (cls_ok (o := 3) (by decide)).2.1, (cls_ok (o := 3) (by decide)).2.2, fun q => absurd q (by decide), fun _ => ⟨gt4 133 rfl rfl, by decide +kernel⟩, fun _ => Or.inr (gt4 134 rfl rfl)⟩
set_option maxRecDepth 100000 in
theorem ec_47 : Cond.code yX3_makeChain cX3_makeChain 13 (some .boolean) ∈ GW := gt4 135 rfl rfl
set_option maxRecDepth 100000 in
theorem em_48 : EMc yX3_isBarred cX3_isBarred 3 4 (some .boolean) 4 1 := ⟨rfl, plainFor_of_name ((cls_ok (o := 3) (by decide)).1 (by decide)), (cls_ok (o := 3) (by decide)).2.1, (cls_ok (o := 3) (by decide)).2.2, fun _ => ⟨gt4 112 rfl rfl, by decide +kernel⟩, fun q => absurd q (by decide), fun q => absurd q (by decide)⟩
set_option maxRecDepth 100000 in
theorem ec_48 : Cond.code yX3_isBarred cX3_isBarred 4 (some .boolean) ∈ GW := gt4 113 rfl rfl
set_option maxRecDepth 100000 in
theorem em_49 : EMc yX3_record cX3_record 3 9 (none) 7 0 := ⟨rfl, plainFor_of_name ((cls_ok (o := 3) (by decide)).1 (by decide)), (cls_ok (o := 3) (by decide)).2.1, (cls_ok (o := 3) (by decide)).2.2, fun q => absurd q (by decide), fun _ => ⟨gt4 122 rfl rfl, by decide +kernel⟩, fun _ => Or.inr (gp0 14 rfl)⟩
set_option maxRecDepth 100000 in
theorem ec_49 : Cond.code yX3_record cX3_record 9 (none) ∈ GW := gt4 123 rfl rfl
set_option maxRecDepth 100000 in
theorem em_50 : EMc yX3_fallTogether cX3_fallTogether 3 6 (none) 6 0 := ⟨rfl, plainFor_of_name ((cls_ok (o := 3) (by decide)).1 (by decide)), (cls_ok (o := 3) (by decide)).2.1, (cls_ok (o := 3) (by decide)).2.2, fun q => absurd q (by decide), fun _ => ⟨gt4 127 rfl rfl, by decide +kernel⟩, fun _ => Or.inr (gp0 15 rfl)⟩
set_option maxRecDepth 100000 in
theorem ec_50 : Cond.code yX3_fallTogether cX3_fallTogether 6 (none) ∈ GW := gt4 128 rfl rfl
set_option maxRecDepth 100000 in
theorem em_51 : EMc yX4_init cX4_init 4 3 (none) 3 0 := ⟨rfl, plainFor_of_name ((cls_ok (o := 4) (by decide)).1 (by decide)), (cls_ok (o := 4) (by decide)).2.1, (cls_ok (o := 4) (by decide)).2.2, fun q => absurd q (by decide), fun _ => ⟨gt1 180 rfl rfl, by decide +kernel⟩, fun _ => Or.inl rfl⟩
set_option maxRecDepth 100000 in
theorem ec_51 : Cond.code yX4_init cX4_init 3 (none) ∈ GW := gt1 181 rfl rfl
set_option maxRecDepth 100000 in
theorem em_52 : EMc yX4_fill cX4_fill 4 6 (none) 6 0 := ⟨rfl, plainFor_of_name ((cls_ok (o := 4) (by decide)).1 (by decide)), (cls_ok (o := 4) (by decide)).2.1, (cls_ok (o := 4) (by decide)).2.2, fun q => absurd q (by decide), fun _ => ⟨gt3 188 rfl rfl, by decide +kernel⟩, fun _ => Or.inr (gt3 189 rfl rfl)⟩
set_option maxRecDepth 100000 in
theorem ec_52 : Cond.code yX4_fill cX4_fill 6 (none) ∈ GW := gt3 190 rfl rfl
set_option maxRecDepth 100000 in
theorem em_53 : EMc yX4_counts cX4_counts 4 1 (some .boolean) 1 0 := ⟨rfl, plainFor_of_name ((cls_ok (o := 4) (by decide)).1 (by decide)), (cls_ok (o := 4) (by decide)).2.1, (cls_ok (o := 4) (by decide)).2.2, fun q => absurd q (by decide), fun _ => ⟨gt4 195 rfl rfl, by decide +kernel⟩, fun _ => Or.inr (gt4 196 rfl rfl)⟩
set_option maxRecDepth 100000 in
theorem ec_53 : Cond.code yX4_counts cX4_counts 1 (some .boolean) ∈ GW := gt4 197 rfl rfl
set_option maxRecDepth 100000 in
theorem em_54 : EMc yX4_tell cX4_tell 4 2 (some .int) 2 0 := ⟨rfl, plainFor_of_name ((cls_ok (o := 4) (by decide)).1 (by decide)), (cls_ok (o := 4) (by decide)).2.1, (cls_ok (o := 4) (by decide)).2.2, fun q => absurd q (by decide), fun _ => ⟨gt6 140 rfl rfl, by decide +kernel⟩, fun _ => Or.inr (gt6 141 rfl rfl)⟩
set_option maxRecDepth 100000 in
theorem ec_54 : Cond.code yX4_tell cX4_tell 2 (some .int) ∈ GW := gt6 142 rfl rfl
set_option maxRecDepth 100000 in
theorem em_55 : EMc yX5_init cX5_init 5 3 (none) 1 0 := ⟨rfl, plainFor_of_name ((cls_ok (o := 5) (by decide)).1 (by decide)), (cls_ok (o := 5) (by decide)).2.1, (cls_ok (o := 5) (by decide)).2.2, fun q => absurd q (by decide), fun _ => ⟨gt1 31 rfl rfl, by decide +kernel⟩, fun _ => Or.inl rfl⟩
set_option maxRecDepth 100000 in
theorem ec_55 : Cond.code yX5_init cX5_init 3 (none) ∈ GW := gt1 32 rfl rfl
set_option maxRecDepth 100000 in
theorem em_56 : EMc yX5_restore cX5_restore 5 1 (none) 1 0 := ⟨rfl, plainFor_of_name ((cls_ok (o := 5) (by decide)).1 (by decide)), (cls_ok (o := 5) (by decide)).2.1, (cls_ok (o := 5) (by decide)).2.2, fun q => absurd q (by decide), fun _ => ⟨gt2 233 rfl rfl, by decide +kernel⟩, fun _ => Or.inr (gt2 234 rfl rfl)⟩
set_option maxRecDepth 100000 in
theorem ec_56 : Cond.code yX5_restore cX5_restore 1 (none) ∈ GW := gt2 235 rfl rfl
set_option maxRecDepth 100000 in
theorem em_57 : EMc yX5_admits cX5_admits 5 5 (some .boolean) 4 0 := ⟨rfl, plainFor_of_name ((cls_ok (o := 5) (by decide)).1 (by decide)), (cls_ok (o := 5) (by decide)).2.1, (cls_ok (o := 5) (by decide)).2.2, fun q => absurd q (by decide), fun _ => ⟨gt6 25 rfl rfl, by decide +kernel⟩, fun _ => Or.inr (gt6 26 rfl rfl)⟩
set_option maxRecDepth 100000 in
theorem ec_57 : Cond.code yX5_admits cX5_admits 5 (some .boolean) ∈ GW := gt6 27 rfl rfl
set_option maxRecDepth 100000 in
theorem em_58 : EMc yX5_tellLimit cX5_tellLimit 5 9 (some .int) 7 0 := ⟨rfl, plainFor_of_name ((cls_ok (o := 5) (by decide)).1 (by decide)), (cls_ok (o := 5) (by decide)).2.1, (cls_ok (o := 5) (by decide)).2.2, fun q => absurd q (by decide), fun _ => ⟨gt3 82 rfl rfl, by decide +kernel⟩, fun _ => Or.inr (gt3 83 rfl rfl)⟩
set_option maxRecDepth 100000 in
theorem ec_58 : Cond.code yX5_tellLimit cX5_tellLimit 9 (some .int) ∈ GW := gt3 84 rfl rfl
set_option maxRecDepth 100000 in
theorem em_59 : EMc yX5_tellMarket cX5_tellMarket 5 5 (some .int) 4 0 := ⟨rfl, plainFor_of_name ((cls_ok (o := 5) (by decide)).1 (by decide)), (cls_ok (o := 5) (by decide)).2.1, (cls_ok (o := 5) (by decide)).2.2, fun q => absurd q (by decide), fun _ => ⟨gt3 213 rfl rfl, by decide +kernel⟩, fun _ => Or.inr (gt3 214 rfl rfl)⟩
set_option maxRecDepth 100000 in
theorem ec_59 : Cond.code yX5_tellMarket cX5_tellMarket 5 (some .int) ∈ GW := gt3 215 rfl rfl
set_option maxRecDepth 100000 in
theorem em_60 : EMc yX5_tellIceberg cX5_tellIceberg 5 7 (some .int) 6 0 := ⟨rfl, plainFor_of_name ((cls_ok (o := 5) (by decide)).1 (by decide)), (cls_ok (o := 5) (by decide)).2.1, (cls_ok (o := 5) (by decide)).2.2, fun q => absurd q (by decide), fun _ => ⟨gt3 217 rfl rfl, by decide +kernel⟩, fun _ => Or.inr (gt3 218 rfl rfl)⟩
set_option maxRecDepth 100000 in
theorem ec_60 : Cond.code yX5_tellIceberg cX5_tellIceberg 7 (some .int) ∈ GW := gt3 219 rfl rfl
set_option maxRecDepth 100000 in
theorem em_61 : EMc yX5_tellPeg cX5_tellPeg 5 7 (some .int) 6 0 := ⟨rfl, plainFor_of_name ((cls_ok (o := 5) (by decide)).1 (by decide)), (cls_ok (o := 5) (by decide)).2.1, (cls_ok (o := 5) (by decide)).2.2, fun q => absurd q (by decide), fun _ => ⟨gt3 221 rfl rfl, by decide +kernel⟩, fun _ => Or.inr (gt3 222 rfl rfl)⟩
set_option maxRecDepth 100000 in
theorem ec_61 : Cond.code yX5_tellPeg cX5_tellPeg 7 (some .int) ∈ GW := gt3 223 rfl rfl
set_option maxRecDepth 100000 in
theorem em_62 : EMc yX5_tellStop cX5_tellStop 5 8 (some .int) 6 0 := ⟨rfl, plainFor_of_name ((cls_ok (o := 5) (by decide)).1 (by decide)), (cls_ok (o := 5) (by decide)).2.1, (cls_ok (o := 5) (by decide)).2.2, fun q => absurd q (by decide), fun _ => ⟨gt3 225 rfl rfl, by decide +kernel⟩, fun _ => Or.inr (gt3 226 rfl rfl)⟩
set_option maxRecDepth 100000 in
theorem ec_62 : Cond.code yX5_tellStop cX5_tellStop 8 (some .int) ∈ GW := gt3 227 rfl rfl
set_option maxRecDepth 100000 in
theorem em_63 : EMc yX5_tellQuote cX5_tellQuote 5 10 (some .int) 6 0 := ⟨rfl, plainFor_of_name ((cls_ok (o := 5) (by decide)).1 (by decide)), (cls_ok (o := 5) (by decide)).2.1, (cls_ok (o := 5) (by decide)).2.2, fun q => absurd q (by decide), fun _ => ⟨gt3 229 rfl rfl, by decide +kernel⟩, fun _ => Or.inr (gt3 230 rfl rfl)⟩
set_option maxRecDepth 100000 in
theorem ec_63 : Cond.code yX5_tellQuote cX5_tellQuote 10 (some .int) ∈ GW := gt3 231 rfl rfl
set_option maxRecDepth 100000 in
theorem em_64 : EMc yX5_place cX5_place 5 2 (none) 2 0 := ⟨rfl, plainFor_of_name ((cls_ok (o := 5) (by decide)).1 (by decide)), (cls_ok (o := 5) (by decide)).2.1, (cls_ok (o := 5) (by decide)).2.2, fun q => absurd q (by decide), fun _ => ⟨gt3 121 rfl rfl, by decide +kernel⟩, fun _ => Or.inr (gp0 1 rfl)⟩
set_option maxRecDepth 100000 in
theorem ec_64 : Cond.code yX5_place cX5_place 2 (none) ∈ GW := gt3 122 rfl rfl
set_option maxRecDepth 100000 in
theorem em_65 : EMc yX5_letPass cX5_letPass 5 7 (some .int) 2 0 := ⟨rfl, plainFor_of_name ((cls_ok (o := 5) (by decide)).1 (by decide)), (cls_ok (o := 5) (by decide)).2.1, (cls_ok (o := 5) (by decide)).2.2, fun q => absurd q (by decide), fun _ => ⟨gt4 28 rfl rfl, by decide +kernel⟩, fun _ => Or.inr (gt4 29 rfl rfl)⟩
set_option maxRecDepth 100000 in
theorem ec_65 : Cond.code yX5_letPass cX5_letPass 7 (some .int) ∈ GW := gt4 30 rfl rfl
set_option maxRecDepth 100000 in
theorem em_66 : EMc yX5_undo cX5_undo 5 4 (some .int) 2 0 := ⟨rfl, plainFor_of_name ((cls_ok (o := 5) (by decide)).1 (by decide)), (cls_ok (o := 5) (by decide)).2.1, (cls_ok (o := 5) (by decide)).2.2, fun q => absurd q (by decide), fun _ => ⟨gt4 164 rfl rfl, by decide +kernel⟩, fun _ => Or.inr (gt4 165 rfl rfl)⟩
set_option maxRecDepth 100000 in
theorem ec_66 : Cond.code yX5_undo cX5_undo 4 (some .int) ∈ GW := gt4 166 rfl rfl
set_option maxRecDepth 100000 in
theorem em_67 : EMc yX5_convertContract cX5_convertContract 5 6 (some .int) 4 0 := ⟨rfl, plainFor_of_name ((cls_ok (o := 5) (by decide)).1 (by decide)), (cls_ok (o := 5) (by decide)).2.1, (cls_ok (o := 5) (by decide)).2.2, fun q => absurd q (by decide), fun _ => ⟨gt4 222 rfl rfl, by decide +kernel⟩, fun _ => Or.inr (gt4 223 rfl rfl)⟩
set_option maxRecDepth 100000 in
theorem ec_67 : Cond.code yX5_convertContract cX5_convertContract 6 (some .int) ∈ GW := gt4 224 rfl rfl
set_option maxRecDepth 100000 in
theorem em_68 : EMc yX5_convertPrice cX5_convertPrice 5 4 (some .int) 3 1 := ⟨rfl, plainFor_of_name ((cls_ok (o := 5) (by decide)).1 (by decide)), (cls_ok (o := 5) (by decide)).2.1, (cls_ok (o := 5) (by decide)).2.2, fun _ => ⟨gt4 239 rfl rfl, by decide +kernel⟩, fun q => absurd q (by decide), fun q => absurd q (by decide)⟩
set_option maxRecDepth 100000 in
theorem ec_68 : Cond.code yX5_convertPrice cX5_convertPrice 4 (some .int) ∈ GW := gt5 0 rfl rfl
set_option maxRecDepth 100000 in
theorem em_69 : EMc yX5_failMember cX5_failMember 5 2 (some .int) 2 0 := ⟨rfl, plainFor_of_name ((cls_ok (o := 5) (by decide)).1 (by decide)), (cls_ok (o := 5) (by decide)).2.1, (cls_ok (o := 5) (by decide)).2.2, fun q => absurd q (by decide), fun _ => ⟨gt5 80 rfl rfl, by decide +kernel⟩, fun _ => Or.inr (gt5 81 rfl rfl)⟩
set_option maxRecDepth 100000 in
theorem ec_69 : Cond.code yX5_failMember cX5_failMember 2 (some .int) ∈ GW := gt5 82 rfl rfl
set_option maxRecDepth 100000 in
theorem em_70 : EMc yX5_work cX5_work 5 3 (none) 1 0 := ⟨rfl, plainFor_of_name ((cls_ok (o := 5) (by decide)).1 (by decide)), (cls_ok (o := 5) (by decide)).2.1, (cls_ok (o := 5) (by decide)).2.2, fun q => absurd q (by decide), fun _ => ⟨gt4 77 rfl rfl, by decide +kernel⟩, fun _ => Or.inr (gt4 78 rfl rfl)⟩
set_option maxRecDepth 100000 in
theorem ec_70 : Cond.code yX5_work cX5_work 3 (none) ∈ GW := gt4 79 rfl rfl
set_option maxRecDepth 100000 in
theorem em_71 : EMc yX6_init cX6_init 6 4 (none) 3 0 := ⟨rfl, plainFor_of_name ((cls_ok (o := 6) (by decide)).1 (by decide)), (cls_ok (o := 6) (by decide)).2.1, (cls_ok (o := 6) (by decide)).2.2, fun q => absurd q (by decide), fun _ => ⟨gt1 232 rfl rfl, by decide +kernel⟩, fun _ => Or.inl rfl⟩
set_option maxRecDepth 100000 in
theorem ec_71 : Cond.code yX6_init cX6_init 4 (none) ∈ GW := gt1 233 rfl rfl
set_option maxRecDepth 100000 in
theorem em_72 : EMc yX6_restore cX6_restore 6 5 (none) 1 0 := ⟨rfl, plainFor_of_name ((cls_ok (o := 6) (by decide)).1 (by decide)), (cls_ok (o := 6) (by decide)).2.1, (cls_ok (o := 6) (by decide)).2.2, fun q => absurd q (by decide), fun _ => ⟨gt2 237 rfl rfl, by decide +kernel⟩, fun _ => Or.inr (gt2 238 rfl rfl)⟩
set_option maxRecDepth 100000 in
theorem ec_72 : Cond.code yX6_restore cX6_restore 5 (none) ∈ GW := gt2 239 rfl rfl
set_option maxRecDepth 100000 in
theorem em_73 : EMc yX6_bookAt cX6_bookAt 6 2 (some (.object "Openbook$Book")) 2 0 := ⟨rfl, plainFor_of_name ((cls_ok (o := 6) (by decide)).1 (by decide)), (cls_ok (o := 6) (by decide)).2.1, (cls_ok (o := 6) (by decide)).2.2, fun q => absurd q (by decide), fun _ => ⟨gt3 87 rfl rfl, by decide +kernel⟩, fun _ => Or.inr (gt3 88 rfl rfl)⟩
set_option maxRecDepth 100000 in
theorem ec_73 : Cond.code yX6_bookAt cX6_bookAt 2 (some (.object "Openbook$Book")) ∈ GW := gt3 89 rfl rfl
set_option maxRecDepth 100000 in
theorem em_74 : EMc yX6_find cX6_find 6 6 (some (.object "Openbook$Order")) 2 0 := ⟨rfl, plainFor_of_name ((cls_ok (o := 6) (by decide)).1 (by decide)), (cls_ok (o := 6) (by decide)).2.1, (cls_ok (o := 6) (by decide)).2.2, fun q => absurd q (by decide), fun _ => ⟨gt4 1 rfl rfl, by decide +kernel⟩, fun _ => Or.inr (gt4 2 rfl rfl)⟩
set_option maxRecDepth 100000 in
theorem ec_74 : Cond.code yX6_find cX6_find 6 (some (.object "Openbook$Order")) ∈ GW := gt4 3 rfl rfl
set_option maxRecDepth 100000 in
theorem em_75 : EMc yX6_countLive cX6_countLive 6 6 (some .int) 1 0 := ⟨rfl, plainFor_of_name ((cls_ok (o := 6) (by decide)).1 (by decide)), (cls_ok (o := 6) (by decide)).2.1, (cls_ok (o := 6) (by decide)).2.2, fun q => absurd q (by decide), fun _ => ⟨gt6 30 rfl rfl, by decide +kernel⟩, fun _ => Or.inr (gt6 31 rfl rfl)⟩
set_option maxRecDepth 100000 in
theorem ec_75 : Cond.code yX6_countLive cX6_countLive 6 (some .int) ∈ GW := gt6 32 rfl rfl
set_option maxRecDepth 100000 in
theorem em_76 : EMc yX6_draw cX6_draw 6 10 (some (.object "Openbook$Order")) 6 0 := ⟨rfl, plainFor_of_name ((cls_ok (o := 6) (by decide)).1 (by decide)), (cls_ok (o := 6) (by decide)).2.1, (cls_ok (o := 6) (by decide)).2.2, fun q => absurd q (by decide), fun _ => ⟨gt3 91 rfl rfl, by decide +kernel⟩, fun _ => Or.inr (gt3 92 rfl rfl)⟩
set_option maxRecDepth 100000 in
theorem ec_76 : Cond.code yX6_draw cX6_draw 10 (some (.object "Openbook$Order")) ∈ GW := gt3 93 rfl rfl
set_option maxRecDepth 100000 in
theorem em_77 : EMc yX6_stand cX6_stand 6 2 (none) 2 0 := ⟨rfl, plainFor_of_name ((cls_ok (o := 6) (by decide)).1 (by decide)), (cls_ok (o := 6) (by decide)).2.1, (cls_ok (o := 6) (by decide)).2.2, fun q => absurd q (by decide), fun _ => ⟨gt3 124 rfl rfl, by decide +kernel⟩, fun _ => Or.inr (gt3 125 rfl rfl)⟩
set_option maxRecDepth 100000 in
theorem ec_77 : Cond.code yX6_stand cX6_stand 2 (none) ∈ GW := gt3 126 rfl rfl
set_option maxRecDepth 100000 in
theorem em_78 : EMc yX6_nextTurn cX6_nextTurn 6 1 (some .int) 1 0 := ⟨rfl, plainFor_of_name ((cls_ok (o := 6) (by decide)).1 (by decide)), (cls_ok (o := 6) (by decide)).2.1, (cls_ok (o := 6) (by decide)).2.2, fun q => absurd q (by decide), fun _ => ⟨gt3 135 rfl rfl, by decide +kernel⟩, fun _ => Or.inr (gt3 136 rfl rfl)⟩
set_option maxRecDepth 100000 in
theorem ec_78 : Cond.code yX6_nextTurn cX6_nextTurn 1 (some .int) ∈ GW := gt3 137 rfl rfl
set_option maxRecDepth 100000 in
theorem em_79 : EMc yX6_showAnew cX6_showAnew 6 2 (none) 2 0 := ⟨rfl, plainFor_of_name ((cls_ok (o := 6) (by decide)).1 (by decide)), (cls_ok (o := 6) (by decide)).2.1, (cls_ok (o := 6) (by decide)).2.2, fun q => absurd q (by decide), fun _ => ⟨gt3 204 rfl rfl, by decide +kernel⟩, fun _ => Or.inr (gt3 205 rfl rfl)⟩
set_option maxRecDepth 100000 in
theorem ec_79 : Cond.code yX6_showAnew cX6_showAnew 2 (none) ∈ GW := gt3 206 rfl rfl
set_option maxRecDepth 100000 in
theorem em_80 : EMc yX6_bestPrice cX6_bestPrice 6 9 (some .int) 4 0 := ⟨rfl, plainFor_of_name ((cls_ok (o := 6) (by decide)).1 (by decide)), (cls_ok (o := 6) (by decide)).2.1, (cls_ok (o := 6) (by decide)).2.2, fun q => absurd q (by decide), fun _ => ⟨gt3 144 rfl rfl, by decide +kernel⟩, fun _ => Or.inr (gt3 145 rfl rfl)⟩
set_option maxRecDepth 100000 in
theorem ec_80 : Cond.code yX6_bestPrice cX6_bestPrice 9 (some .int) ∈ GW := gt3 146 rfl rfl
set_option maxRecDepth 100000 in
theorem em_81 : EMc yX6_firstOf cX6_firstOf 6 9 (some (.object "Openbook$Order")) 3 0 := ⟨rfl, plainFor_of_name ((cls_ok (o := 6) (by decide)).1 (by decide)), (cls_ok (o := 6) (by decide)).2.1, (cls_ok (o := 6) (by decide)).2.2, fun q => absurd q (by decide), fun _ => ⟨gt4 107 rfl rfl, by decide +kernel⟩, fun _ => Or.inr (gt4 108 rfl rfl)⟩
set_option maxRecDepth 100000 in
theorem ec_81 : Cond.code yX6_firstOf cX6_firstOf 9 (some (.object "Openbook$Order")) ∈ GW := gt4 109 rfl rfl
set_option maxRecDepth 100000 in
theorem em_82 : EMc yX6_sumShown cX6_sumShown 6 9 (some .int) 4 0 := ⟨rfl, plainFor_of_name ((cls_ok (o := 6) (by decide)).1 (by decide)), (cls_ok (o := 6) (by decide)).2.1, (cls_ok (o := 6) (by decide)).2.2, fun q => absurd q (by decide), fun _ => ⟨gt7 41 rfl rfl, by decide +kernel⟩, fun _ => Or.inr (gt7 42 rfl rfl)⟩
set_option maxRecDepth 100000 in
theorem ec_82 : Cond.code yX6_sumShown cX6_sumShown 9 (some .int) ∈ GW := gt7 43 rfl rfl
set_option maxRecDepth 100000 in
theorem em_83 : EMc yX6_refuses cX6_refuses 6 6 (some .boolean) 4 0 := ⟨rfl, plainFor_of_name ((cls_ok (o := 6) (by decide)).1 (by decide)), (cls_ok (o := 6) (by decide)).2.1, (cls_ok (o := 6) (by decide)).2.2, fun q => absurd q (by decide), fun _ => ⟨gt6 34 rfl rfl, by decide +kernel⟩, fun _ => Or.inr (gt6 35 rfl rfl)⟩
set_option maxRecDepth 100000 in
theorem ec_83 : Cond.code yX6_refuses cX6_refuses 6 (some .boolean) ∈ GW := gt6 36 rfl rfl
set_option maxRecDepth 100000 in
theorem em_84 : EMc yX6_reach cX6_reach 6 10 (some .long) 4 0 := ⟨rfl, plainFor_of_name ((cls_ok (o := 6) (by decide)).1 (by decide)), (cls_ok (o := 6) (by decide)).2.1, (cls_ok (o := 6) (by decide)).2.2, fun q => absurd q (by decide), fun _ => ⟨gt6 40 rfl rfl, by decide +kernel⟩, fun _ => Or.inr (gp2 3 rfl)⟩
set_option maxRecDepth 100000 in
theorem ec_84 : Cond.code yX6_reach cX6_reach 10 (some .long) ∈ GW := gt6 41 rfl rfl
set_option maxRecDepth 100000 in
theorem em_85 : EMc yX6_withdraw cX6_withdraw 6 3 (some .int) 2 0 := ⟨rfl, plainFor_of_name ((cls_ok (o := 6) (by decide)).1 (by decide)), (cls_ok (o := 6) (by decide)).2.1, (cls_ok (o := 6) (by decide)).2.2, fun q => absurd q (by decide), fun _ => ⟨gt3 237 rfl rfl, by decide +kernel⟩, fun _ => Or.inr (gt3 238 rfl rfl)⟩
set_option maxRecDepth 100000 in
theorem ec_85 : Cond.code yX6_withdraw cX6_withdraw 3 (some .int) ∈ GW := gt3 239 rfl rfl
set_option maxRecDepth 100000 in
theorem em_86 : EMc yX6_withdrawQuote cX6_withdrawQuote 6 7 (none) 3 0 := ⟨rfl, plainFor_of_name ((cls_ok (o := 6) (by decide)).1 (by decide)), (cls_ok (o := 6) (by decide)).2.1, (cls_ok (o := 6) (by decide)).2.2, fun q => absurd q (by decide), fun _ => ⟨gt3 233 rfl rfl, by decide +kernel⟩, fun _ => Or.inr (gt3 234 rfl rfl)⟩
set_option maxRecDepth 100000 in
theorem ec_86 : Cond.code yX6_withdrawQuote cX6_withdrawQuote 7 (none) ∈ GW := gt3 235 rfl rfl
set_option maxRecDepth 100000 in
theorem em_87 : EMc yX6_withdrawContract cX6_withdrawContract 6 7 (some .int) 2 0 := ⟨rfl, plainFor_of_name ((cls_ok (o := 6) (by decide)).1 (by decide)), (cls_ok (o := 6) (by decide)).2.1, (cls_ok (o := 6) (by decide)).2.2, fun q => absurd q (by decide), fun _ => ⟨gt4 226 rfl rfl, by decide +kernel⟩, fun _ => Or.inr (gt4 227 rfl rfl)⟩
set_option maxRecDepth 100000 in
theorem ec_87 : Cond.code yX6_withdrawContract cX6_withdrawContract 7 (some .int) ∈ GW := gt4 228 rfl rfl
set_option maxRecDepth 100000 in
theorem em_88 : EMc yX6_withdrawMember cX6_withdrawMember 6 7 (some .int) 2 0 := ⟨rfl, plainFor_of_name ((cls_ok (o := 6) (by decide)).1 (by decide)), (cls_ok (o := 6) (by decide)).2.1, (cls_ok (o := 6) (by decide)).2.2, fun q => absurd q (by decide), fun _ => ⟨gt5 88 rfl rfl, by decide +kernel⟩, fun _ => Or.inr (gt5 89 rfl rfl)⟩
set_option maxRecDepth 100000 in
theorem ec_88 : Cond.code yX6_withdrawMember cX6_withdrawMember 7 (some .int) ∈ GW := gt5 90 rfl rfl
set_option maxRecDepth 100000 in
theorem em_89 : EMc yX6_guard cX6_guard 6 8 (none) 3 0 := ⟨rfl, plainFor_of_name ((cls_ok (o := 6) (by decide)).1 (by decide)), (cls_ok (o := 6) (by decide)).2.1, (cls_ok (o := 6) (by decide)).2.2, fun q => absurd q (by decide), fun _ => ⟨gt3 200 rfl rfl, by decide +kernel⟩, fun _ => Or.inr (gt3 201 rfl rfl)⟩
set_option maxRecDepth 100000 in
theorem ec_89 : Cond.code yX6_guard cX6_guard 8 (none) ∈ GW := gt3 202 rfl rfl
set_option maxRecDepth 100000 in
theorem em_90 : EMc yX6_countQuotes cX6_countQuotes 6 5 (none) 1 0 := ⟨rfl, plainFor_of_name ((cls_ok (o := 6) (by decide)).1 (by decide)), (cls_ok (o := 6) (by decide)).2.1, (cls_ok (o := 6) (by decide)).2.2, fun q => absurd q (by decide), fun _ => ⟨gt4 32 rfl rfl, by decide +kernel⟩, fun _ => Or.inr (gt4 33 rfl rfl)⟩
set_option maxRecDepth 100000 in
theorem ec_90 : Cond.code yX6_countQuotes cX6_countQuotes 5 (none) ∈ GW := gt4 34 rfl rfl
set_option maxRecDepth 100000 in
theorem em_91 : EMc yX6_hasOtherSide cX6_hasOtherSide 6 6 (some .boolean) 2 0 := ⟨rfl, plainFor_of_name ((cls_ok (o := 6) (by decide)).1 (by decide)), (cls_ok (o := 6) (by decide)).2.1, (cls_ok (o := 6) (by decide)).2.2, fun q => absurd q (by decide), fun _ => ⟨gt4 37 rfl rfl, by decide +kernel⟩, fun _ => Or.inr (gp0 9 rfl)⟩
set_option maxRecDepth 100000 in
theorem ec_91 : Cond.code yX6_hasOtherSide cX6_hasOtherSide 6 (some .boolean) ∈ GW := gt4 38 rfl rfl
set_option maxRecDepth 100000 in
theorem em_92 : EMc yX6_hasAuction cX6_hasAuction 6 5 (some .boolean) 1 0 := ⟨rfl, plainFor_of_name ((cls_ok (o := 6) (by decide)).1 (by decide)), (cls_ok (o := 6) (by decide)).2.1, (cls_ok (o := 6) (by decide)).2.2, fun q => absurd q (by decide), fun _ => ⟨gt7 3 rfl rfl, by decide +kernel⟩, fun _ => Or.inr (gt7 4 rfl rfl)⟩
set_option maxRecDepth 100000 in
theorem ec_92 : Cond.code yX6_hasAuction cX6_hasAuction 5 (some .boolean) ∈ GW := gt7 5 rfl rfl
set_option maxRecDepth 100000 in
theorem em_93 : EMc yX6_beginAuction cX6_beginAuction 6 4 (some .int) 4 0 := ⟨rfl, plainFor_of_name ((cls_ok (o := 6) (by decide)).1 (by decide)), (cls_ok (o := 6) (by decide)).2.1, (cls_ok (o := 6) (by decide)).2.2, fun q => absurd q (by decide), fun _ => ⟨gt3 155 rfl rfl, by decide +kernel⟩, fun _ => Or.inr (gt3 156 rfl rfl)⟩
set_option maxRecDepth 100000 in
theorem ec_93 : Cond.code yX6_beginAuction cX6_beginAuction 4 (some .int) ∈ GW := gt3 157 rfl rfl
set_option maxRecDepth 100000 in
theorem em_94 : EMc yX6_openBook cX6_openBook 6 6 (none) 2 0 := ⟨rfl, plainFor_of_name ((cls_ok (o := 6) (by decide)).1 (by decide)), (cls_ok (o := 6) (by decide)).2.1, (cls_ok (o := 6) (by decide)).2.2, fun q => absurd q (by decide), fun _ => ⟨gt4 73 rfl rfl, by decide +kernel⟩, fun _ => Or.inr (gt4 74 rfl rfl)⟩
set_option maxRecDepth 100000 in
theorem ec_94 : Cond.code yX6_openBook cX6_openBook 6 (none) ∈ GW := gt4 75 rfl rfl
set_option maxRecDepth 100000 in
theorem em_95 : EMc yX6_turnDay cX6_turnDay 6 6 (some .int) 1 0 := ⟨rfl, plainFor_of_name ((cls_ok (o := 6) (by decide)).1 (by decide)), (cls_ok (o := 6) (by decide)).2.1, (cls_ok (o := 6) (by decide)).2.2, fun q => absurd q (by decide), fun _ => ⟨gt4 160 rfl rfl, by decide +kernel⟩, fun _ => Or.inr (gt4 161 rfl rfl)⟩
set_option maxRecDepth 100000 in
theorem ec_95 : Cond.code yX6_turnDay cX6_turnDay 6 (some .int) ∈ GW := gt4 162 rfl rfl
set_option maxRecDepth 100000 in
theorem em_96 : EMc yX6_dueStop cX6_dueStop 6 6 (some (.object "Openbook$Order")) 1 0 := ⟨rfl, plainFor_of_name ((cls_ok (o := 6) (by decide)).1 (by decide)), (cls_ok (o := 6) (by decide)).2.1, (cls_ok (o := 6) (by decide)).2.2, fun q => absurd q (by decide), fun _ => ⟨gt4 82 rfl rfl, by decide +kernel⟩, fun _ => Or.inr (gt4 83 rfl rfl)⟩
set_option maxRecDepth 100000 in
theorem ec_96 : Cond.code yX6_dueStop cX6_dueStop 6 (some (.object "Openbook$Order")) ∈ GW := gt4 84 rfl rfl
set_option maxRecDepth 100000 in
theorem em_97 : EMc yX6_holdStops cX6_holdStops 6 7 (none) 3 0 := ⟨rfl, plainFor_of_name ((cls_ok (o := 6) (by decide)).1 (by decide)), (cls_ok (o := 6) (by decide)).2.1, (cls_ok (o := 6) (by decide)).2.2, fun q => absurd q (by decide), fun _ => ⟨gt4 174 rfl rfl, by decide +kernel⟩, fun _ => Or.inr (gt4 175 rfl rfl)⟩
set_option maxRecDepth 100000 in
theorem ec_97 : Cond.code yX6_holdStops cX6_holdStops 7 (none) ∈ GW := gt4 176 rfl rfl
set_option maxRecDepth 100000 in
theorem em_98 : EMc yX6_pricePegs cX6_pricePegs 6 4 (none) 1 0 := ⟨rfl, plainFor_of_name ((cls_ok (o := 6) (by decide)).1 (by decide)), (cls_ok (o := 6) (by decide)).2.1, (cls_ok (o := 6) (by decide)).2.2, fun q => absurd q (by decide), fun _ => ⟨gt4 137 rfl rfl, by decide +kernel⟩, fun _ => Or.inr (gt4 138 rfl rfl)⟩
set_option maxRecDepth 100000 in
theorem ec_98 : Cond.code yX6_pricePegs cX6_pricePegs 4 (none) ∈ GW := gt4 139 rfl rfl
set_option maxRecDepth 100000 in
theorem em_99 : EMc yX6_nextPeg cX6_nextPeg 6 7 (some (.object "Openbook$Order")) 2 0 := ⟨rfl, plainFor_of_name ((cls_ok (o := 6) (by decide)).1 (by decide)), (cls_ok (o := 6) (by decide)).2.1, (cls_ok (o := 6) (by decide)).2.2, fun q => absurd q (by decide), fun _ => ⟨gt4 142 rfl rfl, by decide +kernel⟩, fun _ => Or.inr (gp1 0 rfl)⟩
set_option maxRecDepth 100000 in
theorem ec_99 : Cond.code yX6_nextPeg cX6_nextPeg 7 (some (.object "Openbook$Order")) ∈ GW := gt4 143 rfl rfl
set_option maxRecDepth 100000 in
theorem em_100 : EMc yX6_pegPrice cX6_pegPrice 6 4 (some .int) 2 0 := ⟨rfl, plainFor_of_name ((cls_ok (o := 6) (by decide)).1 (by decide)), (cls_ok (o := 6) (by decide)).2.1, (cls_ok (o := 6) (by decide)).2.2, fun q => absurd q (by decide), fun _ => ⟨gt4 146 rfl rfl, by decide +kernel⟩, fun _ => Or.inr (gp1 1 rfl)⟩
set_option maxRecDepth 100000 in
theorem ec_100 : Cond.code yX6_pegPrice cX6_pegPrice 4 (some .int) ∈ GW := gt4 147 rfl rfl
set_option maxRecDepth 100000 in
theorem em_101 : EMc yX6_movePeg cX6_movePeg 6 3 (none) 3 0 := ⟨rfl, plainFor_of_name ((cls_ok (o := 6) (by decide)).1 (by decide)), (cls_ok (o := 6) (by decide)).2.1, (cls_ok (o := 6) (by decide)).2.2, fun q => absurd q (by decide), fun _ => ⟨gt4 153 rfl rfl, by decide +kernel⟩, fun _ => Or.inr (gp1 2 rfl)⟩
set_option maxRecDepth 100000 in
theorem ec_101 : Cond.code yX6_movePeg cX6_movePeg 3 (none) ∈ GW := gt4 154 rfl rfl
set_option maxRecDepth 100000 in
theorem em_102 : EMc yX7_init cX7_init 7 3 (none) 2 0 := ⟨rfl, plainFor_of_name ((cls_ok (o := 7) (by decide)).1 (by decide)), (cls_ok (o := 7) (by decide)).2.1, (cls_ok (o := 7) (by decide)).2.2, fun q => absurd q (by decide), fun _ => ⟨gt1 122 rfl rfl, by decide +kernel⟩, fun _ => Or.inl rfl⟩
set_option maxRecDepth 100000 in
theorem ec_102 : Cond.code yX7_init cX7_init 3 (none) ∈ GW := gt1 123 rfl rfl
set_option maxRecDepth 100000 in
theorem em_103 : EMc yX7_restore cX7_restore 7 5 (none) 1 0 := ⟨rfl, plainFor_of_name ((cls_ok (o := 7) (by decide)).1 (by decide)), (cls_ok (o := 7) (by decide)).2.1, (cls_ok (o := 7) (by decide)).2.2, fun q => absurd q (by decide), fun _ => ⟨gt3 9 rfl rfl, by decide +kernel⟩, fun _ => Or.inr (gt3 10 rfl rfl)⟩
set_option maxRecDepth 100000 in
theorem ec_103 : Cond.code yX7_restore cX7_restore 5 (none) ∈ GW := gt3 11 rfl rfl
set_option maxRecDepth 100000 in
theorem em_104 : EMc yX7_accountAt cX7_accountAt 7 2 (some (.object "Openbook$Account")) 2 0 := ⟨rfl, plainFor_of_name ((cls_ok (o := 7) (by decide)).1 (by decide)), (cls_ok (o := 7) (by decide)).2.1, (cls_ok (o := 7) (by decide)).2.2, fun q => absurd q (by decide), fun _ => ⟨gt1 228 rfl rfl, by decide +kernel⟩, fun _ => Or.inr (gt1 229 rfl rfl)⟩
set_option maxRecDepth 100000 in
theorem ec_104 : Cond.code yX7_accountAt cX7_accountAt 2 (some (.object "Openbook$Account")) ∈ GW := gt1 230 rfl rfl
set_option maxRecDepth 100000 in
theorem em_105 : EMc yX7_record cX7_record 7 7 (none) 6 0 := ⟨rfl, plainFor_of_name ((cls_ok (o := 7) (by decide)).1 (by decide)), (cls_ok (o := 7) (by decide)).2.1, (cls_ok (o := 7) (by decide)).2.2, fun q => absurd q (by decide), fun _ => ⟨gt3 184 rfl rfl, by decide +kernel⟩, fun _ => Or.inr (gt3 185 rfl rfl)⟩
set_option maxRecDepth 100000 in
theorem ec_105 : Cond.code yX7_record cX7_record 7 (none) ∈ GW := gt3 186 rfl rfl
set_option maxRecDepth 100000 in
theorem em_106 : EMc yX7_find cX7_find 7 4 (some (.object "Openbook$Deal")) 2 0 := ⟨rfl, plainFor_of_name ((cls_ok (o := 7) (by decide)).1 (by decide)), (cls_ok (o := 7) (by decide)).2.1, (cls_ok (o := 7) (by decide)).2.2, fun q => absurd q (by decide), fun _ => ⟨gt4 97 rfl rfl, by decide +kernel⟩, fun _ => Or.inr (gt4 98 rfl rfl)⟩
set_option maxRecDepth 100000 in
theorem ec_106 : Cond.code yX7_find cX7_find 4 (some (.object "Openbook$Deal")) ∈ GW := gt4 99 rfl rfl
set_option maxRecDepth 100000 in
theorem em_107 : EMc yX7_latestOf cX7_latestOf 7 5 (some .int) 2 0 := ⟨rfl, plainFor_of_name ((cls_ok (o := 7) (by decide)).1 (by decide)), (cls_ok (o := 7) (by decide)).2.1, (cls_ok (o := 7) (by decide)).2.2, fun q => absurd q (by decide), fun _ => ⟨gt4 90 rfl rfl, by decide +kernel⟩, fun _ => Or.inr (gt4 91 rfl rfl)⟩
set_option maxRecDepth 100000 in
theorem ec_107 : Cond.code yX7_latestOf cX7_latestOf 5 (some .int) ∈ GW := gt4 92 rfl rfl
set_option maxRecDepth 100000 in
theorem em_108 : EMc yX7_reverse cX7_reverse 7 6 (some .int) 2 0 := ⟨rfl, plainFor_of_name ((cls_ok (o := 7) (by decide)).1 (by decide)), (cls_ok (o := 7) (by decide)).2.1, (cls_ok (o := 7) (by decide)).2.2, fun q => absurd q (by decide), fun _ => ⟨gt4 168 rfl rfl, by decide +kernel⟩, fun _ => Or.inr (gt4 169 rfl rfl)⟩
set_option maxRecDepth 100000 in
theorem ec_108 : Cond.code yX7_reverse cX7_reverse 6 (some .int) ∈ GW := gt4 170 rfl rfl
set_option maxRecDepth 100000 in
theorem em_109 : EMc yX7_reprice cX7_reprice 7 7 (some .int) 3 0 := ⟨rfl, plainFor_of_name ((cls_ok (o := 7) (by decide)).1 (by decide)), (cls_ok (o := 7) (by decide)).2.1, (cls_ok (o := 7) (by decide)).2.2, fun q => absurd q (by decide), fun _ => ⟨gt4 178 rfl rfl, by decide +kernel⟩, fun _ => Or.inr (gt4 179 rfl rfl)⟩
set_option maxRecDepth 100000 in
theorem ec_109 : Cond.code yX7_reprice cX7_reprice 7 (some .int) ∈ GW := gt4 180 rfl rfl
set_option maxRecDepth 100000 in
theorem em_110 : EMc yX7_replaceSide cX7_replaceSide 7 8 (some .int) 4 0 := ⟨rfl, plainFor_of_name ((cls_ok (o := 7) (by decide)).1 (by decide)), (cls_ok (o := 7) (by decide)).2.1, (cls_ok (o := 7) (by decide)).2.2, fun q => absurd q (by decide), fun _ => ⟨gt4 182 rfl rfl, by decide +kernel⟩, fun _ => Or.inr (gt4 183 rfl rfl)⟩
set_option maxRecDepth 100000 in
theorem ec_110 : Cond.code yX7_replaceSide cX7_replaceSide 8 (some .int) ∈ GW := gt4 184 rfl rfl
set_option maxRecDepth 100000 in
theorem em_111 : EMc yX7_averageOf cX7_averageOf 7 13 (some .int) 4 0 := ⟨rfl, plainFor_of_name ((cls_ok (o := 7) (by decide)).1 (by decide)), (cls_ok (o := 7) (by decide)).2.1, (cls_ok (o := 7) (by decide)).2.2, fun q => absurd q (by decide), fun _ => ⟨gt4 191 rfl rfl, by decide +kernel⟩, fun _ => Or.inr (gt4 192 rfl rfl)⟩
set_option maxRecDepth 100000 in
theorem ec_111 : Cond.code yX7_averageOf cX7_averageOf 13 (some .int) ∈ GW := gt4 193 rfl rfl
set_option maxRecDepth 100000 in
theorem em_112 : EMc yX7_allotLots cX7_allotLots 7 8 (some .int) 5 0 := ⟨rfl, plainFor_of_name ((cls_ok (o := 7) (by decide)).1 (by decide)), (cls_ok (o := 7) (by decide)).2.1, (cls_ok (o := 7) (by decide)).2.2, fun q => absurd q (by decide), fun _ => ⟨gt4 187 rfl rfl, by decide +kernel⟩, fun _ => Or.inr (gt4 188 rfl rfl)⟩
set_option maxRecDepth 100000 in
theorem ec_112 : Cond.code yX7_allotLots cX7_allotLots 8 (some .int) ∈ GW := gt4 189 rfl rfl
set_option maxRecDepth 100000 in
theorem em_113 : EMc yX7_exerciseLots cX7_exerciseLots 7 8 (some .int) 4 0 := ⟨rfl, plainFor_of_name ((cls_ok (o := 7) (by decide)).1 (by decide)), (cls_ok (o := 7) (by decide)).2.1, (cls_ok (o := 7) (by decide)).2.2, fun q => absurd q (by decide), fun _ => ⟨gt4 210 rfl rfl, by decide +kernel⟩, fun _ => Or.inr (gt4 211 rfl rfl)⟩
set_option maxRecDepth 100000 in
theorem ec_113 : Cond.code yX7_exerciseLots cX7_exerciseLots 8 (some .int) ∈ GW := gt4 212 rfl rfl
set_option maxRecDepth 100000 in
theorem em_114 : EMc yX7_assign cX7_assign 7 11 (some .int) 2 0 := ⟨rfl, plainFor_of_name ((cls_ok (o := 7) (by decide)).1 (by decide)), (cls_ok (o := 7) (by decide)).2.1, (cls_ok (o := 7) (by decide)).2.2, fun q => absurd q (by decide), fun _ => ⟨gt4 219 rfl rfl, by decide +kernel⟩, fun _ => Or.inr (gp1 3 rfl)⟩
set_option maxRecDepth 100000 in
theorem ec_114 : Cond.code yX7_assign cX7_assign 11 (some .int) ∈ GW := gt4 220 rfl rfl
set_option maxRecDepth 100000 in
theorem em_115 : EMc yX7_canConvert cX7_canConvert 7 5 (some .boolean) 4 0 := ⟨rfl, plainFor_of_name ((cls_ok (o := 7) (by decide)).1 (by decide)), (cls_ok (o := 7) (by decide)).2.1, (cls_ok (o := 7) (by decide)).2.2, fun q => absurd q (by decide), fun _ => ⟨gt6 230 rfl rfl, by decide +kernel⟩, fun _ => Or.inr (gt6 231 rfl rfl)⟩
set_option maxRecDepth 100000 in
theorem ec_115 : Cond.code yX7_canConvert cX7_canConvert 5 (some .boolean) ∈ GW := gt6 232 rfl rfl
set_option maxRecDepth 100000 in
theorem em_116 : EMc yX7_scaled cX7_scaled 7 3 (some .long) 3 1 := ⟨rfl, plainFor_of_name ((cls_ok (o := 7) (by decide)).1 (by decide)), (cls_ok (o := 7) (by decide)).2.1, (cls_ok (o := 7) (by decide)).2.2, fun _ => ⟨gt5 8 rfl rfl, by decide +kernel⟩, fun q => absurd q (by decide), fun q => absurd q (by decide)⟩
set_option maxRecDepth 100000 in
theorem ec_116 : Cond.code yX7_scaled cX7_scaled 3 (some .long) ∈ GW := gt5 9 rfl rfl
set_option maxRecDepth 100000 in
theorem em_117 : EMc yX7_convertPositions cX7_convertPositions 7 17 (none) 5 0 := ⟨rfl, plainFor_of_name ((cls_ok (o := 7) (by decide)).1 (by decide)), (cls_ok (o := 7) (by decide)).2.1, (cls_ok (o := 7) (by decide)).2.2, fun q => absurd q (by decide), fun _ => ⟨gt5 4 rfl rfl, by decide +kernel⟩, fun _ => Or.inr (gt5 5 rfl rfl)⟩
set_option maxRecDepth 100000 in
theorem ec_117 : Cond.code yX7_convertPositions cX7_convertPositions 17 (none) ∈ GW := gt5 6 rfl rfl
set_option maxRecDepth 100000 in
theorem em_118 : EMc yX7_forget cX7_forget 7 6 (none) 2 0 := ⟨rfl, plainFor_of_name ((cls_ok (o := 7) (by decide)).1 (by decide)), (cls_ok (o := 7) (by decide)).2.1, (cls_ok (o := 7) (by decide)).2.2, fun q => absurd q (by decide), fun _ => ⟨gt4 234 rfl rfl, by decide +kernel⟩, fun _ => Or.inr (gt4 235 rfl rfl)⟩
set_option maxRecDepth 100000 in
theorem ec_118 : Cond.code yX7_forget cX7_forget 6 (none) ∈ GW := gt4 236 rfl rfl
set_option maxRecDepth 100000 in
theorem em_119 : EMc yX8_init cX8_init 8 4 (none) 3 0 := ⟨rfl, plainFor_of_name ((cls_ok (o := 8) (by decide)).1 (by decide)), (cls_ok (o := 8) (by decide)).2.1, (cls_ok (o := 8) (by decide)).2.2, fun q => absurd q (by decide), fun _ => ⟨gt2 121 rfl rfl, by decide +kernel⟩, fun _ => Or.inl rfl⟩
set_option maxRecDepth 100000 in
theorem ec_119 : Cond.code yX8_init cX8_init 4 (none) ∈ GW := gt2 122 rfl rfl
set_option maxRecDepth 100000 in
theorem em_120 : EMc yX8_reachable cX8_reachable 8 8 (some .long) 2 0 := ⟨rfl, plainFor_of_name ((cls_ok (o := 8) (by decide)).1 (by decide)), (cls_ok (o := 8) (by decide)).2.1, (cls_ok (o := 8) (by decide)).2.2, fun q => absurd q (by decide), fun _ => ⟨gt3 103 rfl rfl, by decide +kernel⟩, fun _ => Or.inr (gt3 104 rfl rfl)⟩
set_option maxRecDepth 100000 in
theorem ec_120 : Cond.code yX8_reachable cX8_reachable 8 (some .long) ∈ GW := gt3 105 rfl rfl
set_option maxRecDepth 100000 in
theorem em_121 : EMc yX8_match cX8_match 8 9 (none) 2 0 := ⟨rfl, plainFor_of_name ((cls_ok (o := 8) (by decide)).1 (by decide)), (cls_ok (o := 8) (by decide)).2.1, (cls_ok (o := 8) (by decide)).2.2, fun q => absurd q (by decide), fun _ => ⟨gt3 139 rfl rfl, by decide +kernel⟩, fun _ => Or.inr (gt3 140 rfl rfl)⟩
set_option maxRecDepth 100000 in
theorem ec_121 : Cond.code yX8_match cX8_match 9 (none) ∈ GW := gt3 141 rfl rfl
set_option maxRecDepth 100000 in
theorem em_122 : EMc yX8_settle cX8_settle 8 2 (none) 2 0 := ⟨rfl, plainFor_of_name ((cls_ok (o := 8) (by decide)).1 (by decide)), (cls_ok (o := 8) (by decide)).2.1, (cls_ok (o := 8) (by decide)).2.2, fun q => absurd q (by decide), fun _ => ⟨gt3 209 rfl rfl, by decide +kernel⟩, fun _ => Or.inr (gp0 8 rfl)⟩
set_option maxRecDepth 100000 in
theorem ec_122 : Cond.code yX8_settle cX8_settle 2 (none) ∈ GW := gt3 210 rfl rfl
set_option maxRecDepth 100000 in
theorem em_123 : EMc yX8_gather cX8_gather 8 12 (some .int) 3 0 := ⟨rfl, plainFor_of_name ((cls_ok (o := 8) (by decide)).1 (by decide)), (cls_ok (o := 8) (by decide)).2.1, (cls_ok (o := 8) (by decide)).2.2, fun q => absurd q (by decide), fun _ => ⟨gt3 160 rfl rfl, by decide +kernel⟩, fun _ => Or.inr (gp0 2 rfl)⟩
set_option maxRecDepth 100000 in
theorem ec_123 : Cond.code yX8_gather cX8_gather 12 (some .int) ∈ GW := gt3 161 rfl rfl
set_option maxRecDepth 100000 in
theorem em_124 : EMc yX8_meetsOwn cX8_meetsOwn 8 6 (some .boolean) 3 0 := ⟨rfl, plainFor_of_name ((cls_ok (o := 8) (by decide)).1 (by decide)), (cls_ok (o := 8) (by decide)).2.1, (cls_ok (o := 8) (by decide)).2.2, fun q => absurd q (by decide), fun _ => ⟨gt3 164 rfl rfl, by decide +kernel⟩, fun _ => Or.inr (gp0 3 rfl)⟩
set_option maxRecDepth 100000 in
theorem ec_124 : Cond.code yX8_meetsOwn cX8_meetsOwn 6 (some .boolean) ∈ GW := gt3 165 rfl rfl
set_option maxRecDepth 100000 in
theorem em_125 : EMc yX8_share cX8_share 8 7 (none) 4 0 := ⟨rfl, plainFor_of_name ((cls_ok (o := 8) (by decide)).1 (by decide)), (cls_ok (o := 8) (by decide)).2.1, (cls_ok (o := 8) (by decide)).2.2, fun q => absurd q (by decide), fun _ => ⟨gt3 168 rfl rfl, by decide +kernel⟩, fun _ => Or.inr (gp0 4 rfl)⟩
set_option maxRecDepth 100000 in
theorem ec_125 : Cond.code yX8_share cX8_share 7 (none) ∈ GW := gt3 169 rfl rfl
set_option maxRecDepth 100000 in
theorem em_126 : EMc yX8_giveTop cX8_giveTop 8 4 (some .int) 4 0 := ⟨rfl, plainFor_of_name ((cls_ok (o := 8) (by decide)).1 (by decide)), (cls_ok (o := 8) (by decide)).2.1, (cls_ok (o := 8) (by decide)).2.2, fun q => absurd q (by decide), fun _ => ⟨gt3 173 rfl rfl, by decide +kernel⟩, fun _ => Or.inr (gp0 5 rfl)⟩
set_option maxRecDepth 100000 in
theorem ec_126 : Cond.code yX8_giveTop cX8_giveTop 4 (some .int) ∈ GW := gt3 174 rfl rfl
set_option maxRecDepth 100000 in
theorem em_127 : EMc yX8_giveShares cX8_giveShares 8 8 (none) 3 0 := ⟨rfl, plainFor_of_name ((cls_ok (o := 8) (by decide)).1 (by decide)), (cls_ok (o := 8) (by decide)).2.1, (cls_ok (o := 8) (by decide)).2.2, fun q => absurd q (by decide), fun _ => ⟨gt3 177 rfl rfl, by decide +kernel⟩, fun _ => Or.inr (gp0 6 rfl)⟩
set_option maxRecDepth 100000 in
theorem ec_127 : Cond.code yX8_giveShares cX8_giveShares 8 (none) ∈ GW := gt3 178 rfl rfl
set_option maxRecDepth 100000 in
theorem em_128 : EMc yX8_strike cX8_strike 8 7 (none) 5 0 := ⟨rfl, plainFor_of_name ((cls_ok (o := 8) (by decide)).1 (by decide)), (cls_ok (o := 8) (by decide)).2.1, (cls_ok (o := 8) (by decide)).2.2, fun q => absurd q (by decide), fun _ => ⟨gt3 181 rfl rfl, by decide +kernel⟩, fun _ => Or.inr (gp0 7 rfl)⟩
set_option maxRecDepth 100000 in
theorem ec_128 : Cond.code yX8_strike cX8_strike 7 (none) ∈ GW := gt3 182 rfl rfl
set_option maxRecDepth 100000 in
theorem em_129 : EMc yX8_endAuction cX8_endAuction 8 3 (some .boolean) 2 0 := ⟨rfl, plainFor_of_name ((cls_ok (o := 8) (by decide)).1 (by decide)), (cls_ok (o := 8) (by decide)).2.1, (cls_ok (o := 8) (by decide)).2.2, fun q => absurd q (by decide), fun _ => ⟨gt4 40 rfl rfl, by decide +kernel⟩, fun _ => Or.inr (gt4 41 rfl rfl)⟩
set_option maxRecDepth 100000 in
theorem ec_129 : Cond.code yX8_endAuction cX8_endAuction 3 (some .boolean) ∈ GW := gt4 42 rfl rfl
set_option maxRecDepth 100000 in
theorem em_130 : EMc yX8_tradeAll cX8_tradeAll 8 6 (none) 3 0 := ⟨rfl, plainFor_of_name ((cls_ok (o := 8) (by decide)).1 (by decide)), (cls_ok (o := 8) (by decide)).2.1, (cls_ok (o := 8) (by decide)).2.2, fun q => absurd q (by decide), fun _ => ⟨gt4 61 rfl rfl, by decide +kernel⟩, fun _ => Or.inr (gp0 11 rfl)⟩
set_option maxRecDepth 100000 in
theorem ec_130 : Cond.code yX8_tradeAll cX8_tradeAll 6 (none) ∈ GW := gt4 62 rfl rfl
set_option maxRecDepth 100000 in
theorem em_131 : EMc yX8_firstAt cX8_firstAt 8 9 (some (.object "Openbook$Order")) 4 0 := ⟨rfl, plainFor_of_name ((cls_ok (o := 8) (by decide)).1 (by decide)), (cls_ok (o := 8) (by decide)).2.1, (cls_ok (o := 8) (by decide)).2.2, fun q => absurd q (by decide), fun _ => ⟨gt4 65 rfl rfl, by decide +kernel⟩, fun _ => Or.inr (gp0 12 rfl)⟩
set_option maxRecDepth 100000 in
theorem ec_131 : Cond.code yX8_firstAt cX8_firstAt 9 (some (.object "Openbook$Order")) ∈ GW := gt4 66 rfl rfl
set_option maxRecDepth 100000 in
theorem em_132 : EMc yX8_comesBefore cX8_comesBefore 8 3 (some .boolean) 3 0 := ⟨rfl, plainFor_of_name ((cls_ok (o := 8) (by decide)).1 (by decide)), (cls_ok (o := 8) (by decide)).2.1, (cls_ok (o := 8) (by decide)).2.2, fun q => absurd q (by decide), fun _ => ⟨gt4 69 rfl rfl, by decide +kernel⟩, fun _ => Or.inr (gp0 13 rfl)⟩
set_option maxRecDepth 100000 in
theorem ec_132 : Cond.code yX8_comesBefore cX8_comesBefore 3 (some .boolean) ∈ GW := gt4 70 rfl rfl
set_option maxRecDepth 100000 in
theorem em_133 : EMc yX8_findPrice cX8_findPrice 8 13 (some .int) 2 0 := ⟨rfl, plainFor_of_name ((cls_ok (o := 8) (by decide)).1 (by decide)), (cls_ok (o := 8) (by decide)).2.1, (cls_ok (o := 8) (by decide)).2.2, fun q => absurd q (by decide), fun _ => ⟨gt4 44 rfl rfl, by decide +kernel⟩, fun _ => Or.inr (gt4 45 rfl rfl)⟩
set_option maxRecDepth 100000 in
theorem ec_133 : Cond.code yX8_findPrice cX8_findPrice 13 (some .int) ∈ GW := gt4 46 rfl rfl
set_option maxRecDepth 100000 in
theorem em_134 : EMc yX8_isNearer cX8_isNearer 8 5 (some .boolean) 3 1 := ⟨rfl, plainFor_of_name ((cls_ok (o := 8) (by decide)).1 (by decide)), (cls_ok (o := 8) (by decide)).2.1, (cls_ok (o := 8) (by decide)).2.2, fun _ => ⟨gt4 57 rfl rfl, by decide +kernel⟩, fun q => absurd q (by decide), fun q => absurd q (by decide)⟩
set_option maxRecDepth 100000 in
theorem ec_134 : Cond.code yX8_isNearer cX8_isNearer 5 (some .boolean) ∈ GW := gt4 58 rfl rfl
set_option maxRecDepth 100000 in
theorem em_135 : EMc yX8_volumeAt cX8_volumeAt 8 3 (some .int) 3 0 := ⟨rfl, plainFor_of_name ((cls_ok (o := 8) (by decide)).1 (by decide)), (cls_ok (o := 8) (by decide)).2.1, (cls_ok (o := 8) (by decide)).2.2, fun q => absurd q (by decide), fun _ => ⟨gt4 48 rfl rfl, by decide +kernel⟩, fun _ => Or.inr (gt4 49 rfl rfl)⟩
set_option maxRecDepth 100000 in
theorem ec_135 : Cond.code yX8_volumeAt cX8_volumeAt 3 (some .int) ∈ GW := gt4 50 rfl rfl
set_option maxRecDepth 100000 in
theorem em_136 : EMc yX8_sumAt cX8_sumAt 8 9 (some .int) 4 0 := ⟨rfl, plainFor_of_name ((cls_ok (o := 8) (by decide)).1 (by decide)), (cls_ok (o := 8) (by decide)).2.1, (cls_ok (o := 8) (by decide)).2.2, fun q => absurd q (by decide), fun _ => ⟨gt4 53 rfl rfl, by decide +kernel⟩, fun _ => Or.inr (gp0 10 rfl)⟩
set_option maxRecDepth 100000 in
theorem ec_136 : Cond.code yX8_sumAt cX8_sumAt 9 (some .int) ∈ GW := gt4 54 rfl rfl
set_option maxRecDepth 100000 in
theorem em_137 : EMc yX9_init cX9_init 9 1 (none) 1 0 := ⟨rfl, plainFor_of_name ((cls_ok (o := 9) (by decide)).1 (by decide)), (cls_ok (o := 9) (by decide)).2.1, (cls_ok (o := 9) (by decide)).2.2, fun q => absurd q (by decide), fun _ => ⟨gt2 163 rfl rfl, by decide +kernel⟩, fun _ => Or.inl rfl⟩
set_option maxRecDepth 100000 in
theorem ec_137 : Cond.code yX9_init cX9_init 1 (none) ∈ GW := gt2 164 rfl rfl
set_option maxRecDepth 100000 in
theorem em_138 : EMc yX9_restore cX9_restore 9 1 (none) 1 0 := ⟨rfl, plainFor_of_name ((cls_ok (o := 9) (by decide)).1 (by decide)), (cls_ok (o := 9) (by decide)).2.1, (cls_ok (o := 9) (by decide)).2.2, fun q => absurd q (by decide), fun _ => ⟨gt3 21 rfl rfl, by decide +kernel⟩, fun _ => Or.inr (gt3 22 rfl rfl)⟩
set_option maxRecDepth 100000 in
theorem ec_138 : Cond.code yX9_restore cX9_restore 1 (none) ∈ GW := gt3 23 rfl rfl
set_option maxRecDepth 100000 in
theorem em_139 : EMc yX9_forgetBid cX9_forgetBid 9 1 (none) 1 0 := ⟨rfl, plainFor_of_name ((cls_ok (o := 9) (by decide)).1 (by decide)), (cls_ok (o := 9) (by decide)).2.1, (cls_ok (o := 9) (by decide)).2.2, fun q => absurd q (by decide), fun _ => ⟨gt3 25 rfl rfl, by decide +kernel⟩, fun _ => Or.inr (gt3 26 rfl rfl)⟩
set_option maxRecDepth 100000 in
theorem ec_139 : Cond.code yX9_forgetBid cX9_forgetBid 1 (none) ∈ GW := gt3 27 rfl rfl
set_option maxRecDepth 100000 in
theorem em_140 : EMc yX10_init cX10_init 10 3 (none) 3 0 := ⟨rfl, plainFor_of_name ((cls_ok (o := 10) (by decide)).1 (by decide)), (cls_ok (o := 10) (by decide)).2.1, (cls_ok (o := 10) (by decide)).2.2, fun q => absurd q (by decide), fun _ => ⟨gt1 239 rfl rfl, by decide +kernel⟩, fun _ => Or.inl rfl⟩
set_option maxRecDepth 100000 in
theorem ec_140 : Cond.code yX10_init cX10_init 3 (none) ∈ GW := gt2 0 rfl rfl
set_option maxRecDepth 100000 in
theorem em_141 : EMc yX10_begin cX10_begin 10 7 (none) 7 0 := ⟨rfl, plainFor_of_name ((cls_ok (o := 10) (by decide)).1 (by decide)), (cls_ok (o := 10) (by decide)).2.1, (cls_ok (o := 10) (by decide)).2.2, fun q => absurd q (by decide), fun _ => ⟨gt3 95 rfl rfl, by decide +kernel⟩, fun _ => Or.inr (gt3 96 rfl rfl)⟩
set_option maxRecDepth 100000 in
theorem ec_141 : Cond.code yX10_begin cX10_begin 7 (none) ∈ GW := gt3 97 rfl rfl
set_option maxRecDepth 100000 in
theorem em_142 : EMc yX10_standsIn cX10_standsIn 10 3 (some .boolean) 3 0 := ⟨rfl, plainFor_of_name ((cls_ok (o := 10) (by decide)).1 (by decide)), (cls_ok (o := 10) (by decide)).2.1, (cls_ok (o := 10) (by decide)).2.2, fun q => absurd q (by decide), fun _ => ⟨gt3 107 rfl rfl, by decide +kernel⟩, fun _ => Or.inr (gt3 108 rfl rfl)⟩
set_option maxRecDepth 100000 in
theorem ec_142 : Cond.code yX10_standsIn cX10_standsIn 3 (some .boolean) ∈ GW := gt3 109 rfl rfl
set_option maxRecDepth 100000 in
theorem em_143 : EMc yX10_allows cX10_allows 10 2 (some .boolean) 2 0 := ⟨rfl, plainFor_of_name ((cls_ok (o := 10) (by decide)).1 (by decide)), (cls_ok (o := 10) (by decide)).2.1, (cls_ok (o := 10) (by decide)).2.2, fun q => absurd q (by decide), fun _ => ⟨gt3 111 rfl rfl, by decide +kernel⟩, fun _ => Or.inr (gt3 112 rfl rfl)⟩
set_option maxRecDepth 100000 in
theorem ec_143 : Cond.code yX10_allows cX10_allows 2 (some .boolean) ∈ GW := gt3 113 rfl rfl
set_option maxRecDepth 100000 in
theorem em_144 : EMc yX10_isBetter cX10_isBetter 10 3 (some .boolean) 3 0 := ⟨rfl, plainFor_of_name ((cls_ok (o := 10) (by decide)).1 (by decide)), (cls_ok (o := 10) (by decide)).2.1, (cls_ok (o := 10) (by decide)).2.2, fun q => absurd q (by decide), fun _ => ⟨gt3 150 rfl rfl, by decide +kernel⟩, fun _ => Or.inr (gt3 151 rfl rfl)⟩
set_option maxRecDepth 100000 in
theorem ec_144 : Cond.code yX10_isBetter cX10_isBetter 3 (some .boolean) ∈ GW := gt3 152 rfl rfl
set_option maxRecDepth 100000 in
theorem em_145 : EMc yX10_addsTo cX10_addsTo 10 3 (some .boolean) 3 0 := ⟨rfl, plainFor_of_name ((cls_ok (o := 10) (by decide)).1 (by decide)), (cls_ok (o := 10) (by decide)).2.1, (cls_ok (o := 10) (by decide)).2.2, fun q => absurd q (by decide), fun _ => ⟨gt6 44 rfl rfl, by decide +kernel⟩, fun _ => Or.inr (gt6 45 rfl rfl)⟩
set_option maxRecDepth 100000 in
theorem ec_145 : Cond.code yX10_addsTo cX10_addsTo 3 (some .boolean) ∈ GW := gt6 46 rfl rfl
set_option maxRecDepth 100000 in
theorem em_146 : EMc yX10_isDue cX10_isDue 10 1 (some .boolean) 1 0 := ⟨rfl, plainFor_of_name ((cls_ok (o := 10) (by decide)).1 (by decide)), (cls_ok (o := 10) (by decide)).2.1, (cls_ok (o := 10) (by decide)).2.2, fun q => absurd q (by decide), fun _ => ⟨gt4 86 rfl rfl, by decide +kernel⟩, fun _ => Or.inr (gt4 87 rfl rfl)⟩
set_option maxRecDepth 100000 in
theorem ec_146 : Cond.code yX10_isDue cX10_isDue 1 (some .boolean) ∈ GW := gt4 88 rfl rfl
set_option maxRecDepth 100000 in
theorem em_147 : EMc yX10_hold cX10_hold 10 1 (none) 1 0 := ⟨rfl, plainFor_of_name ((cls_ok (o := 10) (by decide)).1 (by decide)), (cls_ok (o := 10) (by decide)).2.1, (cls_ok (o := 10) (by decide)).2.2, fun q => absurd q (by decide), fun _ => ⟨gt4 156 rfl rfl, by decide +kernel⟩, fun _ => Or.inr (gt4 157 rfl rfl)⟩
set_option maxRecDepth 100000 in
theorem ec_147 : Cond.code yX10_hold cX10_hold 1 (none) ∈ GW := gt4 158 rfl rfl
set_option maxRecDepth 100000 in
theorem em_148 : EMc yX10_showable cX10_showable 10 1 (some .int) 1 0 := ⟨rfl, plainFor_of_name ((cls_ok (o := 10) (by decide)).1 (by decide)), (cls_ok (o := 10) (by decide)).2.1, (cls_ok (o := 10) (by decide)).2.2, fun q => absurd q (by decide), fun _ => ⟨gt3 128 rfl rfl, by decide +kernel⟩, fun _ => Or.inr (gt3 129 rfl rfl)⟩
set_option maxRecDepth 100000 in
theorem ec_148 : Cond.code yX10_showable cX10_showable 1 (some .int) ∈ GW := gt3 130 rfl rfl
set_option maxRecDepth 100000 in
theorem em_149 : EMc yX10_fall cX10_fall 10 2 (none) 2 0 := ⟨rfl, plainFor_of_name ((cls_ok (o := 10) (by decide)).1 (by decide)), (cls_ok (o := 10) (by decide)).2.1, (cls_ok (o := 10) (by decide)).2.2, fun q => absurd q (by decide), fun _ => ⟨gt3 196 rfl rfl, by decide +kernel⟩, fun _ => Or.inr (gt3 197 rfl rfl)⟩
set_option maxRecDepth 100000 in
theorem ec_149 : Cond.code yX10_fall cX10_fall 2 (none) ∈ GW := gt3 198 rfl rfl
set_option maxRecDepth 100000 in
theorem em_150 : EMc yX11_init cX11_init 11 1 (none) 1 0 := ⟨rfl, plainFor_of_name ((cls_ok (o := 11) (by decide)).1 (by decide)), (cls_ok (o := 11) (by decide)).2.1, (cls_ok (o := 11) (by decide)).2.2, fun q => absurd q (by decide), fun _ => ⟨gt1 23 rfl rfl, by decide +kernel⟩, fun _ => Or.inl rfl⟩
set_option maxRecDepth 100000 in
theorem ec_150 : Cond.code yX11_init cX11_init 1 (none) ∈ GW := gt1 24 rfl rfl
set_option maxRecDepth 100000 in
theorem em_151 : EMc yX11_limit cX11_limit 11 8 (some .int) 7 0 := ⟨rfl, plainFor_of_name ((cls_ok (o := 11) (by decide)).1 (by decide)), (cls_ok (o := 11) (by decide)).2.1, (cls_ok (o := 11) (by decide)).2.2, fun q => absurd q (by decide), fun _ => ⟨gt5 156 rfl rfl, by decide +kernel⟩, fun _ => Or.inr (gt5 157 rfl rfl)⟩
set_option maxRecDepth 100000 in
theorem ec_151 : Cond.code yX11_limit cX11_limit 8 (some .int) ∈ GW := gt5 158 rfl rfl
set_option maxRecDepth 100000 in
theorem em_152 : EMc yX11_market cX11_market 11 4 (some .int) 4 0 := ⟨rfl, plainFor_of_name ((cls_ok (o := 11) (by decide)).1 (by decide)), (cls_ok (o := 11) (by decide)).2.1, (cls_ok (o := 11) (by decide)).2.2, fun q => absurd q (by decide), fun _ => ⟨gt6 76 rfl rfl, by decide +kernel⟩, fun _ => Or.inr (gt6 77 rfl rfl)⟩
set_option maxRecDepth 100000 in
theorem ec_152 : Cond.code yX11_market cX11_market 4 (some .int) ∈ GW := gt6 78 rfl rfl
set_option maxRecDepth 100000 in
theorem em_153 : EMc yX11_iceberg cX11_iceberg 11 6 (some .int) 6 0 := ⟨rfl, plainFor_of_name ((cls_ok (o := 11) (by decide)).1 (by decide)), (cls_ok (o := 11) (by decide)).2.1, (cls_ok (o := 11) (by decide)).2.2, fun q => absurd q (by decide), fun _ => ⟨gt6 83 rfl rfl, by decide +kernel⟩, fun _ => Or.inr (gt6 84 rfl rfl)⟩
set_option maxRecDepth 100000 in
theorem ec_153 : Cond.code yX11_iceberg cX11_iceberg 6 (some .int) ∈ GW := gt6 85 rfl rfl
set_option maxRecDepth 100000 in
theorem em_154 : EMc yX11_peg cX11_peg 11 6 (some .int) 6 0 := ⟨rfl, plainFor_of_name ((cls_ok (o := 11) (by decide)).1 (by decide)), (cls_ok (o := 11) (by decide)).2.1, (cls_ok (o := 11) (by decide)).2.2, fun q => absurd q (by decide), fun _ => ⟨gt6 90 rfl rfl, by decide +kernel⟩, fun _ => Or.inr (gt6 91 rfl rfl)⟩
set_option maxRecDepth 100000 in
theorem ec_154 : Cond.code yX11_peg cX11_peg 6 (some .int) ∈ GW := gt6 92 rfl rfl
set_option maxRecDepth 100000 in
theorem em_155 : EMc yX11_stop cX11_stop 11 6 (some .int) 6 0 := ⟨rfl, plainFor_of_name ((cls_ok (o := 11) (by decide)).1 (by decide)), (cls_ok (o := 11) (by decide)).2.1, (cls_ok (o := 11) (by decide)).2.2, fun q => absurd q (by decide), fun _ => ⟨gt6 97 rfl rfl, by decide +kernel⟩, fun _ => Or.inr (gt6 98 rfl rfl)⟩
set_option maxRecDepth 100000 in
theorem ec_155 : Cond.code yX11_stop cX11_stop 6 (some .int) ∈ GW := gt6 99 rfl rfl
set_option maxRecDepth 100000 in
theorem em_156 : EMc yX11_quote cX11_quote 11 7 (some .int) 6 0 := ⟨rfl, plainFor_of_name ((cls_ok (o := 11) (by decide)).1 (by decide)), (cls_ok (o := 11) (by decide)).2.1, (cls_ok (o := 11) (by decide)).2.2, fun q => absurd q (by decide), fun _ => ⟨gt6 107 rfl rfl, by decide +kernel⟩, fun _ => Or.inr (gt6 108 rfl rfl)⟩
set_option maxRecDepth 100000 in
theorem ec_156 : Cond.code yX11_quote cX11_quote 7 (some .int) ∈ GW := gt6 109 rfl rfl
set_option maxRecDepth 100000 in
theorem em_157 : EMc yX11_setRule cX11_setRule 11 5 (some .int) 5 0 := ⟨rfl, plainFor_of_name ((cls_ok (o := 11) (by decide)).1 (by decide)), (cls_ok (o := 11) (by decide)).2.1, (cls_ok (o := 11) (by decide)).2.2, fun q => absurd q (by decide), fun _ => ⟨gt6 158 rfl rfl, by decide +kernel⟩, fun _ => Or.inr (gt6 159 rfl rfl)⟩
set_option maxRecDepth 100000 in
theorem ec_157 : Cond.code yX11_setRule cX11_setRule 5 (some .int) ∈ GW := gt6 160 rfl rfl
set_option maxRecDepth 100000 in
theorem em_158 : EMc yX11_setBand cX11_setBand 11 3 (some .int) 3 0 := ⟨rfl, plainFor_of_name ((cls_ok (o := 11) (by decide)).1 (by decide)), (cls_ok (o := 11) (by decide)).2.1, (cls_ok (o := 11) (by decide)).2.2, fun q => absurd q (by decide), fun _ => ⟨gt6 162 rfl rfl, by decide +kernel⟩, fun _ => Or.inr (gt6 163 rfl rfl)⟩
set_option maxRecDepth 100000 in
theorem ec_158 : Cond.code yX11_setBand cX11_setBand 3 (some .int) ∈ GW := gt6 164 rfl rfl
set_option maxRecDepth 100000 in
theorem em_159 : EMc yX11_setProtection cX11_setProtection 11 3 (some .int) 3 0 := ⟨rfl, plainFor_of_name ((cls_ok (o := 11) (by decide)).1 (by decide)), (cls_ok (o := 11) (by decide)).2.1, (cls_ok (o := 11) (by decide)).2.2, fun q => absurd q (by decide), fun _ => ⟨gt6 174 rfl rfl, by decide +kernel⟩, fun _ => Or.inr (gt6 175 rfl rfl)⟩
set_option maxRecDepth 100000 in
theorem ec_159 : Cond.code yX11_setProtection cX11_setProtection 3 (some .int) ∈ GW := gt6 176 rfl rfl
set_option maxRecDepth 100000 in
theorem em_160 : EMc yX11_auction cX11_auction 11 5 (some .int) 5 0 := ⟨rfl, plainFor_of_name ((cls_ok (o := 11) (by decide)).1 (by decide)), (cls_ok (o := 11) (by decide)).2.1, (cls_ok (o := 11) (by decide)).2.2, fun q => absurd q (by decide), fun _ => ⟨gt6 150 rfl rfl, by decide +kernel⟩, fun _ => Or.inr (gt6 151 rfl rfl)⟩
set_option maxRecDepth 100000 in
theorem ec_160 : Cond.code yX11_auction cX11_auction 5 (some .int) ∈ GW := gt6 152 rfl rfl
set_option maxRecDepth 100000 in
theorem em_161 : EMc yX11_pass cX11_pass 11 2 (some .int) 2 0 := ⟨rfl, plainFor_of_name ((cls_ok (o := 11) (by decide)).1 (by decide)), (cls_ok (o := 11) (by decide)).2.1, (cls_ok (o := 11) (by decide)).2.2, fun q => absurd q (by decide), fun _ => ⟨gt6 166 rfl rfl, by decide +kernel⟩, fun _ => Or.inr (gt6 167 rfl rfl)⟩
set_option maxRecDepth 100000 in
theorem ec_161 : Cond.code yX11_pass cX11_pass 2 (some .int) ∈ GW := gt6 168 rfl rfl
set_option maxRecDepth 100000 in
theorem em_162 : EMc yX11_endDay cX11_endDay 11 1 (some .int) 1 0 := ⟨rfl, plainFor_of_name ((cls_ok (o := 11) (by decide)).1 (by decide)), (cls_ok (o := 11) (by decide)).2.1, (cls_ok (o := 11) (by decide)).2.2, fun q => absurd q (by decide), fun _ => ⟨gt6 239 rfl rfl, by decide +kernel⟩, fun _ => Or.inr (gt7 0 rfl rfl)⟩
set_option maxRecDepth 100000 in
theorem ec_162 : Cond.code yX11_endDay cX11_endDay 1 (some .int) ∈ GW := gt7 1 rfl rfl
set_option maxRecDepth 100000 in
theorem em_163 : EMc yX11_bust cX11_bust 11 2 (some .int) 2 0 := ⟨rfl, plainFor_of_name ((cls_ok (o := 11) (by decide)).1 (by decide)), (cls_ok (o := 11) (by decide)).2.1, (cls_ok (o := 11) (by decide)).2.2, fun q => absurd q (by decide), fun _ => ⟨gt6 123 rfl rfl, by decide +kernel⟩, fun _ => Or.inr (gt6 124 rfl rfl)⟩
set_option maxRecDepth 100000 in
theorem ec_163 : Cond.code yX11_bust cX11_bust 2 (some .int) ∈ GW := gt6 125 rfl rfl
set_option maxRecDepth 100000 in
theorem em_164 : EMc yX11_convert cX11_convert 11 4 (some .int) 4 0 := ⟨rfl, plainFor_of_name ((cls_ok (o := 11) (by decide)).1 (by decide)), (cls_ok (o := 11) (by decide)).2.1, (cls_ok (o := 11) (by decide)).2.2, fun q => absurd q (by decide), fun _ => ⟨gt6 226 rfl rfl, by decide +kernel⟩, fun _ => Or.inr (gt6 227 rfl rfl)⟩
set_option maxRecDepth 100000 in
theorem ec_164 : Cond.code yX11_convert cX11_convert 4 (some .int) ∈ GW := gt6 228 rfl rfl
set_option maxRecDepth 100000 in
theorem em_165 : EMc yX11_setMove cX11_setMove 11 4 (some .int) 4 0 := ⟨rfl, plainFor_of_name ((cls_ok (o := 11) (by decide)).1 (by decide)), (cls_ok (o := 11) (by decide)).2.1, (cls_ok (o := 11) (by decide)).2.2, fun q => absurd q (by decide), fun _ => ⟨gt6 170 rfl rfl, by decide +kernel⟩, fun _ => Or.inr (gt6 171 rfl rfl)⟩
set_option maxRecDepth 100000 in
theorem ec_165 : Cond.code yX11_setMove cX11_setMove 4 (some .int) ∈ GW := gt6 172 rfl rfl
set_option maxRecDepth 100000 in
theorem em_166 : EMc yX11_setHaircut cX11_setHaircut 11 2 (some .int) 2 0 := ⟨rfl, plainFor_of_name ((cls_ok (o := 11) (by decide)).1 (by decide)), (cls_ok (o := 11) (by decide)).2.1, (cls_ok (o := 11) (by decide)).2.2, fun q => absurd q (by decide), fun _ => ⟨gt7 7 rfl rfl, by decide +kernel⟩, fun _ => Or.inr (gt7 8 rfl rfl)⟩
set_option maxRecDepth 100000 in
theorem ec_166 : Cond.code yX11_setHaircut cX11_setHaircut 2 (some .int) ∈ GW := gt7 9 rfl rfl
set_option maxRecDepth 100000 in
theorem em_167 : EMc yX11_pay cX11_pay 11 4 (some .int) 4 0 := ⟨rfl, plainFor_of_name ((cls_ok (o := 11) (by decide)).1 (by decide)), (cls_ok (o := 11) (by decide)).2.1, (cls_ok (o := 11) (by decide)).2.2, fun q => absurd q (by decide), fun _ => ⟨gt6 189 rfl rfl, by decide +kernel⟩, fun _ => Or.inr (gt6 190 rfl rfl)⟩
set_option maxRecDepth 100000 in
theorem ec_167 : Cond.code yX11_pay cX11_pay 4 (some .int) ∈ GW := gt6 191 rfl rfl
set_option maxRecDepth 100000 in
theorem em_168 : EMc yX11_fail cX11_fail 11 2 (some .int) 2 0 := ⟨rfl, plainFor_of_name ((cls_ok (o := 11) (by decide)).1 (by decide)), (cls_ok (o := 11) (by decide)).2.1, (cls_ok (o := 11) (by decide)).2.2, fun q => absurd q (by decide), fun _ => ⟨gt6 200 rfl rfl, by decide +kernel⟩, fun _ => Or.inr (gt6 201 rfl rfl)⟩
set_option maxRecDepth 100000 in
theorem ec_168 : Cond.code yX11_fail cX11_fail 2 (some .int) ∈ GW := gt6 202 rfl rfl
set_option maxRecDepth 100000 in
theorem em_169 : EMc yX11_bid cX11_bid 11 3 (some .int) 3 0 := ⟨rfl, plainFor_of_name ((cls_ok (o := 11) (by decide)).1 (by decide)), (cls_ok (o := 11) (by decide)).2.1, (cls_ok (o := 11) (by decide)).2.2, fun q => absurd q (by decide), fun _ => ⟨gt6 211 rfl rfl, by decide +kernel⟩, fun _ => Or.inr (gt6 212 rfl rfl)⟩
set_option maxRecDepth 100000 in
theorem ec_169 : Cond.code yX11_bid cX11_bid 3 (some .int) ∈ GW := gt6 213 rfl rfl
set_option maxRecDepth 100000 in
theorem em_170 : EMc yX11_closeOut cX11_closeOut 11 1 (some .int) 1 0 := ⟨rfl, plainFor_of_name ((cls_ok (o := 11) (by decide)).1 (by decide)), (cls_ok (o := 11) (by decide)).2.1, (cls_ok (o := 11) (by decide)).2.2, fun q => absurd q (by decide), fun _ => ⟨gt6 219 rfl rfl, by decide +kernel⟩, fun _ => Or.inr (gt6 220 rfl rfl)⟩
set_option maxRecDepth 100000 in
theorem ec_170 : Cond.code yX11_closeOut cX11_closeOut 1 (some .int) ∈ GW := gt6 221 rfl rfl
set_option maxRecDepth 100000 in
theorem em_171 : EMc yX11_keep cX11_keep 11 1 (some .int) 1 0 := ⟨rfl, plainFor_of_name ((cls_ok (o := 11) (by decide)).1 (by decide)), (cls_ok (o := 11) (by decide)).2.1, (cls_ok (o := 11) (by decide)).2.2, fun q => absurd q (by decide), fun _ => ⟨gt3 69 rfl rfl, by decide +kernel⟩, fun _ => Or.inr (gt3 70 rfl rfl)⟩
set_option maxRecDepth 100000 in
theorem ec_171 : Cond.code yX11_keep cX11_keep 1 (some .int) ∈ GW := gt3 71 rfl rfl
set_option maxRecDepth 100000 in
theorem em_172 : EMc yX11_failOver cX11_failOver 11 3 (some .int) 1 0 := ⟨rfl, plainFor_of_name ((cls_ok (o := 11) (by decide)).1 (by decide)), (cls_ok (o := 11) (by decide)).2.1, (cls_ok (o := 11) (by decide)).2.2, fun q => absurd q (by decide), fun _ => ⟨gt3 73 rfl rfl, by decide +kernel⟩, fun _ => Or.inr (gt3 74 rfl rfl)⟩
set_option maxRecDepth 100000 in
theorem ec_172 : Cond.code yX11_failOver cX11_failOver 3 (some .int) ∈ GW := gt3 75 rfl rfl
set_option maxRecDepth 100000 in
theorem em_173 : EMc yX11_events cX11_events 11 1 (some .int) 1 0 := ⟨rfl, plainFor_of_name ((cls_ok (o := 11) (by decide)).1 (by decide)), (cls_ok (o := 11) (by decide)).2.1, (cls_ok (o := 11) (by decide)).2.2, fun q => absurd q (by decide), fun _ => ⟨gt5 138 rfl rfl, by decide +kernel⟩, fun _ => Or.inr (gt5 139 rfl rfl)⟩
set_option maxRecDepth 100000 in
theorem ec_173 : Cond.code yX11_events cX11_events 1 (some .int) ∈ GW := gt5 140 rfl rfl
set_option maxRecDepth 100000 in
theorem em_174 : EMc yX11_positionByLog cX11_positionByLog 11 3 (some .int) 3 0 := ⟨rfl, plainFor_of_name ((cls_ok (o := 11) (by decide)).1 (by decide)), (cls_ok (o := 11) (by decide)).2.1, (cls_ok (o := 11) (by decide)).2.2, fun q => absurd q (by decide), fun _ => ⟨gt7 54 rfl rfl, by decide +kernel⟩, fun _ => Or.inr (gt7 55 rfl rfl)⟩
set_option maxRecDepth 100000 in
theorem ec_174 : Cond.code yX11_positionByLog cX11_positionByLog 3 (some .int) ∈ GW := gt7 56 rfl rfl
set_option maxRecDepth 100000 in
theorem em_175 : EMc yX11_bestByLog cX11_bestByLog 11 3 (some .int) 3 0 := ⟨rfl, plainFor_of_name ((cls_ok (o := 11) (by decide)).1 (by decide)), (cls_ok (o := 11) (by decide)).2.1, (cls_ok (o := 11) (by decide)).2.2, fun q => absurd q (by decide), fun _ => ⟨gt7 58 rfl rfl, by decide +kernel⟩, fun _ => Or.inr (gt7 59 rfl rfl)⟩
set_option maxRecDepth 100000 in
theorem ec_175 : Cond.code yX11_bestByLog cX11_bestByLog 3 (some .int) ∈ GW := gt7 60 rfl rfl
set_option maxRecDepth 100000 in
theorem em_176 : EMc yX11_best cX11_best 11 3 (some .int) 3 0 := ⟨rfl, plainFor_of_name ((cls_ok (o := 11) (by decide)).1 (by decide)), (cls_ok (o := 11) (by decide)).2.1, (cls_ok (o := 11) (by decide)).2.2, fun q => absurd q (by decide), fun _ => ⟨gt7 31 rfl rfl, by decide +kernel⟩, fun _ => Or.inr (gt7 32 rfl rfl)⟩
set_option maxRecDepth 100000 in
theorem ec_176 : Cond.code yX11_best cX11_best 3 (some .int) ∈ GW := gt7 33 rfl rfl
set_option maxRecDepth 100000 in
theorem em_177 : EMc yX11_shown cX11_shown 11 4 (some .int) 4 0 := ⟨rfl, plainFor_of_name ((cls_ok (o := 11) (by decide)).1 (by decide)), (cls_ok (o := 11) (by decide)).2.1, (cls_ok (o := 11) (by decide)).2.2, fun q => absurd q (by decide), fun _ => ⟨gt7 37 rfl rfl, by decide +kernel⟩, fun _ => Or.inr (gt7 38 rfl rfl)⟩
set_option maxRecDepth 100000 in
theorem ec_177 : Cond.code yX11_shown cX11_shown 4 (some .int) ∈ GW := gt7 39 rfl rfl
set_option maxRecDepth 100000 in
theorem em_178 : EMc yX11_stateOf cX11_stateOf 11 3 (some .int) 2 0 := ⟨rfl, plainFor_of_name ((cls_ok (o := 11) (by decide)).1 (by decide)), (cls_ok (o := 11) (by decide)).2.1, (cls_ok (o := 11) (by decide)).2.2, fun q => absurd q (by decide), fun _ => ⟨gt7 71 rfl rfl, by decide +kernel⟩, fun _ => Or.inr (gt7 72 rfl rfl)⟩
set_option maxRecDepth 100000 in
theorem ec_178 : Cond.code yX11_stateOf cX11_stateOf 3 (some .int) ∈ GW := gt7 73 rfl rfl
set_option maxRecDepth 100000 in
theorem em_179 : EMc yX11_rest cX11_rest 11 3 (some .int) 2 0 := ⟨rfl, plainFor_of_name ((cls_ok (o := 11) (by decide)).1 (by decide)), (cls_ok (o := 11) (by decide)).2.1, (cls_ok (o := 11) (by decide)).2.2, fun q => absurd q (by decide), fun _ => ⟨gt7 76 rfl rfl, by decide +kernel⟩, fun _ => Or.inr (gt7 77 rfl rfl)⟩
set_option maxRecDepth 100000 in
theorem ec_179 : Cond.code yX11_rest cX11_rest 3 (some .int) ∈ GW := gt7 78 rfl rfl
set_option maxRecDepth 100000 in
theorem em_180 : EMc yX11_priceOf cX11_priceOf 11 3 (some .int) 2 0 := ⟨rfl, plainFor_of_name ((cls_ok (o := 11) (by decide)).1 (by decide)), (cls_ok (o := 11) (by decide)).2.1, (cls_ok (o := 11) (by decide)).2.2, fun q => absurd q (by decide), fun _ => ⟨gt7 81 rfl rfl, by decide +kernel⟩, fun _ => Or.inr (gt7 82 rfl rfl)⟩
set_option maxRecDepth 100000 in
theorem ec_180 : Cond.code yX11_priceOf cX11_priceOf 3 (some .int) ∈ GW := gt7 83 rfl rfl
set_option maxRecDepth 100000 in
theorem em_181 : EMc yX11_last cX11_last 11 4 (some .int) 3 0 := ⟨rfl, plainFor_of_name ((cls_ok (o := 11) (by decide)).1 (by decide)), (cls_ok (o := 11) (by decide)).2.1, (cls_ok (o := 11) (by decide)).2.2, fun q => absurd q (by decide), fun _ => ⟨gt7 67 rfl rfl, by decide +kernel⟩, fun _ => Or.inr (gt7 68 rfl rfl)⟩
set_option maxRecDepth 100000 in
theorem ec_181 : Cond.code yX11_last cX11_last 4 (some .int) ∈ GW := gt7 69 rfl rfl
set_option maxRecDepth 100000 in
theorem em_182 : EMc yX11_endOf cX11_endOf 11 3 (some .int) 2 0 := ⟨rfl, plainFor_of_name ((cls_ok (o := 11) (by decide)).1 (by decide)), (cls_ok (o := 11) (by decide)).2.1, (cls_ok (o := 11) (by decide)).2.2, fun q => absurd q (by decide), fun _ => ⟨gt6 154 rfl rfl, by decide +kernel⟩, fun _ => Or.inr (gt6 155 rfl rfl)⟩
set_option maxRecDepth 100000 in
theorem ec_182 : Cond.code yX11_endOf cX11_endOf 3 (some .int) ∈ GW := gt6 156 rfl rfl
set_option maxRecDepth 100000 in
theorem em_183 : EMc yX11_indicated cX11_indicated 11 5 (some .int) 3 0 := ⟨rfl, plainFor_of_name ((cls_ok (o := 11) (by decide)).1 (by decide)), (cls_ok (o := 11) (by decide)).2.1, (cls_ok (o := 11) (by decide)).2.2, fun q => absurd q (by decide), fun _ => ⟨gt7 45 rfl rfl, by decide +kernel⟩, fun _ => Or.inr (gt7 46 rfl rfl)⟩
set_option maxRecDepth 100000 in
theorem ec_183 : Cond.code yX11_indicated cX11_indicated 5 (some .int) ∈ GW := gt7 47 rfl rfl
set_option maxRecDepth 100000 in
theorem em_184 : EMc yX11_trades cX11_trades 11 1 (some .int) 1 0 := ⟨rfl, plainFor_of_name ((cls_ok (o := 11) (by decide)).1 (by decide)), (cls_ok (o := 11) (by decide)).2.1, (cls_ok (o := 11) (by decide)).2.2, fun q => absurd q (by decide), fun _ => ⟨gt6 115 rfl rfl, by decide +kernel⟩, fun _ => Or.inr (gt6 116 rfl rfl)⟩
set_option maxRecDepth 100000 in
theorem ec_184 : Cond.code yX11_trades cX11_trades 1 (some .int) ∈ GW := gt6 117 rfl rfl
set_option maxRecDepth 100000 in
theorem em_185 : EMc yX11_trade cX11_trade 11 4 (some .int) 3 0 := ⟨rfl, plainFor_of_name ((cls_ok (o := 11) (by decide)).1 (by decide)), (cls_ok (o := 11) (by decide)).2.1, (cls_ok (o := 11) (by decide)).2.2, fun q => absurd q (by decide), fun _ => ⟨gt6 136 rfl rfl, by decide +kernel⟩, fun _ => Or.inr (gt6 137 rfl rfl)⟩
set_option maxRecDepth 100000 in
theorem ec_185 : Cond.code yX11_trade cX11_trade 4 (some .int) ∈ GW := gt6 138 rfl rfl
set_option maxRecDepth 100000 in
theorem em_186 : EMc yX11_position cX11_position 11 3 (some .int) 3 0 := ⟨rfl, plainFor_of_name ((cls_ok (o := 11) (by decide)).1 (by decide)), (cls_ok (o := 11) (by decide)).2.1, (cls_ok (o := 11) (by decide)).2.2, fun q => absurd q (by decide), fun _ => ⟨gt7 14 rfl rfl, by decide +kernel⟩, fun _ => Or.inr (gt7 15 rfl rfl)⟩
set_option maxRecDepth 100000 in
theorem ec_186 : Cond.code yX11_position cX11_position 3 (some .int) ∈ GW := gt7 16 rfl rfl
set_option maxRecDepth 100000 in
theorem em_187 : EMc yX11_cash cX11_cash 11 2 (some .long) 2 0 := ⟨rfl, plainFor_of_name ((cls_ok (o := 11) (by decide)).1 (by decide)), (cls_ok (o := 11) (by decide)).2.1, (cls_ok (o := 11) (by decide)).2.2, fun q => absurd q (by decide), fun _ => ⟨gt7 23 rfl rfl, by decide +kernel⟩, fun _ => Or.inr (gt7 24 rfl rfl)⟩
set_option maxRecDepth 100000 in
theorem ec_187 : Cond.code yX11_cash cX11_cash 2 (some .long) ∈ GW := gt7 25 rfl rfl
set_option maxRecDepth 100000 in
theorem em_188 : EMc yX11_member cX11_member 11 3 (some .long) 3 0 := ⟨rfl, plainFor_of_name ((cls_ok (o := 11) (by decide)).1 (by decide)), (cls_ok (o := 11) (by decide)).2.1, (cls_ok (o := 11) (by decide)).2.2, fun q => absurd q (by decide), fun _ => ⟨gt6 178 rfl rfl, by decide +kernel⟩, fun _ => Or.inr (gt6 179 rfl rfl)⟩
set_option maxRecDepth 100000 in
theorem ec_188 : Cond.code yX11_member cX11_member 3 (some .long) ∈ GW := gt6 180 rfl rfl
set_option maxRecDepth 100000 in
theorem em_189 : EMc yX11_stake cX11_stake 11 1 (some .int) 1 0 := ⟨rfl, plainFor_of_name ((cls_ok (o := 11) (by decide)).1 (by decide)), (cls_ok (o := 11) (by decide)).2.1, (cls_ok (o := 11) (by decide)).2.2, fun q => absurd q (by decide), fun _ => ⟨gt7 19 rfl rfl, by decide +kernel⟩, fun _ => Or.inr (gt7 20 rfl rfl)⟩
set_option maxRecDepth 100000 in
theorem ec_189 : Cond.code yX11_stake cX11_stake 1 (some .int) ∈ GW := gt7 21 rfl rfl
set_option maxRecDepth 100000 in
theorem em_190 : EMc yX11_needPlace cX11_needPlace 11 1 (none) 1 1 := ⟨rfl, plainFor_of_name ((cls_ok (o := 11) (by decide)).1 (by decide)), (cls_ok (o := 11) (by decide)).2.1, (cls_ok (o := 11) (by decide)).2.2, fun _ => ⟨gt5 169 rfl rfl, by decide +kernel⟩, fun q => absurd q (by decide), fun q => absurd q (by decide)⟩
set_option maxRecDepth 100000 in
theorem ec_190 : Cond.code yX11_needPlace cX11_needPlace 1 (none) ∈ GW := gt5 170 rfl rfl
set_option maxRecDepth 100000 in
theorem em_191 : EMc yX11_needRange cX11_needRange 11 1 (none) 1 1 := ⟨rfl, plainFor_of_name ((cls_ok (o := 11) (by decide)).1 (by decide)), (cls_ok (o := 11) (by decide)).2.1, (cls_ok (o := 11) (by decide)).2.2, fun _ => ⟨gt6 6 rfl rfl, by decide +kernel⟩, fun q => absurd q (by decide), fun q => absurd q (by decide)⟩
set_option maxRecDepth 100000 in
theorem ec_191 : Cond.code yX11_needRange cX11_needRange 1 (none) ∈ GW := gt6 7 rfl rfl
set_option maxRecDepth 100000 in
theorem em_192 : EMc yX11_needState cX11_needState 11 1 (none) 1 1 := ⟨rfl, plainFor_of_name ((cls_ok (o := 11) (by decide)).1 (by decide)), (cls_ok (o := 11) (by decide)).2.1, (cls_ok (o := 11) (by decide)).2.2, fun _ => ⟨gt6 50 rfl rfl, by decide +kernel⟩, fun q => absurd q (by decide), fun q => absurd q (by decide)⟩
set_option maxRecDepth 100000 in
theorem ec_192 : Cond.code yX11_needState cX11_needState 1 (none) ∈ GW := gt6 51 rfl rfl
set_option maxRecDepth 100000 in
theorem em_193 : EMc yX11_isWithin cX11_isWithin 11 3 (some .boolean) 3 1 := ⟨rfl, plainFor_of_name ((cls_ok (o := 11) (by decide)).1 (by decide)), (cls_ok (o := 11) (by decide)).2.1, (cls_ok (o := 11) (by decide)).2.2, fun _ => ⟨gt5 163 rfl rfl, by decide +kernel⟩, fun q => absurd q (by decide), fun q => absurd q (by decide)⟩
set_option maxRecDepth 100000 in
theorem ec_193 : Cond.code yX11_isWithin cX11_isWithin 3 (some .boolean) ∈ GW := gt5 164 rfl rfl
set_option maxRecDepth 100000 in
theorem em_194 : EMc yX11_isTrader cX11_isTrader 11 1 (some .boolean) 1 1 := ⟨rfl, plainFor_of_name ((cls_ok (o := 11) (by decide)).1 (by decide)), (cls_ok (o := 11) (by decide)).2.1, (cls_ok (o := 11) (by decide)).2.2, fun _ => ⟨gt5 160 rfl rfl, by decide +kernel⟩, fun q => absurd q (by decide), fun q => absurd q (by decide)⟩
set_option maxRecDepth 100000 in
theorem ec_194 : Cond.code yX11_isTrader cX11_isTrader 1 (some .boolean) ∈ GW := gt5 161 rfl rfl
set_option maxRecDepth 100000 in
theorem em_195 : EMc yX11_isBook cX11_isBook 11 1 (some .boolean) 1 1 := ⟨rfl, plainFor_of_name ((cls_ok (o := 11) (by decide)).1 (by decide)), (cls_ok (o := 11) (by decide)).2.1, (cls_ok (o := 11) (by decide)).2.2, fun _ => ⟨gt5 166 rfl rfl, by decide +kernel⟩, fun q => absurd q (by decide), fun q => absurd q (by decide)⟩
set_option maxRecDepth 100000 in
theorem ec_195 : Cond.code yX11_isBook cX11_isBook 1 (some .boolean) ∈ GW := gt5 167 rfl rfl
set_option maxRecDepth 100000 in
theorem em_196 : EMc yX11_isContract cX11_isContract 11 1 (some .boolean) 1 1 := ⟨rfl, plainFor_of_name ((cls_ok (o := 11) (by decide)).1 (by decide)), (cls_ok (o := 11) (by decide)).2.1, (cls_ok (o := 11) (by decide)).2.2, fun _ => ⟨gt6 101 rfl rfl, by decide +kernel⟩, fun q => absurd q (by decide), fun q => absurd q (by decide)⟩
set_option maxRecDepth 100000 in
theorem ec_196 : Cond.code yX11_isContract cX11_isContract 1 (some .boolean) ∈ GW := gt6 102 rfl rfl
set_option maxRecDepth 100000 in
theorem em_197 : EMc yX11_isMember cX11_isMember 11 1 (some .boolean) 1 1 := ⟨rfl, plainFor_of_name ((cls_ok (o := 11) (by decide)).1 (by decide)), (cls_ok (o := 11) (by decide)).2.1, (cls_ok (o := 11) (by decide)).2.2, fun _ => ⟨gt6 182 rfl rfl, by decide +kernel⟩, fun q => absurd q (by decide), fun q => absurd q (by decide)⟩
set_option maxRecDepth 100000 in
theorem ec_197 : Cond.code yX11_isMember cX11_isMember 1 (some .boolean) ∈ GW := gt6 183 rfl rfl
set_option maxRecDepth 100000 in
theorem em_198 : EMc yX11_isQuantity cX11_isQuantity 11 1 (some .boolean) 1 1 := ⟨rfl, plainFor_of_name ((cls_ok (o := 11) (by decide)).1 (by decide)), (cls_ok (o := 11) (by decide)).2.1, (cls_ok (o := 11) (by decide)).2.2, fun _ => ⟨gt6 1 rfl rfl, by decide +kernel⟩, fun q => absurd q (by decide), fun q => absurd q (by decide)⟩
set_option maxRecDepth 100000 in
theorem ec_198 : Cond.code yX11_isQuantity cX11_isQuantity 1 (some .boolean) ∈ GW := gt6 2 rfl rfl
set_option maxRecDepth 100000 in
theorem em_199 : EMc yX11_keptDeal cX11_keptDeal 11 3 (some (.object "Openbook$Deal")) 2 0 := ⟨rfl, plainFor_of_name ((cls_ok (o := 11) (by decide)).1 (by decide)), (cls_ok (o := 11) (by decide)).2.1, (cls_ok (o := 11) (by decide)).2.2, fun q => absurd q (by decide), fun _ => ⟨gt6 128 rfl rfl, by decide +kernel⟩, fun _ => Or.inr (gp2 5 rfl)⟩
set_option maxRecDepth 100000 in
theorem ec_199 : Cond.code yX11_keptDeal cX11_keptDeal 3 (some (.object "Openbook$Deal")) ∈ GW := gt6 129 rfl rfl
set_option maxRecDepth 100000 in
theorem em_200 : EMc yX11_enter cX11_enter 11 9 (some .int) 8 0 := ⟨rfl, plainFor_of_name ((cls_ok (o := 11) (by decide)).1 (by decide)), (cls_ok (o := 11) (by decide)).2.1, (cls_ok (o := 11) (by decide)).2.2, fun q => absurd q (by decide), fun _ => ⟨gt6 70 rfl rfl, by decide +kernel⟩, fun _ => Or.inr (gp2 4 rfl)⟩
set_option maxRecDepth 100000 in
theorem ec_200 : Cond.code yX11_enter cX11_enter 9 (some .int) ∈ GW := gt6 71 rfl rfl
set_option maxRecDepth 100000 in
theorem em_201 : EMc yX11_play cX11_play 11 11 (some .int) 3 0 := ⟨rfl, plainFor_of_name ((cls_ok (o := 11) (by decide)).1 (by decide)), (cls_ok (o := 11) (by decide)).2.1, (cls_ok (o := 11) (by decide)).2.2, fun q => absurd q (by decide), fun _ => ⟨gt3 79 rfl rfl, by decide +kernel⟩, fun _ => Or.inr (gp0 0 rfl)⟩
set_option maxRecDepth 100000 in
theorem ec_201 : Cond.code yX11_play cX11_play 11 (some .int) ∈ GW := gt3 80 rfl rfl
set_option maxRecDepth 100000 in
theorem em_202 : EMc yJ9_floorDiv_b2ac5 cJ9_floorDiv_b2ac5 14 3 (some .long) 2 1 := ⟨rfl, math_ok _ (List.mem_of_getElem? (i := 0) rfl), (cls_ok (o := 14) (by decide)).2.1, (cls_ok (o := 14) (by decide)).2.2, fun _ => ⟨gt5 11 rfl rfl, by decide +kernel⟩, fun q => absurd q (by decide), fun q => absurd q (by decide)⟩
set_option maxRecDepth 100000 in
theorem ec_202 : Cond.code yJ9_floorDiv_b2ac5 cJ9_floorDiv_b2ac5 3 (some .long) ∈ GW := gt5 12 rfl rfl
set_option maxRecDepth 100000 in
theorem em_203 : EMc yJ9_floorDiv_f86c9 cJ9_floorDiv_f86c9 14 6 (some .long) 2 1 := ⟨rfl, math_ok _ (List.mem_of_getElem? (i := 1) rfl), (cls_ok (o := 14) (by decide)).2.1, (cls_ok (o := 14) (by decide)).2.2, fun _ => ⟨gt4 199 rfl rfl, by decide +kernel⟩, fun q => absurd q (by decide), fun q => absurd q (by decide)⟩
set_option maxRecDepth 100000 in
theorem ec_203 : Cond.code yJ9_floorDiv_f86c9 cJ9_floorDiv_f86c9 6 (some .long) ∈ GW := gt4 200 rfl rfl
set_option maxRecDepth 100000 in
theorem em_204 : EMc yJ9_floorMod_7cf53 cJ9_floorMod_7cf53 14 3 (some .int) 2 1 := ⟨rfl, math_ok _ (List.mem_of_getElem? (i := 2) rfl), (cls_ok (o := 14) (by decide)).2.1, (cls_ok (o := 14) (by decide)).2.2, fun _ => ⟨gt4 215 rfl rfl, by decide +kernel⟩, fun q => absurd q (by decide), fun q => absurd q (by decide)⟩
set_option maxRecDepth 100000 in
theorem ec_204 : Cond.code yJ9_floorMod_7cf53 cJ9_floorMod_7cf53 3 (some .int) ∈ GW := gt4 216 rfl rfl
set_option maxRecDepth 100000 in
theorem em_205 : EMc yJ9_abs_0f7a4 cJ9_abs_0f7a4 14 1 (some .int) 1 1 := ⟨rfl, math_ok _ (List.mem_of_getElem? (i := 3) rfl), (cls_ok (o := 14) (by decide)).2.1, (cls_ok (o := 14) (by decide)).2.2, fun _ => ⟨gt3 100 rfl rfl, by decide +kernel⟩, fun q => absurd q (by decide), fun q => absurd q (by decide)⟩
set_option maxRecDepth 100000 in
theorem ec_205 : Cond.code yJ9_abs_0f7a4 cJ9_abs_0f7a4 1 (some .int) ∈ GW := gt3 101 rfl rfl
set_option maxRecDepth 100000 in
theorem em_206 : EMc yJ9_abs_067f4 cJ9_abs_067f4 14 2 (some .long) 1 1 := ⟨rfl, math_ok _ (List.mem_of_getElem? (i := 4) rfl), (cls_ok (o := 14) (by decide)).2.1, (cls_ok (o := 14) (by decide)).2.2, fun _ => ⟨gt5 56 rfl rfl, by decide +kernel⟩, fun q => absurd q (by decide), fun q => absurd q (by decide)⟩
set_option maxRecDepth 100000 in
theorem ec_206 : Cond.code yJ9_abs_067f4 cJ9_abs_067f4 2 (some .long) ∈ GW := gt5 57 rfl rfl
set_option maxRecDepth 100000 in
theorem em_207 : EMc yJ9_max_7cf53 cJ9_max_7cf53 14 2 (some .int) 2 1 := ⟨rfl, math_ok _ (List.mem_of_getElem? (i := 5) rfl), (cls_ok (o := 14) (by decide)).2.1, (cls_ok (o := 14) (by decide)).2.2, fun _ => ⟨gt4 94 rfl rfl, by decide +kernel⟩, fun q => absurd q (by decide), fun q => absurd q (by decide)⟩
set_option maxRecDepth 100000 in
theorem ec_207 : Cond.code yJ9_max_7cf53 cJ9_max_7cf53 2 (some .int) ∈ GW := gt4 95 rfl rfl
set_option maxRecDepth 100000 in
theorem em_208 : EMc yJ9_max_f86c9 cJ9_max_f86c9 14 4 (some .long) 2 1 := ⟨rfl, math_ok _ (List.mem_of_getElem? (i := 6) rfl), (cls_ok (o := 14) (by decide)).2.1, (cls_ok (o := 14) (by decide)).2.2, fun _ => ⟨gt5 52 rfl rfl, by decide +kernel⟩, fun q => absurd q (by decide), fun q => absurd q (by decide)⟩
set_option maxRecDepth 100000 in
theorem ec_208 : Cond.code yJ9_max_f86c9 cJ9_max_f86c9 4 (some .long) ∈ GW := gt5 53 rfl rfl
set_option maxRecDepth 100000 in
theorem em_209 : EMc yJ9_min_7cf53 cJ9_min_7cf53 14 2 (some .int) 2 1 := ⟨rfl, math_ok _ (List.mem_of_getElem? (i := 7) rfl), (cls_ok (o := 14) (by decide)).2.1, (cls_ok (o := 14) (by decide)).2.2, fun _ => ⟨gt3 132 rfl rfl, by decide +kernel⟩, fun q => absurd q (by decide), fun q => absurd q (by decide)⟩
set_option maxRecDepth 100000 in
theorem ec_209 : Cond.code yJ9_min_7cf53 cJ9_min_7cf53 2 (some .int) ∈ GW := gt3 133 rfl rfl
set_option maxRecDepth 100000 in
theorem em_210 : EMc yJ9_min_f86c9 cJ9_min_f86c9 14 4 (some .long) 2 1 := ⟨rfl, math_ok _ (List.mem_of_getElem? (i := 8) rfl), (cls_ok (o := 14) (by decide)).2.1, (cls_ok (o := 14) (by decide)).2.2, fun _ => ⟨gt5 117 rfl rfl, by decide +kernel⟩, fun q => absurd q (by decide), fun q => absurd q (by decide)⟩
set_option maxRecDepth 100000 in
theorem ec_210 : Cond.code yJ9_min_f86c9 cJ9_min_f86c9 4 (some .long) ∈ GW := gt5 118 rfl rfl
set_option maxRecDepth 100000 in
theorem em_211 : EMc yL_drawn cL_drawn 13 4 (some .int) 3 1 := ⟨rfl, plainFor_of_name ((cls_ok (o := 13) (by decide)).1 (by decide)), (cls_ok (o := 13) (by decide)).2.1, (cls_ok (o := 13) (by decide)).2.2, fun _ => ⟨gt5 142 rfl rfl, by decide +kernel⟩, fun q => absurd q (by decide), fun q => absurd q (by decide)⟩
set_option maxRecDepth 100000 in
theorem ec_211 : Cond.code yL_drawn cL_drawn 4 (some .int) ∈ GW := gt5 143 rfl rfl
set_option maxRecDepth 100000 in
theorem em_212 : EMc yL_isNoLimit cL_isNoLimit 13 6 (some .boolean) 5 1 := ⟨rfl, plainFor_of_name ((cls_ok (o := 13) (by decide)).1 (by decide)), (cls_ok (o := 13) (by decide)).2.1, (cls_ok (o := 13) (by decide)).2.2, fun _ => ⟨gt5 152 rfl rfl, by decide +kernel⟩, fun q => absurd q (by decide), fun q => absurd q (by decide)⟩
set_option maxRecDepth 100000 in
theorem ec_212 : Cond.codeWith yL_isNoLimit cL_isNoLimit 6 (some .boolean) [(0, 12, 15, 14)] ∈ GW := gt5 153 rfl rfl
set_option maxRecDepth 100000 in
theorem em_213 : EMc yL_isNoQuote cL_isNoQuote 13 5 (some .boolean) 4 1 := ⟨rfl, plainFor_of_name ((cls_ok (o := 13) (by decide)).1 (by decide)), (cls_ok (o := 13) (by decide)).2.1, (cls_ok (o := 13) (by decide)).2.2, fun _ => ⟨gt6 104 rfl rfl, by decide +kernel⟩, fun q => absurd q (by decide), fun q => absurd q (by decide)⟩
set_option maxRecDepth 100000 in
theorem ec_213 : Cond.codeWith yL_isNoQuote cL_isNoQuote 5 (some .boolean) [(0, 12, 15, 14)] ∈ GW := gt6 105 rfl rfl
set_option maxRecDepth 100000 in
theorem em_214 : EMc yL_isNoAuction cL_isNoAuction 13 3 (some .boolean) 2 1 := ⟨rfl, plainFor_of_name ((cls_ok (o := 13) (by decide)).1 (by decide)), (cls_ok (o := 13) (by decide)).2.1, (cls_ok (o := 13) (by decide)).2.2, fun _ => ⟨gt6 147 rfl rfl, by decide +kernel⟩, fun q => absurd q (by decide), fun q => absurd q (by decide)⟩
set_option maxRecDepth 100000 in
theorem ec_214 : Cond.codeWith yL_isNoAuction cL_isNoAuction 3 (some .boolean) [(0, 9, 12, 14)] ∈ GW := gt6 148 rfl rfl
set_option maxRecDepth 100000 in
theorem em_215 : EMc yL_isNoEnd cL_isNoEnd 13 2 (some .boolean) 1 1 := ⟨rfl, plainFor_of_name ((cls_ok (o := 13) (by decide)).1 (by decide)), (cls_ok (o := 13) (by decide)).2.1, (cls_ok (o := 13) (by decide)).2.2, fun _ => ⟨gt6 236 rfl rfl, by decide +kernel⟩, fun q => absurd q (by decide), fun q => absurd q (by decide)⟩
set_option maxRecDepth 100000 in
theorem ec_215 : Cond.codeWith yL_isNoEnd cL_isNoEnd 2 (some .boolean) [(0, 5, 8, 14)] ∈ GW := gt6 237 rfl rfl
set_option maxRecDepth 100000 in
theorem em_216 : EMc yL_isNoClosing cL_isNoClosing 13 2 (some .boolean) 1 1 := ⟨rfl, plainFor_of_name ((cls_ok (o := 13) (by decide)).1 (by decide)), (cls_ok (o := 13) (by decide)).2.1, (cls_ok (o := 13) (by decide)).2.2, fun _ => ⟨gt6 216 rfl rfl, by decide +kernel⟩, fun q => absurd q (by decide), fun q => absurd q (by decide)⟩
set_option maxRecDepth 100000 in
theorem ec_216 : Cond.codeWith yL_isNoClosing cL_isNoClosing 2 (some .boolean) [(0, 5, 8, 14)] ∈ GW := gt6 217 rfl rfl
set_option maxRecDepth 100000 in
theorem em_217 : EMc yL_isNoBid cL_isNoBid 13 4 (some .boolean) 3 1 := ⟨rfl, plainFor_of_name ((cls_ok (o := 13) (by decide)).1 (by decide)), (cls_ok (o := 13) (by decide)).2.1, (cls_ok (o := 13) (by decide)).2.2, fun _ => ⟨gt6 208 rfl rfl, by decide +kernel⟩, fun q => absurd q (by decide), fun q => absurd q (by decide)⟩
set_option maxRecDepth 100000 in
theorem ec_217 : Cond.codeWith yL_isNoBid cL_isNoBid 4 (some .boolean) [(0, 7, 10, 14)] ∈ GW := gt6 209 rfl rfl
set_option maxRecDepth 100000 in
theorem em_218 : EMc yL_isNoFail cL_isNoFail 13 3 (some .boolean) 2 1 := ⟨rfl, plainFor_of_name ((cls_ok (o := 13) (by decide)).1 (by decide)), (cls_ok (o := 13) (by decide)).2.1, (cls_ok (o := 13) (by decide)).2.2, fun _ => ⟨gt6 197 rfl rfl, by decide +kernel⟩, fun q => absurd q (by decide), fun q => absurd q (by decide)⟩
set_option maxRecDepth 100000 in
theorem ec_218 : Cond.codeWith yL_isNoFail cL_isNoFail 3 (some .boolean) [(0, 6, 9, 14)] ∈ GW := gt6 198 rfl rfl
set_option maxRecDepth 100000 in
theorem em_219 : EMc yL_isNoStop cL_isNoStop 13 6 (some .boolean) 5 1 := ⟨rfl, plainFor_of_name ((cls_ok (o := 13) (by decide)).1 (by decide)), (cls_ok (o := 13) (by decide)).2.1, (cls_ok (o := 13) (by decide)).2.2, fun _ => ⟨gt6 94 rfl rfl, by decide +kernel⟩, fun q => absurd q (by decide), fun q => absurd q (by decide)⟩
set_option maxRecDepth 100000 in
theorem ec_219 : Cond.codeWith yL_isNoStop cL_isNoStop 6 (some .boolean) [(0, 11, 14, 14)] ∈ GW := gt6 95 rfl rfl
set_option maxRecDepth 100000 in
theorem em_220 : EMc yL_isNoMarket cL_isNoMarket 13 5 (some .boolean) 4 1 := ⟨rfl, plainFor_of_name ((cls_ok (o := 13) (by decide)).1 (by decide)), (cls_ok (o := 13) (by decide)).2.1, (cls_ok (o := 13) (by decide)).2.2, fun _ => ⟨gt6 73 rfl rfl, by decide +kernel⟩, fun q => absurd q (by decide), fun q => absurd q (by decide)⟩
set_option maxRecDepth 100000 in
theorem ec_220 : Cond.codeWith yL_isNoMarket cL_isNoMarket 5 (some .boolean) [(0, 8, 11, 14)] ∈ GW := gt6 74 rfl rfl
set_option maxRecDepth 100000 in
theorem em_221 : EMc yL_isNoIceberg cL_isNoIceberg 13 6 (some .boolean) 5 1 := ⟨rfl, plainFor_of_name ((cls_ok (o := 13) (by decide)).1 (by decide)), (cls_ok (o := 13) (by decide)).2.1, (cls_ok (o := 13) (by decide)).2.2, fun _ => ⟨gt6 80 rfl rfl, by decide +kernel⟩, fun q => absurd q (by decide), fun q => absurd q (by decide)⟩
set_option maxRecDepth 100000 in
theorem ec_221 : Cond.codeWith yL_isNoIceberg cL_isNoIceberg 6 (some .boolean) [(0, 11, 14, 14)] ∈ GW := gt6 81 rfl rfl
set_option maxRecDepth 100000 in
theorem em_222 : EMc yL_isNoPeg cL_isNoPeg 13 6 (some .boolean) 5 1 := ⟨rfl, plainFor_of_name ((cls_ok (o := 13) (by decide)).1 (by decide)), (cls_ok (o := 13) (by decide)).2.1, (cls_ok (o := 13) (by decide)).2.2, fun _ => ⟨gt6 87 rfl rfl, by decide +kernel⟩, fun q => absurd q (by decide), fun q => absurd q (by decide)⟩
set_option maxRecDepth 100000 in
theorem ec_222 : Cond.codeWith yL_isNoPeg cL_isNoPeg 6 (some .boolean) [(0, 11, 14, 14)] ∈ GW := gt6 88 rfl rfl
set_option maxRecDepth 100000 in
theorem em_223 : EMc yL_isNoBust cL_isNoBust 13 3 (some .boolean) 2 1 := ⟨rfl, plainFor_of_name ((cls_ok (o := 13) (by decide)).1 (by decide)), (cls_ok (o := 13) (by decide)).2.1, (cls_ok (o := 13) (by decide)).2.2, fun _ => ⟨gt6 144 rfl rfl, by decide +kernel⟩, fun q => absurd q (by decide), fun q => absurd q (by decide)⟩
set_option maxRecDepth 100000 in
theorem ec_223 : Cond.codeWith yL_isNoBust cL_isNoBust 3 (some .boolean) [(0, 6, 9, 14)] ∈ GW := gt6 145 rfl rfl
set_option maxRecDepth 100000 in
theorem em_224 : EMc yL_isLostBust cL_isLostBust 13 3 (some .boolean) 2 1 := ⟨rfl, plainFor_of_name ((cls_ok (o := 13) (by decide)).1 (by decide)), (cls_ok (o := 13) (by decide)).2.1, (cls_ok (o := 13) (by decide)).2.2, fun _ => ⟨gt6 119 rfl rfl, by decide +kernel⟩, fun q => absurd q (by decide), fun q => absurd q (by decide)⟩
set_option maxRecDepth 100000 in
theorem ec_224 : Cond.codeWith yL_isLostBust cL_isLostBust 3 (some .boolean) [(0, 6, 9, 55)] ∈ GW := gt6 120 rfl rfl
set_option maxRecDepth 100000 in
theorem em_225 : EMc yL_isLostTrade cL_isLostTrade 13 3 (some .boolean) 2 1 := ⟨rfl, plainFor_of_name ((cls_ok (o := 13) (by decide)).1 (by decide)), (cls_ok (o := 13) (by decide)).2.1, (cls_ok (o := 13) (by decide)).2.2, fun _ => ⟨gt6 133 rfl rfl, by decide +kernel⟩, fun q => absurd q (by decide), fun q => absurd q (by decide)⟩
set_option maxRecDepth 100000 in
theorem ec_225 : Cond.codeWith yL_isLostTrade cL_isLostTrade 3 (some .boolean) [(0, 7, 10, 55)] ∈ GW := gt6 134 rfl rfl
set_option maxRecDepth 100000 in
theorem em_226 : EMc yL_isNoConvert cL_isNoConvert 13 5 (some .boolean) 4 1 := ⟨rfl, plainFor_of_name ((cls_ok (o := 13) (by decide)).1 (by decide)), (cls_ok (o := 13) (by decide)).2.1, (cls_ok (o := 13) (by decide)).2.2, fun _ => ⟨gt6 223 rfl rfl, by decide +kernel⟩, fun q => absurd q (by decide), fun q => absurd q (by decide)⟩
set_option maxRecDepth 100000 in
theorem ec_226 : Cond.codeWith yL_isNoConvert cL_isNoConvert 5 (some .boolean) [(0, 8, 11, 14)] ∈ GW := gt6 224 rfl rfl
set_option maxRecDepth 100000 in
theorem em_227 : EMc yL_range cL_range 13 1 (some .int) 1 1 := ⟨rfl, plainFor_of_name ((cls_ok (o := 13) (by decide)).1 (by decide)), (cls_ok (o := 13) (by decide)).2.1, (cls_ok (o := 13) (by decide)).2.2, fun _ => ⟨gt5 149 rfl rfl, by decide +kernel⟩, fun q => absurd q (by decide), fun q => absurd q (by decide)⟩
set_option maxRecDepth 100000 in
theorem ec_227 : Cond.code yL_range cL_range 1 (some .int) ∈ GW := gt5 150 rfl rfl
set_option maxRecDepth 100000 in
theorem em_228 : EMc yL_isOrdered cL_isOrdered 13 9 (some .boolean) 2 1 := ⟨rfl, plainFor_of_name ((cls_ok (o := 13) (by decide)).1 (by decide)), (cls_ok (o := 13) (by decide)).2.1, (cls_ok (o := 13) (by decide)).2.2, fun _ => ⟨gt5 146 rfl rfl, by decide +kernel⟩, fun q => absurd q (by decide), fun q => absurd q (by decide)⟩
set_option maxRecDepth 100000 in
theorem ec_228 : Cond.code yL_isOrdered cL_isOrdered 9 (some .boolean) ∈ GW := gt5 147 rfl rfl
set_option maxRecDepth 100000 in
theorem em_229 : EMc yL_isLater cL_isLater 13 6 (some .boolean) 3 1 := ⟨rfl, plainFor_of_name ((cls_ok (o := 13) (by decide)).1 (by decide)), (cls_ok (o := 13) (by decide)).2.1, (cls_ok (o := 13) (by decide)).2.2, fun _ => ⟨gt6 112 rfl rfl, by decide +kernel⟩, fun q => absurd q (by decide), fun q => absurd q (by decide)⟩
set_option maxRecDepth 100000 in
theorem ec_229 : Cond.code yL_isLater cL_isLater 6 (some .boolean) ∈ GW := gt6 113 rfl rfl
set_option maxRecDepth 100000 in
theorem em_230 : EMc yL_isBalanced cL_isBalanced 13 6 (some .boolean) 2 1 := ⟨rfl, plainFor_of_name ((cls_ok (o := 13) (by decide)).1 (by decide)), (cls_ok (o := 13) (by decide)).2.1, (cls_ok (o := 13) (by decide)).2.2, fun _ => ⟨gt7 11 rfl rfl, by decide +kernel⟩, fun q => absurd q (by decide), fun q => absurd q (by decide)⟩
set_option maxRecDepth 100000 in
theorem ec_230 : Cond.code yL_isBalanced cL_isBalanced 6 (some .boolean) ∈ GW := gt7 12 rfl rfl
set_option maxRecDepth 100000 in
theorem em_231 : EMc yL_areOrders cL_areOrders 13 6 (some .boolean) 1 1 := ⟨rfl, plainFor_of_name ((cls_ok (o := 13) (by decide)).1 (by decide)), (cls_ok (o := 13) (by decide)).2.1, (cls_ok (o := 13) (by decide)).2.2, fun _ => ⟨gt7 28 rfl rfl, by decide +kernel⟩, fun q => absurd q (by decide), fun q => absurd q (by decide)⟩
set_option maxRecDepth 100000 in
theorem ec_231 : Cond.code yL_areOrders cL_areOrders 6 (some .boolean) ∈ GW := gt7 29 rfl rfl
set_option maxRecDepth 100000 in
theorem em_232 : EMc yL_isByLog cL_isByLog 13 2 (some .boolean) 2 1 := ⟨rfl, plainFor_of_name ((cls_ok (o := 13) (by decide)).1 (by decide)), (cls_ok (o := 13) (by decide)).2.1, (cls_ok (o := 13) (by decide)).2.2, fun _ => ⟨gt7 51 rfl rfl, by decide +kernel⟩, fun q => absurd q (by decide), fun q => absurd q (by decide)⟩
set_option maxRecDepth 100000 in
theorem ec_232 : Cond.code yL_isByLog cL_isByLog 2 (some .boolean) ∈ GW := gt7 52 rfl rfl
set_option maxRecDepth 100000 in
theorem em_233 : EMc yL_sum cL_sum 13 5 (some .long) 1 1 := ⟨rfl, plainFor_of_name ((cls_ok (o := 13) (by decide)).1 (by decide)), (cls_ok (o := 13) (by decide)).2.1, (cls_ok (o := 13) (by decide)).2.2, fun _ => ⟨gt7 62 rfl rfl, by decide +kernel⟩, fun q => absurd q (by decide), fun q => absurd q (by decide)⟩
set_option maxRecDepth 100000 in
theorem ec_233 : Cond.code yL_sum cL_sum 5 (some .long) ∈ GW := gt7 63 rfl rfl
set_option maxRecDepth 100000 in
theorem ml_13198 : Cond.methodLink RL 198 yX11_init ∈ GW := gt1 22 rfl rfl
set_option maxRecDepth 100000 in
theorem ml_11001 : Cond.methodLink RX11 1 objectInit ∈ GW := gt1 25 rfl rfl
set_option maxRecDepth 100000 in
theorem ml_11009 : Cond.methodLink RX11 9 yX5_init ∈ GW := gt1 30 rfl rfl
set_option maxRecDepth 100000 in
theorem ml_5003 : Cond.methodLink RX5 3 objectInit ∈ GW := gt1 33 rfl rfl
set_option maxRecDepth 100000 in
theorem ml_5011 : Cond.methodLink RX5 11 yX1_init ∈ GW := gt1 37 rfl rfl
set_option maxRecDepth 100000 in
theorem ml_1003 : Cond.methodLink RX1 3 objectInit ∈ GW := gt1 40 rfl rfl
set_option maxRecDepth 100000 in
theorem ml_5016 : Cond.methodLink RX5 16 yX7_init ∈ GW := gt1 121 rfl rfl
set_option maxRecDepth 100000 in
theorem ml_7003 : Cond.methodLink RX7 3 objectInit ∈ GW := gt1 124 rfl rfl
set_option maxRecDepth 100000 in
theorem ml_7023 : Cond.methodLink RX7 23 yX0_init ∈ GW := gt1 130 rfl rfl
set_option maxRecDepth 100000 in
theorem ml_3 : Cond.methodLink RX0 3 objectInit ∈ GW := gt1 133 rfl rfl
set_option maxRecDepth 100000 in
theorem ml_7026 : Cond.methodLink RX7 26 yX4_init ∈ GW := gt1 179 rfl rfl
set_option maxRecDepth 100000 in
theorem ml_4001 : Cond.methodLink RX4 1 objectInit ∈ GW := gt1 182 rfl rfl
set_option maxRecDepth 100000 in
theorem ml_5027 : Cond.methodLink RX5 27 yX7_accountAt ∈ GW := gt1 227 rfl rfl
set_option maxRecDepth 100000 in
theorem ml_5031 : Cond.methodLink RX5 31 yX6_init ∈ GW := gt1 231 rfl rfl
set_option maxRecDepth 100000 in
theorem ml_6003 : Cond.methodLink RX6 3 objectInit ∈ GW := gt1 234 rfl rfl
set_option maxRecDepth 100000 in
theorem ml_6021 : Cond.methodLink RX6 21 yX10_init ∈ GW := gt1 238 rfl rfl
set_option maxRecDepth 100000 in
theorem ml_10003 : Cond.methodLink RX10 3 objectInit ∈ GW := gt2 1 rfl rfl
set_option maxRecDepth 100000 in
theorem ml_5040 : Cond.methodLink RX5 40 yX8_init ∈ GW := gt2 120 rfl rfl
set_option maxRecDepth 100000 in
theorem ml_8003 : Cond.methodLink RX8 3 objectInit ∈ GW := gt2 123 rfl rfl
set_option maxRecDepth 100000 in
theorem ml_5049 : Cond.methodLink RX5 49 yX3_init ∈ GW := gt2 140 rfl rfl
set_option maxRecDepth 100000 in
theorem ml_3001 : Cond.methodLink RX3 1 objectInit ∈ GW := gt2 143 rfl rfl
set_option maxRecDepth 100000 in
theorem ml_5056 : Cond.methodLink RX5 56 yX2_init ∈ GW := gt2 153 rfl rfl
set_option maxRecDepth 100000 in
theorem ml_2003 : Cond.methodLink RX2 3 objectInit ∈ GW := gt2 156 rfl rfl
set_option maxRecDepth 100000 in
theorem ml_9001 : Cond.methodLink RX9 1 objectInit ∈ GW := gt2 165 rfl rfl
set_option maxRecDepth 100000 in
theorem ml_5061 : Cond.methodLink RX5 61 yX5_restore ∈ GW := gt2 232 rfl rfl
set_option maxRecDepth 100000 in
theorem ml_5064 : Cond.methodLink RX5 64 yX6_restore ∈ GW := gt2 236 rfl rfl
set_option maxRecDepth 100000 in
theorem ml_6024 : Cond.methodLink RX6 24 yX1_restore ∈ GW := gt3 0 rfl rfl
set_option maxRecDepth 100000 in
theorem ml_1022 : Cond.methodLink RX1 22 yX1_isSpread ∈ GW := gt3 4 rfl rfl
set_option maxRecDepth 100000 in
theorem ml_5065 : Cond.methodLink RX5 65 yX7_restore ∈ GW := gt3 8 rfl rfl
set_option maxRecDepth 100000 in
theorem ml_7029 : Cond.methodLink RX7 29 yX0_restore ∈ GW := gt3 12 rfl rfl
set_option maxRecDepth 100000 in
theorem ml_5066 : Cond.methodLink RX5 66 yX2_restore ∈ GW := gt3 16 rfl rfl
set_option maxRecDepth 100000 in
theorem ml_2031 : Cond.methodLink RX2 31 yX9_restore ∈ GW := gt3 20 rfl rfl
set_option maxRecDepth 100000 in
theorem ml_9023 : Cond.methodLink RX9 23 yX9_forgetBid ∈ GW := gt3 24 rfl rfl
set_option maxRecDepth 100000 in
theorem ml_13225 : Cond.methodLink RL 225 yX11_keep ∈ GW := gt3 68 rfl rfl
set_option maxRecDepth 100000 in
theorem ml_13229 : Cond.methodLink RL 229 yX11_failOver ∈ GW := gt3 72 rfl rfl
set_option maxRecDepth 100000 in
theorem ml_11193 : Cond.methodLink RX11 193 yX5_restore ∈ GW := gt3 76 rfl rfl
set_option maxRecDepth 100000 in
theorem ml_11080 : Cond.methodLink RX11 80 yX11_play ∈ GW := gt3 77 rfl rfl
set_option maxRecDepth 100000 in
theorem ml_11274 : Cond.methodLink RX11 274 yX5_tellLimit ∈ GW := gt3 81 rfl rfl
set_option maxRecDepth 100000 in
theorem ml_5087 : Cond.methodLink RX5 87 yX6_bookAt ∈ GW := gt3 86 rfl rfl
set_option maxRecDepth 100000 in
theorem ml_5099 : Cond.methodLink RX5 99 yX6_draw ∈ GW := gt3 90 rfl rfl
set_option maxRecDepth 100000 in
theorem ml_6048 : Cond.methodLink RX6 48 yX10_begin ∈ GW := gt3 94 rfl rfl
set_option maxRecDepth 100000 in
theorem ml_10043 : Cond.methodLink RX10 43 yJ9_abs_0f7a4 ∈ GW := gt3 99 rfl rfl
set_option maxRecDepth 100000 in
theorem ml_5103 : Cond.methodLink RX5 103 yX8_reachable ∈ GW := gt3 102 rfl rfl
set_option maxRecDepth 100000 in
theorem ml_8042 : Cond.methodLink RX8 42 yX10_standsIn ∈ GW := gt3 106 rfl rfl
set_option maxRecDepth 100000 in
theorem ml_8059 : Cond.methodLink RX8 59 yX10_allows ∈ GW := gt3 110 rfl rfl
set_option maxRecDepth 100000 in
theorem ml_8063 : Cond.methodLink RX8 63 yX1_isBeyondBand ∈ GW := gt3 114 rfl rfl
set_option maxRecDepth 100000 in
theorem ml_1057 : Cond.methodLink RX1 57 yJ9_abs_0f7a4 ∈ GW := gt3 118 rfl rfl
set_option maxRecDepth 100000 in
theorem ml_5112 : Cond.methodLink RX5 112 yX5_place ∈ GW := gt3 119 rfl rfl
set_option maxRecDepth 100000 in
theorem ml_5151 : Cond.methodLink RX5 151 yX6_stand ∈ GW := gt3 123 rfl rfl
set_option maxRecDepth 100000 in
theorem ml_6058 : Cond.methodLink RX6 58 yX10_showable ∈ GW := gt3 127 rfl rfl
set_option maxRecDepth 100000 in
theorem ml_10087 : Cond.methodLink RX10 87 yJ9_min_7cf53 ∈ GW := gt3 131 rfl rfl
set_option maxRecDepth 100000 in
theorem ml_6065 : Cond.methodLink RX6 65 yX6_nextTurn ∈ GW := gt3 134 rfl rfl
set_option maxRecDepth 100000 in
theorem ml_5154 : Cond.methodLink RX5 154 yX8_match ∈ GW := gt3 138 rfl rfl
set_option maxRecDepth 100000 in
theorem ml_8075 : Cond.methodLink RX8 75 yX6_bestPrice ∈ GW := gt3 143 rfl rfl
set_option maxRecDepth 100000 in
theorem ml_6072 : Cond.methodLink RX6 72 yX10_standsIn ∈ GW := gt3 148 rfl rfl
set_option maxRecDepth 100000 in
theorem ml_6079 : Cond.methodLink RX6 79 yX10_isBetter ∈ GW := gt3 149 rfl rfl
set_option maxRecDepth 100000 in
theorem ml_8080 : Cond.methodLink RX8 80 yX6_beginAuction ∈ GW := gt3 154 rfl rfl
set_option maxRecDepth 100000 in
theorem ml_8084 : Cond.methodLink RX8 84 yX8_gather ∈ GW := gt3 158 rfl rfl
set_option maxRecDepth 100000 in
theorem ml_8091 : Cond.methodLink RX8 91 yX8_meetsOwn ∈ GW := gt3 162 rfl rfl
set_option maxRecDepth 100000 in
theorem ml_8095 : Cond.methodLink RX8 95 yX8_share ∈ GW := gt3 166 rfl rfl
set_option maxRecDepth 100000 in
theorem ml_8128 : Cond.methodLink RX8 128 yJ9_min_7cf53 ∈ GW := gt3 170 rfl rfl
set_option maxRecDepth 100000 in
theorem ml_8137 : Cond.methodLink RX8 137 yX8_giveTop ∈ GW := gt3 171 rfl rfl
set_option maxRecDepth 100000 in
theorem ml_8141 : Cond.methodLink RX8 141 yX8_giveShares ∈ GW := gt3 175 rfl rfl
set_option maxRecDepth 100000 in
theorem ml_8099 : Cond.methodLink RX8 99 yX8_strike ∈ GW := gt3 179 rfl rfl
set_option maxRecDepth 100000 in
theorem ml_8145 : Cond.methodLink RX8 145 yX7_record ∈ GW := gt3 183 rfl rfl
set_option maxRecDepth 100000 in
theorem ml_7040 : Cond.methodLink RX7 40 yX4_fill ∈ GW := gt3 187 rfl rfl
set_option maxRecDepth 100000 in
theorem ml_7049 : Cond.methodLink RX7 49 yX0_take ∈ GW := gt3 191 rfl rfl
set_option maxRecDepth 100000 in
theorem ml_8151 : Cond.methodLink RX8 151 yX10_fall ∈ GW := gt3 195 rfl rfl
set_option maxRecDepth 100000 in
theorem ml_8155 : Cond.methodLink RX8 155 yX6_guard ∈ GW := gt3 199 rfl rfl
set_option maxRecDepth 100000 in
theorem ml_8103 : Cond.methodLink RX8 103 yX6_showAnew ∈ GW := gt3 203 rfl rfl
set_option maxRecDepth 100000 in
theorem ml_8107 : Cond.methodLink RX8 107 yX8_settle ∈ GW := gt3 207 rfl rfl
set_option maxRecDepth 100000 in
theorem ml_8116 : Cond.methodLink RX8 116 yX6_stand ∈ GW := gt3 211 rfl rfl
set_option maxRecDepth 100000 in
theorem ml_11278 : Cond.methodLink RX11 278 yX5_tellMarket ∈ GW := gt3 212 rfl rfl
set_option maxRecDepth 100000 in
theorem ml_11282 : Cond.methodLink RX11 282 yX5_tellIceberg ∈ GW := gt3 216 rfl rfl
set_option maxRecDepth 100000 in
theorem ml_11286 : Cond.methodLink RX11 286 yX5_tellPeg ∈ GW := gt3 220 rfl rfl
set_option maxRecDepth 100000 in
theorem ml_11289 : Cond.methodLink RX11 289 yX5_tellStop ∈ GW := gt3 224 rfl rfl
set_option maxRecDepth 100000 in
theorem ml_11292 : Cond.methodLink RX11 292 yX5_tellQuote ∈ GW := gt3 228 rfl rfl
set_option maxRecDepth 100000 in
theorem ml_5131 : Cond.methodLink RX5 131 yX6_withdrawQuote ∈ GW := gt3 232 rfl rfl
set_option maxRecDepth 100000 in
theorem ml_11295 : Cond.methodLink RX11 295 yX6_withdraw ∈ GW := gt3 236 rfl rfl
set_option maxRecDepth 100000 in
theorem ml_6126 : Cond.methodLink RX6 126 yX6_find ∈ GW := gt4 0 rfl rfl
set_option maxRecDepth 100000 in
theorem ml_11038 : Cond.methodLink RX11 38 yX6_bookAt ∈ GW := gt4 4 rfl rfl
set_option maxRecDepth 100000 in
theorem ml_11298 : Cond.methodLink RX11 298 yX1_changeRule ∈ GW := gt4 5 rfl rfl
set_option maxRecDepth 100000 in
theorem ml_11301 : Cond.methodLink RX11 301 yX1_changeBand ∈ GW := gt4 9 rfl rfl
set_option maxRecDepth 100000 in
theorem ml_11150 : Cond.methodLink RX11 150 yX7_accountAt ∈ GW := gt4 13 rfl rfl
set_option maxRecDepth 100000 in
theorem ml_11304 : Cond.methodLink RX11 304 yX0_changeProtection ∈ GW := gt4 14 rfl rfl
set_option maxRecDepth 100000 in
theorem ml_11307 : Cond.methodLink RX11 307 yX0_changeLimit ∈ GW := gt4 18 rfl rfl
set_option maxRecDepth 100000 in
theorem ml_50 : Cond.methodLink RX0 50 yX0_limitOf ∈ GW := gt4 22 rfl rfl
set_option maxRecDepth 100000 in
theorem ml_11311 : Cond.methodLink RX11 311 yX6_beginAuction ∈ GW := gt4 26 rfl rfl
set_option maxRecDepth 100000 in
theorem ml_11315 : Cond.methodLink RX11 315 yX5_letPass ∈ GW := gt4 27 rfl rfl
set_option maxRecDepth 100000 in
theorem ml_5160 : Cond.methodLink RX5 160 yX6_countQuotes ∈ GW := gt4 31 rfl rfl
set_option maxRecDepth 100000 in
theorem ml_6157 : Cond.methodLink RX6 157 yX6_hasOtherSide ∈ GW := gt4 35 rfl rfl
set_option maxRecDepth 100000 in
theorem ml_5170 : Cond.methodLink RX5 170 yX8_endAuction ∈ GW := gt4 39 rfl rfl
set_option maxRecDepth 100000 in
theorem ml_8159 : Cond.methodLink RX8 159 yX8_findPrice ∈ GW := gt4 43 rfl rfl
set_option maxRecDepth 100000 in
theorem ml_8195 : Cond.methodLink RX8 195 yX8_volumeAt ∈ GW := gt4 47 rfl rfl
set_option maxRecDepth 100000 in
theorem ml_8199 : Cond.methodLink RX8 199 yX8_sumAt ∈ GW := gt4 51 rfl rfl
set_option maxRecDepth 100000 in
theorem ml_8203 : Cond.methodLink RX8 203 yJ9_abs_0f7a4 ∈ GW := gt4 55 rfl rfl
set_option maxRecDepth 100000 in
theorem ml_8207 : Cond.methodLink RX8 207 yX8_isNearer ∈ GW := gt4 56 rfl rfl
set_option maxRecDepth 100000 in
theorem ml_8172 : Cond.methodLink RX8 172 yX8_tradeAll ∈ GW := gt4 59 rfl rfl
set_option maxRecDepth 100000 in
theorem ml_8183 : Cond.methodLink RX8 183 yX8_firstAt ∈ GW := gt4 63 rfl rfl
set_option maxRecDepth 100000 in
theorem ml_8187 : Cond.methodLink RX8 187 yX8_comesBefore ∈ GW := gt4 67 rfl rfl
set_option maxRecDepth 100000 in
theorem ml_8191 : Cond.methodLink RX8 191 yX10_isBetter ∈ GW := gt4 71 rfl rfl
set_option maxRecDepth 100000 in
theorem ml_8179 : Cond.methodLink RX8 179 yX6_openBook ∈ GW := gt4 72 rfl rfl
set_option maxRecDepth 100000 in
theorem ml_5174 : Cond.methodLink RX5 174 yX5_work ∈ GW := gt4 76 rfl rfl
set_option maxRecDepth 100000 in
theorem ml_5228 : Cond.methodLink RX5 228 yX6_dueStop ∈ GW := gt4 81 rfl rfl
set_option maxRecDepth 100000 in
theorem ml_6182 : Cond.methodLink RX6 182 yX10_isDue ∈ GW := gt4 85 rfl rfl
set_option maxRecDepth 100000 in
theorem ml_5232 : Cond.methodLink RX5 232 yX7_latestOf ∈ GW := gt4 89 rfl rfl
set_option maxRecDepth 100000 in
theorem ml_7053 : Cond.methodLink RX7 53 yJ9_max_7cf53 ∈ GW := gt4 93 rfl rfl
set_option maxRecDepth 100000 in
theorem ml_7059 : Cond.methodLink RX7 59 yX7_find ∈ GW := gt4 96 rfl rfl
set_option maxRecDepth 100000 in
theorem ml_5239 : Cond.methodLink RX5 239 yX3_makePair ∈ GW := gt4 101 rfl rfl
set_option maxRecDepth 100000 in
theorem ml_3017 : Cond.methodLink RX3 17 yX6_bookAt ∈ GW := gt4 105 rfl rfl
set_option maxRecDepth 100000 in
theorem ml_3036 : Cond.methodLink RX3 36 yX6_firstOf ∈ GW := gt4 106 rfl rfl
set_option maxRecDepth 100000 in
theorem ml_6083 : Cond.methodLink RX6 83 yX6_bestPrice ∈ GW := gt4 110 rfl rfl
set_option maxRecDepth 100000 in
theorem ml_3045 : Cond.methodLink RX3 45 yX3_isBarred ∈ GW := gt4 111 rfl rfl
set_option maxRecDepth 100000 in
theorem ml_3066 : Cond.methodLink RX3 66 yX1_hasPrice ∈ GW := gt4 114 rfl rfl
set_option maxRecDepth 100000 in
theorem ml_3070 : Cond.methodLink RX3 70 yX1_isBeyondBand ∈ GW := gt4 118 rfl rfl
set_option maxRecDepth 100000 in
theorem ml_3052 : Cond.methodLink RX3 52 yJ9_min_7cf53 ∈ GW := gt4 119 rfl rfl
set_option maxRecDepth 100000 in
theorem ml_3058 : Cond.methodLink RX3 58 yX3_record ∈ GW := gt4 120 rfl rfl
set_option maxRecDepth 100000 in
theorem ml_3085 : Cond.methodLink RX3 85 yX7_record ∈ GW := gt4 124 rfl rfl
set_option maxRecDepth 100000 in
theorem ml_3062 : Cond.methodLink RX3 62 yX3_fallTogether ∈ GW := gt4 125 rfl rfl
set_option maxRecDepth 100000 in
theorem ml_3090 : Cond.methodLink RX3 90 yX10_fall ∈ GW := gt4 129 rfl rfl
set_option maxRecDepth 100000 in
theorem ml_3094 : Cond.methodLink RX3 94 yX6_guard ∈ GW := gt4 130 rfl rfl
set_option maxRecDepth 100000 in
theorem ml_3098 : Cond.methodLink RX3 98 yX6_showAnew ∈ GW := gt4 131 rfl rfl
set_option maxRecDepth 100000 in
theorem ml_5243 : Cond.methodLink RX5 243 yX3_makeChain ∈ GW := gt4 132 rfl rfl
set_option maxRecDepth 100000 in
theorem ml_5247 : Cond.methodLink RX5 247 yX6_pricePegs ∈ GW := gt4 136 rfl rfl
set_option maxRecDepth 100000 in
theorem ml_6194 : Cond.methodLink RX6 194 yX6_nextPeg ∈ GW := gt4 140 rfl rfl
set_option maxRecDepth 100000 in
theorem ml_6197 : Cond.methodLink RX6 197 yX6_pegPrice ∈ GW := gt4 144 rfl rfl
set_option maxRecDepth 100000 in
theorem ml_6208 : Cond.methodLink RX6 208 yJ9_min_7cf53 ∈ GW := gt4 148 rfl rfl
set_option maxRecDepth 100000 in
theorem ml_6212 : Cond.methodLink RX6 212 yJ9_max_7cf53 ∈ GW := gt4 149 rfl rfl
set_option maxRecDepth 100000 in
theorem ml_6215 : Cond.methodLink RX6 215 yX1_hasPrice ∈ GW := gt4 150 rfl rfl
set_option maxRecDepth 100000 in
theorem ml_6201 : Cond.methodLink RX6 201 yX6_movePeg ∈ GW := gt4 151 rfl rfl
set_option maxRecDepth 100000 in
theorem ml_6191 : Cond.methodLink RX6 191 yX10_hold ∈ GW := gt4 155 rfl rfl
set_option maxRecDepth 100000 in
theorem ml_11318 : Cond.methodLink RX11 318 yX6_turnDay ∈ GW := gt4 159 rfl rfl
set_option maxRecDepth 100000 in
theorem ml_11321 : Cond.methodLink RX11 321 yX5_undo ∈ GW := gt4 163 rfl rfl
set_option maxRecDepth 100000 in
theorem ml_5177 : Cond.methodLink RX5 177 yX7_reverse ∈ GW := gt4 167 rfl rfl
set_option maxRecDepth 100000 in
theorem ml_7071 : Cond.methodLink RX7 71 yX7_latestOf ∈ GW := gt4 171 rfl rfl
set_option maxRecDepth 100000 in
theorem ml_5181 : Cond.methodLink RX5 181 yX7_find ∈ GW := gt4 172 rfl rfl
set_option maxRecDepth 100000 in
theorem ml_5188 : Cond.methodLink RX5 188 yX6_holdStops ∈ GW := gt4 173 rfl rfl
set_option maxRecDepth 100000 in
theorem ml_11324 : Cond.methodLink RX11 324 yX7_reprice ∈ GW := gt4 177 rfl rfl
set_option maxRecDepth 100000 in
theorem ml_11327 : Cond.methodLink RX11 327 yX7_replaceSide ∈ GW := gt4 181 rfl rfl
set_option maxRecDepth 100000 in
theorem ml_7095 : Cond.methodLink RX7 95 yX7_accountAt ∈ GW := gt4 185 rfl rfl
set_option maxRecDepth 100000 in
theorem ml_11331 : Cond.methodLink RX11 331 yX7_allotLots ∈ GW := gt4 186 rfl rfl
set_option maxRecDepth 100000 in
theorem ml_7115 : Cond.methodLink RX7 115 yX7_averageOf ∈ GW := gt4 190 rfl rfl
set_option maxRecDepth 100000 in
theorem ml_7102 : Cond.methodLink RX7 102 yX4_counts ∈ GW := gt4 194 rfl rfl
set_option maxRecDepth 100000 in
theorem ml_7107 : Cond.methodLink RX7 107 yJ9_floorDiv_f86c9 ∈ GW := gt4 198 rfl rfl
set_option maxRecDepth 100000 in
theorem ml_7111 : Cond.methodLink RX7 111 yX0_holds ∈ GW := gt4 201 rfl rfl
set_option maxRecDepth 100000 in
theorem ml_7119 : Cond.methodLink RX7 119 yX0_put ∈ GW := gt4 205 rfl rfl
set_option maxRecDepth 100000 in
theorem ml_11335 : Cond.methodLink RX11 335 yX7_exerciseLots ∈ GW := gt4 209 rfl rfl
set_option maxRecDepth 100000 in
theorem ml_7125 : Cond.methodLink RX7 125 yJ9_floorMod_7cf53 ∈ GW := gt4 214 rfl rfl
set_option maxRecDepth 100000 in
theorem ml_7128 : Cond.methodLink RX7 128 yX7_assign ∈ GW := gt4 217 rfl rfl
set_option maxRecDepth 100000 in
theorem ml_11338 : Cond.methodLink RX11 338 yX5_convertContract ∈ GW := gt4 221 rfl rfl
set_option maxRecDepth 100000 in
theorem ml_5192 : Cond.methodLink RX5 192 yX6_withdrawContract ∈ GW := gt4 225 rfl rfl
set_option maxRecDepth 100000 in
theorem ml_6134 : Cond.methodLink RX6 134 yX1_hasContract ∈ GW := gt4 229 rfl rfl
set_option maxRecDepth 100000 in
theorem ml_5195 : Cond.methodLink RX5 195 yX7_forget ∈ GW := gt4 233 rfl rfl
set_option maxRecDepth 100000 in
theorem ml_7144 : Cond.methodLink RX7 144 yX1_hasContract ∈ GW := gt4 237 rfl rfl
set_option maxRecDepth 100000 in
theorem ml_5201 : Cond.methodLink RX5 201 yX5_convertPrice ∈ GW := gt4 238 rfl rfl
set_option maxRecDepth 100000 in
theorem ml_5212 : Cond.methodLink RX5 212 yJ9_min_7cf53 ∈ GW := gt5 1 rfl rfl
set_option maxRecDepth 100000 in
theorem ml_5218 : Cond.methodLink RX5 218 yJ9_max_7cf53 ∈ GW := gt5 2 rfl rfl
set_option maxRecDepth 100000 in
theorem ml_5208 : Cond.methodLink RX5 208 yX7_convertPositions ∈ GW := gt5 3 rfl rfl
set_option maxRecDepth 100000 in
theorem ml_7131 : Cond.methodLink RX7 131 yX7_scaled ∈ GW := gt5 7 rfl rfl
set_option maxRecDepth 100000 in
theorem ml_7141 : Cond.methodLink RX7 141 yJ9_floorDiv_b2ac5 ∈ GW := gt5 10 rfl rfl
set_option maxRecDepth 100000 in
theorem ml_14143 : Cond.methodLink RJ9 143 yJ9_floorDiv_f86c9 ∈ GW := gt5 13 rfl rfl
set_option maxRecDepth 100000 in
theorem ml_11341 : Cond.methodLink RX11 341 yX2_changeMove ∈ GW := gt5 14 rfl rfl
set_option maxRecDepth 100000 in
theorem ml_2086 : Cond.methodLink RX2 86 yX2_moveOf ∈ GW := gt5 18 rfl rfl
set_option maxRecDepth 100000 in
theorem ml_11344 : Cond.methodLink RX11 344 yX2_changeHaircut ∈ GW := gt5 22 rfl rfl
set_option maxRecDepth 100000 in
theorem ml_11347 : Cond.methodLink RX11 347 yX2_bring ∈ GW := gt5 26 rfl rfl
set_option maxRecDepth 100000 in
theorem ml_2051 : Cond.methodLink RX2 51 yX2_memberAt ∈ GW := gt5 30 rfl rfl
set_option maxRecDepth 100000 in
theorem ml_2069 : Cond.methodLink RX2 69 yX2_callOf ∈ GW := gt5 34 rfl rfl
set_option maxRecDepth 100000 in
theorem ml_2107 : Cond.methodLink RX2 107 yX6_bookAt ∈ GW := gt5 38 rfl rfl
set_option maxRecDepth 100000 in
theorem ml_2133 : Cond.methodLink RX2 133 yJ9_floorDiv_f86c9 ∈ GW := gt5 40 rfl rfl
set_option maxRecDepth 100000 in
theorem ml_2058 : Cond.methodLink RX2 58 yX2_riskOf ∈ GW := gt5 41 rfl rfl
set_option maxRecDepth 100000 in
theorem ml_2090 : Cond.methodLink RX2 90 yX2_netOf ∈ GW := gt5 45 rfl rfl
set_option maxRecDepth 100000 in
theorem ml_2045 : Cond.methodLink RX2 45 yX7_accountAt ∈ GW := gt5 49 rfl rfl
set_option maxRecDepth 100000 in
theorem ml_2080 : Cond.methodLink RX2 80 yX0_holds ∈ GW := gt5 50 rfl rfl
set_option maxRecDepth 100000 in
theorem ml_2093 : Cond.methodLink RX2 93 yJ9_max_f86c9 ∈ GW := gt5 51 rfl rfl
set_option maxRecDepth 100000 in
theorem ml_2101 : Cond.methodLink RX2 101 yJ9_abs_067f4 ∈ GW := gt5 55 rfl rfl
set_option maxRecDepth 100000 in
theorem ml_2062 : Cond.methodLink RX2 62 yX2_valueOf ∈ GW := gt5 59 rfl rfl
set_option maxRecDepth 100000 in
theorem ml_2118 : Cond.methodLink RX2 118 yX2_lowerOf ∈ GW := gt5 63 rfl rfl
set_option maxRecDepth 100000 in
theorem ml_2125 : Cond.methodLink RX2 125 yX2_upperOf ∈ GW := gt5 67 rfl rfl
set_option maxRecDepth 100000 in
theorem ml_2128 : Cond.methodLink RX2 128 yX2_worthOf ∈ GW := gt5 71 rfl rfl
set_option maxRecDepth 100000 in
theorem ml_11350 : Cond.methodLink RX11 350 yX2_changeFund ∈ GW := gt5 75 rfl rfl
set_option maxRecDepth 100000 in
theorem ml_11353 : Cond.methodLink RX11 353 yX5_failMember ∈ GW := gt5 79 rfl rfl
set_option maxRecDepth 100000 in
theorem ml_5221 : Cond.methodLink RX5 221 yX2_fall ∈ GW := gt5 83 rfl rfl
set_option maxRecDepth 100000 in
theorem ml_5224 : Cond.methodLink RX5 224 yX6_withdrawMember ∈ GW := gt5 87 rfl rfl
set_option maxRecDepth 100000 in
theorem ml_11356 : Cond.methodLink RX11 356 yX2_takeBid ∈ GW := gt5 91 rfl rfl
set_option maxRecDepth 100000 in
theorem ml_11359 : Cond.methodLink RX11 359 yX2_closePortfolio ∈ GW := gt5 95 rfl rfl
set_option maxRecDepth 100000 in
theorem ml_2142 : Cond.methodLink RX2 142 yX2_highestBidder ∈ GW := gt5 99 rfl rfl
set_option maxRecDepth 100000 in
theorem ml_2146 : Cond.methodLink RX2 146 yX2_handOver ∈ GW := gt5 103 rfl rfl
set_option maxRecDepth 100000 in
theorem ml_2159 : Cond.methodLink RX2 159 yX0_put ∈ GW := gt5 107 rfl rfl
set_option maxRecDepth 100000 in
theorem ml_2150 : Cond.methodLink RX2 150 yX2_cover ∈ GW := gt5 108 rfl rfl
set_option maxRecDepth 100000 in
theorem ml_2169 : Cond.methodLink RX2 169 yX2_give ∈ GW := gt5 112 rfl rfl
set_option maxRecDepth 100000 in
theorem ml_2180 : Cond.methodLink RX2 180 yJ9_min_f86c9 ∈ GW := gt5 116 rfl rfl
set_option maxRecDepth 100000 in
theorem ml_2173 : Cond.methodLink RX2 173 yX2_sellUnits ∈ GW := gt5 119 rfl rfl
set_option maxRecDepth 100000 in
theorem ml_2177 : Cond.methodLink RX2 177 yX2_shareLayer ∈ GW := gt5 123 rfl rfl
set_option maxRecDepth 100000 in
theorem ml_2183 : Cond.methodLink RX2 183 yX2_givesIn ∈ GW := gt5 127 rfl rfl
set_option maxRecDepth 100000 in
theorem ml_2190 : Cond.methodLink RX2 190 yX2_shareLoss ∈ GW := gt5 131 rfl rfl
set_option maxRecDepth 100000 in
theorem ml_2153 : Cond.methodLink RX2 153 yX9_forgetBid ∈ GW := gt5 135 rfl rfl
set_option maxRecDepth 100000 in
theorem ml_11362 : Cond.methodLink RX11 362 yX5_work ∈ GW := gt5 136 rfl rfl
set_option maxRecDepth 100000 in
theorem ml_13068 : Cond.methodLink RL 68 yX11_events ∈ GW := gt5 137 rfl rfl
set_option maxRecDepth 100000 in
theorem ml_13200 : Cond.methodLink RL 200 yL_drawn ∈ GW := gt5 141 rfl rfl
set_option maxRecDepth 100000 in
theorem ml_13204 : Cond.methodLink RL 204 yL_isOrdered ∈ GW := gt5 145 rfl rfl
set_option maxRecDepth 100000 in
theorem ml_13063 : Cond.methodLink RL 63 yL_range ∈ GW := gt5 148 rfl rfl
set_option maxRecDepth 100000 in
theorem ml_13071 : Cond.methodLink RL 71 yL_isNoLimit ∈ GW := gt5 151 rfl rfl
set_option maxRecDepth 100000 in
theorem ml_13008 : Cond.methodLink RL 8 yX11_limit ∈ GW := gt5 155 rfl rfl
set_option maxRecDepth 100000 in
theorem ml_11023 : Cond.methodLink RX11 23 yX11_isTrader ∈ GW := gt5 159 rfl rfl
set_option maxRecDepth 100000 in
theorem ml_11059 : Cond.methodLink RX11 59 yX11_isWithin ∈ GW := gt5 162 rfl rfl
set_option maxRecDepth 100000 in
theorem ml_11027 : Cond.methodLink RX11 27 yX11_isBook ∈ GW := gt5 165 rfl rfl
set_option maxRecDepth 100000 in
theorem ml_11030 : Cond.methodLink RX11 30 yX11_needPlace ∈ GW := gt5 168 rfl rfl
set_option maxRecDepth 100000 in
theorem ml_11044 : Cond.methodLink RX11 44 yX1_hasPrice ∈ GW := gt5 239 rfl rfl
set_option maxRecDepth 100000 in
theorem ml_11049 : Cond.methodLink RX11 49 yX11_isQuantity ∈ GW := gt6 0 rfl rfl
set_option maxRecDepth 100000 in
theorem ml_11052 : Cond.methodLink RX11 52 yJ9_abs_0f7a4 ∈ GW := gt6 3 rfl rfl
set_option maxRecDepth 100000 in
theorem ml_11063 : Cond.methodLink RX11 63 yX11_needRange ∈ GW := gt6 5 rfl rfl
set_option maxRecDepth 100000 in
theorem ml_11070 : Cond.methodLink RX11 70 yX5_admits ∈ GW := gt6 24 rfl rfl
set_option maxRecDepth 100000 in
theorem ml_5073 : Cond.methodLink RX5 73 yX2_memberAt ∈ GW := gt6 28 rfl rfl
set_option maxRecDepth 100000 in
theorem ml_5083 : Cond.methodLink RX5 83 yX6_countLive ∈ GW := gt6 29 rfl rfl
set_option maxRecDepth 100000 in
theorem ml_5091 : Cond.methodLink RX5 91 yX6_refuses ∈ GW := gt6 33 rfl rfl
set_option maxRecDepth 100000 in
theorem ml_6087 : Cond.methodLink RX6 87 yJ9_abs_0f7a4 ∈ GW := gt6 37 rfl rfl
set_option maxRecDepth 100000 in
theorem ml_6096 : Cond.methodLink RX6 96 yX6_reach ∈ GW := gt6 38 rfl rfl
set_option maxRecDepth 100000 in
theorem ml_6112 : Cond.methodLink RX6 112 yX0_holds ∈ GW := gt6 42 rfl rfl
set_option maxRecDepth 100000 in
theorem ml_6119 : Cond.methodLink RX6 119 yX10_addsTo ∈ GW := gt6 43 rfl rfl
set_option maxRecDepth 100000 in
theorem ml_6100 : Cond.methodLink RX6 100 yX0_limitOf ∈ GW := gt6 47 rfl rfl
set_option maxRecDepth 100000 in
theorem ml_6105 : Cond.methodLink RX6 105 yX1_isSpread ∈ GW := gt6 48 rfl rfl
set_option maxRecDepth 100000 in
theorem ml_11073 : Cond.methodLink RX11 73 yX11_needState ∈ GW := gt6 49 rfl rfl
set_option maxRecDepth 100000 in
theorem ml_11076 : Cond.methodLink RX11 76 yX11_enter ∈ GW := gt6 68 rfl rfl
set_option maxRecDepth 100000 in
theorem ml_13075 : Cond.methodLink RL 75 yL_isNoMarket ∈ GW := gt6 72 rfl rfl
set_option maxRecDepth 100000 in
theorem ml_13042 : Cond.methodLink RL 42 yX11_market ∈ GW := gt6 75 rfl rfl
set_option maxRecDepth 100000 in
theorem ml_13079 : Cond.methodLink RL 79 yL_isNoIceberg ∈ GW := gt6 79 rfl rfl
set_option maxRecDepth 100000 in
theorem ml_13046 : Cond.methodLink RL 46 yX11_iceberg ∈ GW := gt6 82 rfl rfl
set_option maxRecDepth 100000 in
theorem ml_13082 : Cond.methodLink RL 82 yL_isNoPeg ∈ GW := gt6 86 rfl rfl
set_option maxRecDepth 100000 in
theorem ml_13049 : Cond.methodLink RL 49 yX11_peg ∈ GW := gt6 89 rfl rfl
set_option maxRecDepth 100000 in
theorem ml_13085 : Cond.methodLink RL 85 yL_isNoStop ∈ GW := gt6 93 rfl rfl
set_option maxRecDepth 100000 in
theorem ml_13039 : Cond.methodLink RL 39 yX11_stop ∈ GW := gt6 96 rfl rfl
set_option maxRecDepth 100000 in
theorem ml_11084 : Cond.methodLink RX11 84 yX11_isContract ∈ GW := gt6 100 rfl rfl
set_option maxRecDepth 100000 in
theorem ml_13088 : Cond.methodLink RL 88 yL_isNoQuote ∈ GW := gt6 103 rfl rfl
set_option maxRecDepth 100000 in
theorem ml_13016 : Cond.methodLink RL 16 yX11_quote ∈ GW := gt6 106 rfl rfl
set_option maxRecDepth 100000 in
theorem ml_11087 : Cond.methodLink RX11 87 yX6_countLive ∈ GW := gt6 110 rfl rfl
set_option maxRecDepth 100000 in
theorem ml_13207 : Cond.methodLink RL 207 yL_isLater ∈ GW := gt6 111 rfl rfl
set_option maxRecDepth 100000 in
theorem ml_13091 : Cond.methodLink RL 91 yX11_trades ∈ GW := gt6 114 rfl rfl
set_option maxRecDepth 100000 in
theorem ml_13094 : Cond.methodLink RL 94 yL_isLostBust ∈ GW := gt6 118 rfl rfl
set_option maxRecDepth 100000 in
theorem ml_13052 : Cond.methodLink RL 52 yX11_bust ∈ GW := gt6 122 rfl rfl
set_option maxRecDepth 100000 in
theorem ml_11119 : Cond.methodLink RX11 119 yX11_keptDeal ∈ GW := gt6 126 rfl rfl
set_option maxRecDepth 100000 in
theorem ml_11270 : Cond.methodLink RX11 270 yX7_find ∈ GW := gt6 130 rfl rfl
set_option maxRecDepth 100000 in
theorem ml_13098 : Cond.methodLink RL 98 yL_isLostTrade ∈ GW := gt6 132 rfl rfl
set_option maxRecDepth 100000 in
theorem ml_13057 : Cond.methodLink RL 57 yX11_trade ∈ GW := gt6 135 rfl rfl
set_option maxRecDepth 100000 in
theorem ml_11242 : Cond.methodLink RX11 242 yX4_tell ∈ GW := gt6 139 rfl rfl
set_option maxRecDepth 100000 in
theorem ml_13101 : Cond.methodLink RL 101 yL_isNoBust ∈ GW := gt6 143 rfl rfl
set_option maxRecDepth 100000 in
theorem ml_13104 : Cond.methodLink RL 104 yL_isNoAuction ∈ GW := gt6 146 rfl rfl
set_option maxRecDepth 100000 in
theorem ml_13020 : Cond.methodLink RL 20 yX11_auction ∈ GW := gt6 149 rfl rfl
set_option maxRecDepth 100000 in
theorem ml_13107 : Cond.methodLink RL 107 yX11_endOf ∈ GW := gt6 153 rfl rfl
set_option maxRecDepth 100000 in
theorem ml_13110 : Cond.methodLink RL 110 yX11_setRule ∈ GW := gt6 157 rfl rfl
set_option maxRecDepth 100000 in
theorem ml_13113 : Cond.methodLink RL 113 yX11_setBand ∈ GW := gt6 161 rfl rfl
set_option maxRecDepth 100000 in
theorem ml_13116 : Cond.methodLink RL 116 yX11_pass ∈ GW := gt6 165 rfl rfl
set_option maxRecDepth 100000 in
theorem ml_13119 : Cond.methodLink RL 119 yX11_setMove ∈ GW := gt6 169 rfl rfl
set_option maxRecDepth 100000 in
theorem ml_13122 : Cond.methodLink RL 122 yX11_setProtection ∈ GW := gt6 173 rfl rfl
set_option maxRecDepth 100000 in
theorem ml_13125 : Cond.methodLink RL 125 yX11_member ∈ GW := gt6 177 rfl rfl
set_option maxRecDepth 100000 in
theorem ml_11160 : Cond.methodLink RX11 160 yX11_isMember ∈ GW := gt6 181 rfl rfl
set_option maxRecDepth 100000 in
theorem ml_11252 : Cond.methodLink RX11 252 yX2_tell ∈ GW := gt6 184 rfl rfl
set_option maxRecDepth 100000 in
theorem ml_13129 : Cond.methodLink RL 129 yX11_pay ∈ GW := gt6 188 rfl rfl
set_option maxRecDepth 100000 in
theorem ml_11167 : Cond.methodLink RX11 167 yX2_canPay ∈ GW := gt6 192 rfl rfl
set_option maxRecDepth 100000 in
theorem ml_13132 : Cond.methodLink RL 132 yL_isNoFail ∈ GW := gt6 196 rfl rfl
set_option maxRecDepth 100000 in
theorem ml_13035 : Cond.methodLink RL 35 yX11_fail ∈ GW := gt6 199 rfl rfl
set_option maxRecDepth 100000 in
theorem ml_11181 : Cond.methodLink RX11 181 yX2_canFail ∈ GW := gt6 203 rfl rfl
set_option maxRecDepth 100000 in
theorem ml_13135 : Cond.methodLink RL 135 yL_isNoBid ∈ GW := gt6 207 rfl rfl
set_option maxRecDepth 100000 in
theorem ml_13031 : Cond.methodLink RL 31 yX11_bid ∈ GW := gt6 210 rfl rfl
set_option maxRecDepth 100000 in
theorem ml_11172 : Cond.methodLink RX11 172 yX2_memberAt ∈ GW := gt6 214 rfl rfl
set_option maxRecDepth 100000 in
theorem ml_13139 : Cond.methodLink RL 139 yL_isNoClosing ∈ GW := gt6 215 rfl rfl
set_option maxRecDepth 100000 in
theorem ml_13028 : Cond.methodLink RL 28 yX11_closeOut ∈ GW := gt6 218 rfl rfl
set_option maxRecDepth 100000 in
theorem ml_13143 : Cond.methodLink RL 143 yL_isNoConvert ∈ GW := gt6 222 rfl rfl
set_option maxRecDepth 100000 in
theorem ml_13060 : Cond.methodLink RL 60 yX11_convert ∈ GW := gt6 225 rfl rfl
set_option maxRecDepth 100000 in
theorem ml_11157 : Cond.methodLink RX11 157 yX7_canConvert ∈ GW := gt6 229 rfl rfl
set_option maxRecDepth 100000 in
theorem ml_7135 : Cond.methodLink RX7 135 yJ9_abs_067f4 ∈ GW := gt6 233 rfl rfl
set_option maxRecDepth 100000 in
theorem ml_13146 : Cond.methodLink RL 146 yL_isNoEnd ∈ GW := gt6 235 rfl rfl
set_option maxRecDepth 100000 in
theorem ml_13024 : Cond.methodLink RL 24 yX11_endDay ∈ GW := gt6 238 rfl rfl
set_option maxRecDepth 100000 in
theorem ml_11115 : Cond.methodLink RX11 115 yX6_hasAuction ∈ GW := gt7 2 rfl rfl
set_option maxRecDepth 100000 in
theorem ml_13149 : Cond.methodLink RL 149 yX11_setHaircut ∈ GW := gt7 6 rfl rfl
set_option maxRecDepth 100000 in
theorem ml_13211 : Cond.methodLink RL 211 yL_isBalanced ∈ GW := gt7 10 rfl rfl
set_option maxRecDepth 100000 in
theorem ml_13152 : Cond.methodLink RL 152 yX11_position ∈ GW := gt7 13 rfl rfl
set_option maxRecDepth 100000 in
theorem ml_11154 : Cond.methodLink RX11 154 yX0_holds ∈ GW := gt7 17 rfl rfl
set_option maxRecDepth 100000 in
theorem ml_13155 : Cond.methodLink RL 155 yX11_stake ∈ GW := gt7 18 rfl rfl
set_option maxRecDepth 100000 in
theorem ml_13158 : Cond.methodLink RL 158 yX11_cash ∈ GW := gt7 22 rfl rfl
set_option maxRecDepth 100000 in
theorem ml_13215 : Cond.methodLink RL 215 yL_areOrders ∈ GW := gt7 27 rfl rfl
set_option maxRecDepth 100000 in
theorem ml_13164 : Cond.methodLink RL 164 yX11_best ∈ GW := gt7 30 rfl rfl
set_option maxRecDepth 100000 in
theorem ml_11199 : Cond.methodLink RX11 199 yX6_bestPrice ∈ GW := gt7 34 rfl rfl
set_option maxRecDepth 100000 in
theorem ml_13169 : Cond.methodLink RL 169 yX11_shown ∈ GW := gt7 36 rfl rfl
set_option maxRecDepth 100000 in
theorem ml_11203 : Cond.methodLink RX11 203 yX6_sumShown ∈ GW := gt7 40 rfl rfl
set_option maxRecDepth 100000 in
theorem ml_13173 : Cond.methodLink RL 173 yX11_indicated ∈ GW := gt7 44 rfl rfl
set_option maxRecDepth 100000 in
theorem ml_11229 : Cond.methodLink RX11 229 yX8_findPrice ∈ GW := gt7 48 rfl rfl
set_option maxRecDepth 100000 in
theorem ml_11235 : Cond.methodLink RX11 235 yX8_volumeAt ∈ GW := gt7 49 rfl rfl
set_option maxRecDepth 100000 in
theorem ml_13218 : Cond.methodLink RL 218 yL_isByLog ∈ GW := gt7 50 rfl rfl
set_option maxRecDepth 100000 in
theorem ml_13176 : Cond.methodLink RL 176 yX11_positionByLog ∈ GW := gt7 53 rfl rfl
set_option maxRecDepth 100000 in
theorem ml_13179 : Cond.methodLink RL 179 yX11_bestByLog ∈ GW := gt7 57 rfl rfl
set_option maxRecDepth 100000 in
theorem ml_13221 : Cond.methodLink RL 221 yL_sum ∈ GW := gt7 61 rfl rfl
set_option maxRecDepth 100000 in
theorem ml_13186 : Cond.methodLink RL 186 yX11_last ∈ GW := gt7 66 rfl rfl
set_option maxRecDepth 100000 in
theorem ml_13189 : Cond.methodLink RL 189 yX11_stateOf ∈ GW := gt7 70 rfl rfl
set_option maxRecDepth 100000 in
theorem ml_11091 : Cond.methodLink RX11 91 yX6_find ∈ GW := gt7 74 rfl rfl
set_option maxRecDepth 100000 in
theorem ml_13192 : Cond.methodLink RL 192 yX11_rest ∈ GW := gt7 75 rfl rfl
set_option maxRecDepth 100000 in
theorem ml_13195 : Cond.methodLink RL 195 yX11_priceOf ∈ GW := gt7 80 rfl rfl
