/-! the words of links and methods, each by its place in the printed tables (no strings are compared) -/
theorem gw_of {w : Cond} (h : w ∈ tables_1) (hg : goodWord w = true) : w ∈ GW := List.mem_filter.mpr ⟨List.mem_append_right _ h, hg⟩
theorem gt1 {w : Cond} (r : Nat) (h : tables_1_1[r]? = some w) (hg : goodWord w = true) : w ∈ GW := gw_of (List.mem_append_left _ (List.mem_of_getElem? h)) hg
theorem gt2 {w : Cond} (r : Nat) (h : tables_1_2[r]? = some w) (hg : goodWord w = true) : w ∈ GW := gw_of (List.mem_append_right _ (List.mem_append_left _ (List.mem_of_getElem? h))) hg
theorem gt3 {w : Cond} (r : Nat) (h : tables_1_3[r]? = some w) (hg : goodWord w = true) : w ∈ GW := gw_of (List.mem_append_right _ (List.mem_append_right _ (List.mem_append_left _ (List.mem_of_getElem? h)))) hg
theorem gt4 {w : Cond} (r : Nat) (h : tables_1_4[r]? = some w) (hg : goodWord w = true) : w ∈ GW := gw_of (List.mem_append_right _ (List.mem_append_right _ (List.mem_append_right _ (List.mem_append_left _ (List.mem_of_getElem? h))))) hg
theorem gt5 {w : Cond} (r : Nat) (h : tables_1_5[r]? = some w) (hg : goodWord w = true) : w ∈ GW := gw_of (List.mem_append_right _ (List.mem_append_right _ (List.mem_append_right _ (List.mem_append_right _ (List.mem_append_left _ (List.mem_of_getElem? h)))))) hg
theorem gt6 {w : Cond} (r : Nat) (h : tables_1_6[r]? = some w) (hg : goodWord w = true) : w ∈ GW := gw_of (List.mem_append_right _ (List.mem_append_right _ (List.mem_append_right _ (List.mem_append_right _ (List.mem_append_right _ (List.mem_append_left _ (List.mem_of_getElem? h))))))) hg
theorem gt7 {w : Cond} (r : Nat) (h : tables_1_7[r]? = some w) (hg : goodWord w = true) : w ∈ GW := gw_of (List.mem_append_right _ (List.mem_append_right _ (List.mem_append_right _ (List.mem_append_right _ (List.mem_append_right _ (List.mem_append_right _ (List.mem_append_left _ (List.mem_of_getElem? h)))))))) hg
theorem gt8 {w : Cond} (r : Nat) (h : tables_1_8[r]? = some w) (hg : goodWord w = true) : w ∈ GW := gw_of (List.mem_append_right _ (List.mem_append_right _ (List.mem_append_right _ (List.mem_append_right _ (List.mem_append_right _ (List.mem_append_right _ (List.mem_append_right _ (List.mem_append_left _ (List.mem_of_getElem? h))))))))) hg
theorem gt9 {w : Cond} (r : Nat) (h : tables_1_9[r]? = some w) (hg : goodWord w = true) : w ∈ GW := gw_of (List.mem_append_right _ (List.mem_append_right _ (List.mem_append_right _ (List.mem_append_right _ (List.mem_append_right _ (List.mem_append_right _ (List.mem_append_right _ (List.mem_append_right _ (List.mem_append_left _ (List.mem_of_getElem? h)))))))))) hg
theorem gt10 {w : Cond} (r : Nat) (h : tables_1_10[r]? = some w) (hg : goodWord w = true) : w ∈ GW := gw_of (List.mem_append_right _ (List.mem_append_right _ (List.mem_append_right _ (List.mem_append_right _ (List.mem_append_right _ (List.mem_append_right _ (List.mem_append_right _ (List.mem_append_right _ (List.mem_append_right _ (List.mem_append_left _ (List.mem_of_getElem? h))))))))))) hg
theorem gt11 {w : Cond} (r : Nat) (h : tables_1_11[r]? = some w) (hg : goodWord w = true) : w ∈ GW := gw_of (List.mem_append_right _ (List.mem_append_right _ (List.mem_append_right _ (List.mem_append_right _ (List.mem_append_right _ (List.mem_append_right _ (List.mem_append_right _ (List.mem_append_right _ (List.mem_append_right _ (List.mem_append_right _ (List.mem_of_getElem? h))))))))))) hg
theorem gs_of {q : MethodName × Nat} (h : q ∈ lw_privs) : Cond.selects q.1.cls q.1 q.1 ∈ GW := List.mem_filter.mpr ⟨List.mem_append_left _ (List.mem_map.mpr ⟨q, h, rfl⟩), rfl⟩
theorem gp0 {q : MethodName × Nat} (r : Nat) (h : lw_privs_1[r]? = some q) : Cond.selects q.1.cls q.1 q.1 ∈ GW := gs_of (List.mem_append_left _ (List.mem_of_getElem? h))
theorem gp1 {q : MethodName × Nat} (r : Nat) (h : lw_privs_2[r]? = some q) : Cond.selects q.1.cls q.1 q.1 ∈ GW := gs_of (List.mem_append_right _ (List.mem_append_left _ (List.mem_of_getElem? h)))
theorem gp2 {q : MethodName × Nat} (r : Nat) (h : lw_privs_3[r]? = some q) : Cond.selects q.1.cls q.1 q.1 ∈ GW := gs_of (List.mem_append_right _ (List.mem_append_right _ (List.mem_append_left _ (List.mem_of_getElem? h))))
theorem gp3 {q : MethodName × Nat} (r : Nat) (h : lw_privs_4[r]? = some q) : Cond.selects q.1.cls q.1 q.1 ∈ GW := gs_of (List.mem_append_right _ (List.mem_append_right _ (List.mem_append_right _ (List.mem_append_left _ (List.mem_of_getElem? h)))))
theorem gp4 {q : MethodName × Nat} (r : Nat) (h : lw_privs_5[r]? = some q) : Cond.selects q.1.cls q.1 q.1 ∈ GW := gs_of (List.mem_append_right _ (List.mem_append_right _ (List.mem_append_right _ (List.mem_append_right _ (List.mem_append_left _ (List.mem_of_getElem? h))))))
theorem gp5 {q : MethodName × Nat} (r : Nat) (h : lw_privs_6[r]? = some q) : Cond.selects q.1.cls q.1 q.1 ∈ GW := gs_of (List.mem_append_right _ (List.mem_append_right _ (List.mem_append_right _ (List.mem_append_right _ (List.mem_append_right _ (List.mem_append_left _ (List.mem_of_getElem? h)))))))
theorem gp6 {q : MethodName × Nat} (r : Nat) (h : lw_privs_7[r]? = some q) : Cond.selects q.1.cls q.1 q.1 ∈ GW := gs_of (List.mem_append_right _ (List.mem_append_right _ (List.mem_append_right _ (List.mem_append_right _ (List.mem_append_right _ (List.mem_append_right _ (List.mem_append_left _ (List.mem_of_getElem? h))))))))
theorem gp7 {q : MethodName × Nat} (r : Nat) (h : lw_privs_8[r]? = some q) : Cond.selects q.1.cls q.1 q.1 ∈ GW := gs_of (List.mem_append_right _ (List.mem_append_right _ (List.mem_append_right _ (List.mem_append_right _ (List.mem_append_right _ (List.mem_append_right _ (List.mem_append_right _ (List.mem_append_left _ (List.mem_of_getElem? h)))))))))
theorem gp8 {q : MethodName × Nat} (r : Nat) (h : lw_privs_9[r]? = some q) : Cond.selects q.1.cls q.1 q.1 ∈ GW := gs_of (List.mem_append_right _ (List.mem_append_right _ (List.mem_append_right _ (List.mem_append_right _ (List.mem_append_right _ (List.mem_append_right _ (List.mem_append_right _ (List.mem_append_right _ (List.mem_of_getElem? h)))))))))
set_option maxRecDepth 100000 in
theorem mX_0 : mX 0 = (yX0_init, cX0_init, 0, 2, none, 2, 0, 271, 270, 0, 1, 30) := rfl
set_option maxRecDepth 100000 in
theorem mX_1 : mX 1 = (yX0_restore, cX0_restore, 0, 2, none, 1, 0, 641, 639, 640, 1, 30) := rfl
set_option maxRecDepth 100000 in
theorem mX_2 : mX 2 = (yX0_holds, cX0_holds, 0, 2, some .int, 2, 0, 1070, 1068, 1069, 1, 30) := rfl
set_option maxRecDepth 100000 in
theorem mX_3 : mX 3 = (yX0_limitOf, cX0_limitOf, 0, 2, some .int, 2, 0, 891, 889, 890, 1, 30) := rfl
set_option maxRecDepth 100000 in
theorem mX_4 : mX 4 = (yX0_put, cX0_put, 0, 3, none, 3, 0, 1074, 1072, 1073, 1, 30) := rfl
set_option maxRecDepth 100000 in
theorem mX_5 : mX 5 = (yX0_take, cX0_take, 0, 4, none, 4, 0, 820, 818, 819, 1, 30) := rfl
set_option maxRecDepth 100000 in
theorem mX_6 : mX 6 = (yX0_changeProtection, cX0_changeProtection, 0, 3, some .int, 2, 0, 883, 881, 882, 1, 30) := rfl
set_option maxRecDepth 100000 in
theorem mX_7 : mX 7 = (yX0_changeLimit, cX0_changeLimit, 0, 4, some .int, 3, 0, 887, 885, 886, 2, 51) := rfl
set_option maxRecDepth 100000 in
theorem mX_8 : mX 8 = (yX1_init, cX1_init, 1, 2, none, 2, 0, 178, 177, 0, 1, 30) := rfl
set_option maxRecDepth 100000 in
theorem mX_9 : mX 9 = (yX1_restore, cX1_restore, 1, 1, none, 1, 0, 629, 627, 628, 2, 50) := rfl
set_option maxRecDepth 100000 in
theorem mX_10 : mX 10 = (yX1_isSpread, cX1_isSpread, 1, 1, some .boolean, 1, 0, 633, 631, 632, 1, 30) := rfl
set_option maxRecDepth 100000 in
theorem mX_11 : mX 11 = (yX1_hasPrice, cX1_hasPrice, 1, 2, some .boolean, 2, 0, 983, 981, 982, 2, 50) := rfl
set_option maxRecDepth 100000 in
theorem mX_12 : mX 12 = (yX1_hasContract, cX1_hasContract, 1, 2, some .boolean, 2, 0, 1098, 1096, 1097, 1, 30) := rfl
set_option maxRecDepth 100000 in
theorem mX_13 : mX 13 = (yX1_isBeyondBand, cX1_isBeyondBand, 1, 2, some .boolean, 2, 0, 743, 741, 742, 2, 50) := rfl
set_option maxRecDepth 100000 in
theorem mX_14 : mX 14 = (yX1_isFrozen, cX1_isFrozen, 1, 2, some .boolean, 2, 0, 1473, 1471, 1472, 1, 30) := rfl
set_option maxRecDepth 100000 in
theorem mX_15 : mX 15 = (yX1_changeRule, cX1_changeRule, 1, 5, some .int, 4, 0, 874, 872, 873, 1, 30) := rfl
set_option maxRecDepth 100000 in
theorem mX_16 : mX 16 = (yX1_changeBand, cX1_changeBand, 1, 3, some .int, 2, 0, 878, 876, 877, 1, 30) := rfl
set_option maxRecDepth 100000 in
theorem mX_17 : mX 17 = (yX2_init, cX2_init, 2, 4, none, 3, 0, 541, 540, 0, 2, 50) := rfl
set_option maxRecDepth 100000 in
theorem mX_18 : mX 18 = (yX2_restore, cX2_restore, 2, 6, none, 1, 0, 645, 643, 644, 3, 70) := rfl
set_option maxRecDepth 100000 in
theorem mX_19 : mX 19 = (yX2_memberAt, cX2_memberAt, 2, 2, some (.object "Openbook$Member"), 2, 0, 1139, 1137, 1138, 1, 30) := rfl
set_option maxRecDepth 100000 in
theorem mX_20 : mX 20 = (yX2_lowerOf, cX2_lowerOf, 2, 2, some (.object "Openbook$Account"), 2, 0, 1172, 1170, 1171, 2, 51) := rfl
set_option maxRecDepth 100000 in
theorem mX_21 : mX 21 = (yX2_upperOf, cX2_upperOf, 2, 2, some (.object "Openbook$Account"), 2, 0, 1176, 1174, 1175, 2, 51) := rfl
set_option maxRecDepth 100000 in
theorem mX_22 : mX 22 = (yX2_tell, cX2_tell, 2, 4, some .long, 3, 0, 1759, 1757, 1758, 6, 145) := rfl
set_option maxRecDepth 100000 in
theorem mX_23 : mX 23 = (yX2_netOf, cX2_netOf, 2, 5, some .long, 3, 0, 1154, 1153, 23, 2, 51) := rfl
set_option maxRecDepth 100000 in
theorem mX_24 : mX 24 = (yX2_moveOf, cX2_moveOf, 2, 4, some .int, 3, 0, 1127, 1126, 20, 1, 30) := rfl
set_option maxRecDepth 100000 in
theorem mX_25 : mX 25 = (yX2_riskOf, cX2_riskOf, 2, 9, some .long, 3, 0, 1150, 1149, 22, 3, 75) := rfl
set_option maxRecDepth 100000 in
theorem mX_26 : mX 26 = (yX2_worthOf, cX2_worthOf, 2, 5, some .long, 2, 0, 1180, 1179, 25, 3, 75) := rfl
set_option maxRecDepth 100000 in
theorem mX_27 : mX 27 = (yX2_valueOf, cX2_valueOf, 2, 2, some .long, 2, 0, 1168, 1167, 24, 4, 99) := rfl
set_option maxRecDepth 100000 in
theorem mX_28 : mX 28 = (yX2_callOf, cX2_callOf, 2, 6, some .long, 4, 0, 1143, 1142, 21, 5, 120) := rfl
set_option maxRecDepth 100000 in
theorem mX_29 : mX 29 = (yX2_canPay, cX2_canPay, 2, 7, some .boolean, 4, 0, 1613, 1611, 1612, 6, 145) := rfl
set_option maxRecDepth 100000 in
theorem mX_30 : mX 30 = (yX2_bring, cX2_bring, 2, 5, some .int, 4, 0, 1135, 1133, 1134, 6, 145) := rfl
set_option maxRecDepth 100000 in
theorem mX_31 : mX 31 = (yX2_changeMove, cX2_changeMove, 2, 6, some .int, 4, 0, 1123, 1121, 1122, 2, 53) := rfl
set_option maxRecDepth 100000 in
theorem mX_32 : mX 32 = (yX2_changeHaircut, cX2_changeHaircut, 2, 3, some .int, 2, 0, 1131, 1129, 1130, 1, 30) := rfl
set_option maxRecDepth 100000 in
theorem mX_33 : mX 33 = (yX2_changeFund, cX2_changeFund, 2, 5, some .int, 3, 0, 1184, 1182, 1183, 2, 51) := rfl
set_option maxRecDepth 100000 in
theorem mX_34 : mX 34 = (yX2_canFail, cX2_canFail, 2, 3, some .boolean, 2, 0, 1632, 1630, 1631, 6, 145) := rfl
set_option maxRecDepth 100000 in
theorem mX_35 : mX 35 = (yX2_fall, cX2_fall, 2, 2, none, 2, 0, 1192, 1190, 1191, 2, 51) := rfl
set_option maxRecDepth 100000 in
theorem mX_36 : mX 36 = (yX2_takeBid, cX2_takeBid, 2, 9, some .int, 3, 0, 1200, 1198, 1199, 2, 51) := rfl
set_option maxRecDepth 100000 in
theorem mX_37 : mX 37 = (yX2_highestBidder, cX2_highestBidder, 2, 4, some .int, 1, 0, 1208, 1207, 26, 2, 51) := rfl
set_option maxRecDepth 100000 in
theorem mX_38 : mX 38 = (yX2_closePortfolio, cX2_closePortfolio, 2, 6, some .int, 1, 0, 1204, 1202, 1203, 6, 165) := rfl
set_option maxRecDepth 100000 in
theorem mX_39 : mX 39 = (yX2_handOver, cX2_handOver, 2, 9, none, 2, 0, 1212, 1211, 27, 4, 99) := rfl
set_option maxRecDepth 100000 in
theorem mX_40 : mX 40 = (yX2_cover, cX2_cover, 2, 8, none, 2, 0, 1217, 1216, 28, 5, 138) := rfl
set_option maxRecDepth 100000 in
theorem mX_41 : mX 41 = (yX2_give, cX2_give, 2, 6, some .long, 3, 0, 1221, 1220, 29, 2, 53) := rfl
set_option maxRecDepth 100000 in
theorem mX_42 : mX 42 = (yX2_sellUnits, cX2_sellUnits, 2, 8, some .long, 2, 0, 1228, 1227, 30, 3, 78) := rfl
set_option maxRecDepth 100000 in
theorem mX_43 : mX 43 = (yX2_givesIn, cX2_givesIn, 2, 5, some .boolean, 4, 0, 1236, 1235, 32, 2, 51) := rfl
set_option maxRecDepth 100000 in
theorem mX_44 : mX 44 = (yX2_shareLayer, cX2_shareLayer, 2, 9, none, 3, 0, 1232, 1231, 31, 4, 110) := rfl
set_option maxRecDepth 100000 in
theorem mX_45 : mX 45 = (yX2_shareLoss, cX2_shareLoss, 2, 13, none, 2, 0, 1240, 1239, 33, 3, 78) := rfl
set_option maxRecDepth 100000 in
theorem mX_46 : mX 46 = (yX3_init, cX3_init, 3, 3, none, 3, 0, 528, 527, 0, 1, 30) := rfl
set_option maxRecDepth 100000 in
theorem mX_47 : mX 47 = (yX3_makePair, cX3_makePair, 3, 11, some .boolean, 3, 0, 970, 968, 969, 5, 117) := rfl
set_option maxRecDepth 100000 in
theorem mX_48 : mX 48 = (yX3_makeChain, cX3_makeChain, 3, 13, some .boolean, 2, 0, 1001, 999, 1000, 5, 117) := rfl
set_option maxRecDepth 100000 in
theorem mX_49 : mX 49 = (yX3_isBarred, cX3_isBarred, 3, 4, some .boolean, 4, 1, 979, 978, 0, 3, 71) := rfl
set_option maxRecDepth 100000 in
theorem mX_50 : mX 50 = (yX3_record, cX3_record, 3, 9, none, 7, 0, 989, 988, 14, 3, 81) := rfl
set_option maxRecDepth 100000 in
theorem mX_51 : mX 51 = (yX3_fallTogether, cX3_fallTogether, 3, 6, none, 6, 0, 994, 993, 15, 4, 92) := rfl
set_option maxRecDepth 100000 in
theorem mX_52 : mX 52 = (yX4_init, cX4_init, 4, 3, none, 3, 0, 322, 321, 0, 1, 30) := rfl
set_option maxRecDepth 100000 in
theorem mX_53 : mX 53 = (yX4_fill, cX4_fill, 4, 6, none, 6, 0, 816, 814, 815, 1, 30) := rfl
set_option maxRecDepth 100000 in
theorem mX_54 : mX 54 = (yX4_counts, cX4_counts, 4, 1, some .boolean, 1, 0, 1063, 1061, 1062, 1, 30) := rfl
set_option maxRecDepth 100000 in
theorem mX_55 : mX 55 = (yX4_tell, cX4_tell, 4, 2, some .int, 2, 0, 1727, 1725, 1726, 1, 30) := rfl
set_option maxRecDepth 100000 in
theorem mX_56 : mX 56 = (yX5_init, cX5_init, 5, 3, none, 1, 0, 171, 170, 0, 5, 115) := rfl
set_option maxRecDepth 100000 in
theorem mX_57 : mX 57 = (yX5_restore, cX5_restore, 5, 1, none, 1, 0, 621, 619, 620, 4, 95) := rfl
set_option maxRecDepth 100000 in
theorem mX_58 : mX 58 = (yX5_admits, cX5_admits, 5, 5, some .boolean, 4, 0, 1378, 1376, 1377, 4, 106) := rfl
set_option maxRecDepth 100000 in
theorem mX_59 : mX 59 = (yX5_tellLimit, cX5_tellLimit, 5, 9, some .int, 7, 0, 710, 708, 709, 7, 162) := rfl
set_option maxRecDepth 100000 in
theorem mX_60 : mX 60 = (yX5_tellMarket, cX5_tellMarket, 5, 5, some .int, 4, 0, 841, 839, 840, 7, 162) := rfl
set_option maxRecDepth 100000 in
theorem mX_61 : mX 61 = (yX5_tellIceberg, cX5_tellIceberg, 5, 7, some .int, 6, 0, 845, 843, 844, 7, 162) := rfl
set_option maxRecDepth 100000 in
theorem mX_62 : mX 62 = (yX5_tellPeg, cX5_tellPeg, 5, 7, some .int, 6, 0, 849, 847, 848, 4, 105) := rfl
set_option maxRecDepth 100000 in
theorem mX_63 : mX 63 = (yX5_tellStop, cX5_tellStop, 5, 8, some .int, 6, 0, 853, 851, 852, 4, 105) := rfl
set_option maxRecDepth 100000 in
theorem mX_64 : mX 64 = (yX5_tellQuote, cX5_tellQuote, 5, 10, some .int, 6, 0, 857, 855, 856, 7, 162) := rfl
set_option maxRecDepth 100000 in
theorem mX_65 : mX 65 = (yX5_place, cX5_place, 5, 2, none, 2, 0, 748, 747, 1, 6, 141) := rfl
set_option maxRecDepth 100000 in
theorem mX_66 : mX 66 = (yX5_letPass, cX5_letPass, 5, 7, some .int, 2, 0, 896, 894, 895, 7, 171) := rfl
set_option maxRecDepth 100000 in
theorem mX_67 : mX 67 = (yX5_undo, cX5_undo, 5, 4, some .int, 2, 0, 1032, 1030, 1031, 4, 102) := rfl
set_option maxRecDepth 100000 in
theorem mX_68 : mX 68 = (yX5_convertContract, cX5_convertContract, 5, 6, some .int, 4, 0, 1090, 1088, 1089, 4, 113) := rfl
set_option maxRecDepth 100000 in
theorem mX_69 : mX 69 = (yX5_convertPrice, cX5_convertPrice, 5, 4, some .int, 3, 1, 1106, 1105, 0, 2, 51) := rfl
set_option maxRecDepth 100000 in
theorem mX_70 : mX 70 = (yX5_failMember, cX5_failMember, 5, 2, some .int, 2, 0, 1188, 1186, 1187, 3, 72) := rfl
set_option maxRecDepth 100000 in
theorem mX_71 : mX 71 = (yX5_work, cX5_work, 5, 3, none, 1, 0, 945, 943, 944, 6, 149) := rfl
set_option maxRecDepth 100000 in
theorem mX_72 : mX 72 = (yX6_init, cX6_init, 6, 4, none, 3, 0, 377, 376, 0, 2, 52) := rfl
set_option maxRecDepth 100000 in
theorem mX_73 : mX 73 = (yX6_restore, cX6_restore, 6, 5, none, 1, 0, 625, 623, 624, 3, 70) := rfl
set_option maxRecDepth 100000 in
theorem mX_74 : mX 74 = (yX6_bookAt, cX6_bookAt, 6, 2, some (.object "Openbook$Book"), 2, 0, 715, 713, 714, 1, 30) := rfl
set_option maxRecDepth 100000 in
theorem mX_75 : mX 75 = (yX6_find, cX6_find, 6, 6, some (.object "Openbook$Order"), 2, 0, 869, 867, 868, 1, 30) := rfl
set_option maxRecDepth 100000 in
theorem mX_76 : mX 76 = (yX6_countLive, cX6_countLive, 6, 6, some .int, 1, 0, 1383, 1381, 1382, 1, 30) := rfl
set_option maxRecDepth 100000 in
theorem mX_77 : mX 77 = (yX6_draw, cX6_draw, 6, 10, some (.object "Openbook$Order"), 6, 0, 719, 717, 718, 3, 76) := rfl
set_option maxRecDepth 100000 in
theorem mX_78 : mX 78 = (yX6_stand, cX6_stand, 6, 2, none, 2, 0, 752, 750, 751, 3, 71) := rfl
set_option maxRecDepth 100000 in
theorem mX_79 : mX 79 = (yX6_nextTurn, cX6_nextTurn, 6, 1, some .int, 1, 0, 763, 761, 762, 1, 30) := rfl
set_option maxRecDepth 100000 in
theorem mX_80 : mX 80 = (yX6_showAnew, cX6_showAnew, 6, 2, none, 2, 0, 832, 830, 831, 3, 71) := rfl
set_option maxRecDepth 100000 in
theorem mX_81 : mX 81 = (yX6_bestPrice, cX6_bestPrice, 6, 9, some .int, 4, 0, 772, 770, 771, 2, 52) := rfl
set_option maxRecDepth 100000 in
theorem mX_82 : mX 82 = (yX6_firstOf, cX6_firstOf, 6, 9, some (.object "Openbook$Order"), 3, 0, 975, 973, 974, 3, 80) := rfl
set_option maxRecDepth 100000 in
theorem mX_83 : mX 83 = (yX6_sumShown, cX6_sumShown, 6, 9, some .int, 4, 0, 1679, 1677, 1678, 2, 52) := rfl
set_option maxRecDepth 100000 in
theorem mX_84 : mX 84 = (yX6_refuses, cX6_refuses, 6, 6, some .boolean, 4, 0, 1387, 1385, 1386, 3, 81) := rfl
set_option maxRecDepth 100000 in
theorem mX_85 : mX 85 = (yX6_reach, cX6_reach, 6, 10, some .long, 4, 0, 1392, 1391, 35, 2, 52) := rfl
set_option maxRecDepth 100000 in
theorem mX_86 : mX 86 = (yX6_withdraw, cX6_withdraw, 6, 3, some .int, 2, 0, 865, 863, 864, 2, 55) := rfl
set_option maxRecDepth 100000 in
theorem mX_87 : mX 87 = (yX6_withdrawQuote, cX6_withdrawQuote, 6, 7, none, 3, 0, 861, 859, 860, 1, 30) := rfl
set_option maxRecDepth 100000 in
theorem mX_88 : mX 88 = (yX6_withdrawContract, cX6_withdrawContract, 6, 7, some .int, 2, 0, 1094, 1092, 1093, 2, 51) := rfl
set_option maxRecDepth 100000 in
theorem mX_89 : mX 89 = (yX6_withdrawMember, cX6_withdrawMember, 6, 7, some .int, 2, 0, 1196, 1194, 1195, 1, 30) := rfl
set_option maxRecDepth 100000 in
theorem mX_90 : mX 90 = (yX6_guard, cX6_guard, 6, 8, none, 3, 0, 828, 826, 827, 1, 30) := rfl
set_option maxRecDepth 100000 in
theorem mX_91 : mX 91 = (yX6_countQuotes, cX6_countQuotes, 6, 5, none, 1, 0, 900, 898, 899, 3, 77) := rfl
set_option maxRecDepth 100000 in
theorem mX_92 : mX 92 = (yX6_hasOtherSide, cX6_hasOtherSide, 6, 6, some .boolean, 2, 0, 904, 903, 9, 2, 52) := rfl
set_option maxRecDepth 100000 in
theorem mX_93 : mX 93 = (yX6_hasAuction, cX6_hasAuction, 6, 5, some .boolean, 1, 0, 1526, 1524, 1525, 1, 30) := rfl
set_option maxRecDepth 100000 in
theorem mX_94 : mX 94 = (yX6_beginAuction, cX6_beginAuction, 6, 4, some .int, 4, 0, 783, 781, 782, 1, 30) := rfl
set_option maxRecDepth 100000 in
theorem mX_95 : mX 95 = (yX6_openBook, cX6_openBook, 6, 6, none, 2, 0, 941, 939, 940, 3, 71) := rfl
set_option maxRecDepth 100000 in
theorem mX_96 : mX 96 = (yX6_turnDay, cX6_turnDay, 6, 6, some .int, 1, 0, 1028, 1026, 1027, 1, 30) := rfl
set_option maxRecDepth 100000 in
theorem mX_97 : mX 97 = (yX6_dueStop, cX6_dueStop, 6, 6, some (.object "Openbook$Order"), 1, 0, 950, 948, 949, 2, 50) := rfl
set_option maxRecDepth 100000 in
theorem mX_98 : mX 98 = (yX6_holdStops, cX6_holdStops, 6, 7, none, 3, 0, 1042, 1040, 1041, 2, 50) := rfl
set_option maxRecDepth 100000 in
theorem mX_99 : mX 99 = (yX6_pricePegs, cX6_pricePegs, 6, 4, none, 1, 0, 1005, 1003, 1004, 4, 103) := rfl
set_option maxRecDepth 100000 in
theorem mX_100 : mX 100 = (yX6_nextPeg, cX6_nextPeg, 6, 7, some (.object "Openbook$Order"), 2, 0, 1009, 1008, 16, 1, 30) := rfl
set_option maxRecDepth 100000 in
theorem mX_101 : mX 101 = (yX6_pegPrice, cX6_pegPrice, 6, 4, some .int, 2, 0, 1013, 1012, 17, 3, 80) := rfl
set_option maxRecDepth 100000 in
theorem mX_102 : mX 102 = (yX6_movePeg, cX6_movePeg, 6, 3, none, 3, 0, 1020, 1019, 18, 3, 71) := rfl
set_option maxRecDepth 100000 in
theorem mX_103 : mX 103 = (yX7_init, cX7_init, 7, 3, none, 2, 0, 262, 261, 0, 2, 52) := rfl
set_option maxRecDepth 100000 in
theorem mX_104 : mX 104 = (yX7_restore, cX7_restore, 7, 5, none, 1, 0, 637, 635, 636, 2, 51) := rfl
set_option maxRecDepth 100000 in
theorem mX_105 : mX 105 = (yX7_accountAt, cX7_accountAt, 7, 2, some (.object "Openbook$Account"), 2, 0, 374, 372, 373, 1, 30) := rfl
set_option maxRecDepth 100000 in
theorem mX_106 : mX 106 = (yX7_record, cX7_record, 7, 7, none, 6, 0, 812, 810, 811, 2, 55) := rfl
set_option maxRecDepth 100000 in
theorem mX_107 : mX 107 = (yX7_find, cX7_find, 7, 4, some (.object "Openbook$Deal"), 2, 0, 965, 963, 964, 1, 30) := rfl
set_option maxRecDepth 100000 in
theorem mX_108 : mX 108 = (yX7_latestOf, cX7_latestOf, 7, 5, some .int, 2, 0, 958, 956, 957, 2, 53) := rfl
set_option maxRecDepth 100000 in
theorem mX_109 : mX 109 = (yX7_reverse, cX7_reverse, 7, 6, some .int, 2, 0, 1036, 1034, 1035, 3, 77) := rfl
set_option maxRecDepth 100000 in
theorem mX_110 : mX 110 = (yX7_reprice, cX7_reprice, 7, 7, some .int, 3, 0, 1046, 1044, 1045, 3, 77) := rfl
set_option maxRecDepth 100000 in
theorem mX_111 : mX 111 = (yX7_replaceSide, cX7_replaceSide, 7, 8, some .int, 4, 0, 1050, 1048, 1049, 2, 53) := rfl
set_option maxRecDepth 100000 in
theorem mX_112 : mX 112 = (yX7_averageOf, cX7_averageOf, 7, 13, some .int, 4, 0, 1059, 1057, 1058, 2, 55) := rfl
set_option maxRecDepth 100000 in
theorem mX_113 : mX 113 = (yX7_canAllot, cX7_canAllot, 7, 7, some .boolean, 4, 0, 1564, 1562, 1563, 3, 87) := rfl
set_option maxRecDepth 100000 in
theorem mX_114 : mX 114 = (yX7_allotLots, cX7_allotLots, 7, 8, some .int, 5, 0, 1055, 1053, 1054, 3, 87) := rfl
set_option maxRecDepth 100000 in
theorem mX_115 : mX 115 = (yX7_exerciseLots, cX7_exerciseLots, 7, 8, some .int, 4, 0, 1078, 1076, 1077, 3, 82) := rfl
set_option maxRecDepth 100000 in
theorem mX_116 : mX 116 = (yX7_assign, cX7_assign, 7, 11, some .int, 2, 0, 1086, 1085, 19, 2, 52) := rfl
set_option maxRecDepth 100000 in
theorem mX_117 : mX 117 = (yX7_canConvert, cX7_canConvert, 7, 5, some .boolean, 4, 0, 1583, 1581, 1582, 2, 52) := rfl
set_option maxRecDepth 100000 in
theorem mX_118 : mX 118 = (yX7_scaled, cX7_scaled, 7, 3, some .long, 3, 1, 1115, 1114, 0, 1, 30) := rfl
set_option maxRecDepth 100000 in
theorem mX_119 : mX 119 = (yX7_convertPositions, cX7_convertPositions, 7, 17, none, 5, 0, 1112, 1110, 1111, 3, 77) := rfl
set_option maxRecDepth 100000 in
theorem mX_120 : mX 120 = (yX7_forget, cX7_forget, 7, 6, none, 2, 0, 1102, 1100, 1101, 2, 51) := rfl
set_option maxRecDepth 100000 in
theorem mX_121 : mX 121 = (yX8_init, cX8_init, 8, 4, none, 3, 0, 508, 507, 0, 1, 30) := rfl
set_option maxRecDepth 100000 in
theorem mX_122 : mX 122 = (yX8_reachable, cX8_reachable, 8, 8, some .long, 2, 0, 731, 729, 730, 3, 71) := rfl
set_option maxRecDepth 100000 in
theorem mX_123 : mX 123 = (yX8_match, cX8_match, 8, 9, none, 2, 0, 767, 765, 766, 5, 113) := rfl
set_option maxRecDepth 100000 in
theorem mX_124 : mX 124 = (yX8_settle, cX8_settle, 8, 2, none, 2, 0, 836, 835, 8, 4, 92) := rfl
set_option maxRecDepth 100000 in
theorem mX_125 : mX 125 = (yX8_gather, cX8_gather, 8, 12, some .int, 3, 0, 787, 786, 2, 2, 52) := rfl
set_option maxRecDepth 100000 in
theorem mX_126 : mX 126 = (yX8_meetsOwn, cX8_meetsOwn, 8, 6, some .boolean, 3, 0, 791, 790, 3, 1, 30) := rfl
set_option maxRecDepth 100000 in
theorem mX_127 : mX 127 = (yX8_share, cX8_share, 8, 7, none, 4, 0, 795, 794, 4, 3, 78) := rfl
set_option maxRecDepth 100000 in
theorem mX_128 : mX 128 = (yX8_giveTop, cX8_giveTop, 8, 4, some .int, 4, 0, 800, 799, 5, 2, 51) := rfl
set_option maxRecDepth 100000 in
theorem mX_129 : mX 129 = (yX8_giveShares, cX8_giveShares, 8, 8, none, 3, 0, 804, 803, 6, 2, 51) := rfl
set_option maxRecDepth 100000 in
theorem mX_130 : mX 130 = (yX8_strike, cX8_strike, 8, 7, none, 5, 0, 808, 807, 7, 3, 81) := rfl
set_option maxRecDepth 100000 in
theorem mX_131 : mX 131 = (yX8_endAuction, cX8_endAuction, 8, 3, some .boolean, 2, 0, 908, 906, 907, 5, 134) := rfl
set_option maxRecDepth 100000 in
theorem mX_132 : mX 132 = (yX8_tradeAll, cX8_tradeAll, 8, 6, none, 3, 0, 928, 927, 11, 4, 107) := rfl
set_option maxRecDepth 100000 in
theorem mX_133 : mX 133 = (yX8_firstAt, cX8_firstAt, 8, 9, some (.object "Openbook$Order"), 4, 0, 932, 931, 12, 3, 74) := rfl
set_option maxRecDepth 100000 in
theorem mX_134 : mX 134 = (yX8_comesBefore, cX8_comesBefore, 8, 3, some .boolean, 3, 0, 936, 935, 13, 2, 52) := rfl
set_option maxRecDepth 100000 in
theorem mX_135 : mX 135 = (yX8_findPrice, cX8_findPrice, 8, 13, some .int, 2, 0, 912, 910, 911, 4, 102) := rfl
set_option maxRecDepth 100000 in
theorem mX_136 : mX 136 = (yX8_isNearer, cX8_isNearer, 8, 5, some .boolean, 3, 1, 924, 923, 0, 2, 50) := rfl
set_option maxRecDepth 100000 in
theorem mX_137 : mX 137 = (yX8_volumeAt, cX8_volumeAt, 8, 3, some .int, 3, 0, 916, 914, 915, 3, 80) := rfl
set_option maxRecDepth 100000 in
theorem mX_138 : mX 138 = (yX8_sumAt, cX8_sumAt, 8, 9, some .int, 4, 0, 920, 919, 10, 2, 52) := rfl
set_option maxRecDepth 100000 in
theorem mX_139 : mX 139 = (yX9_init, cX9_init, 9, 1, none, 1, 0, 550, 549, 0, 1, 30) := rfl
set_option maxRecDepth 100000 in
theorem mX_140 : mX 140 = (yX9_restore, cX9_restore, 9, 1, none, 1, 0, 649, 647, 648, 2, 50) := rfl
set_option maxRecDepth 100000 in
theorem mX_141 : mX 141 = (yX9_forgetBid, cX9_forgetBid, 9, 1, none, 1, 0, 653, 651, 652, 1, 30) := rfl
set_option maxRecDepth 100000 in
theorem mX_142 : mX 142 = (yX10_init, cX10_init, 10, 3, none, 3, 0, 384, 383, 0, 1, 30) := rfl
set_option maxRecDepth 100000 in
theorem mX_143 : mX 143 = (yX10_begin, cX10_begin, 10, 7, none, 7, 0, 723, 721, 722, 2, 50) := rfl
set_option maxRecDepth 100000 in
theorem mX_144 : mX 144 = (yX10_standsIn, cX10_standsIn, 10, 3, some .boolean, 3, 0, 735, 733, 734, 1, 30) := rfl
set_option maxRecDepth 100000 in
theorem mX_145 : mX 145 = (yX10_allows, cX10_allows, 10, 2, some .boolean, 2, 0, 739, 737, 738, 1, 30) := rfl
set_option maxRecDepth 100000 in
theorem mX_146 : mX 146 = (yX10_isBetter, cX10_isBetter, 10, 3, some .boolean, 3, 0, 778, 776, 777, 1, 30) := rfl
set_option maxRecDepth 100000 in
theorem mX_147 : mX 147 = (yX10_addsTo, cX10_addsTo, 10, 3, some .boolean, 3, 0, 1397, 1395, 1396, 1, 30) := rfl
set_option maxRecDepth 100000 in
theorem mX_148 : mX 148 = (yX10_isDue, cX10_isDue, 10, 1, some .boolean, 1, 0, 954, 952, 953, 1, 30) := rfl
set_option maxRecDepth 100000 in
theorem mX_149 : mX 149 = (yX10_hold, cX10_hold, 10, 1, none, 1, 0, 1024, 1022, 1023, 1, 30) := rfl
set_option maxRecDepth 100000 in
theorem mX_150 : mX 150 = (yX10_showable, cX10_showable, 10, 1, some .int, 1, 0, 756, 754, 755, 2, 51) := rfl
set_option maxRecDepth 100000 in
theorem mX_151 : mX 151 = (yX10_fall, cX10_fall, 10, 2, none, 2, 0, 824, 822, 823, 1, 30) := rfl
set_option maxRecDepth 100000 in
theorem mX_152 : mX 152 = (yX11_init, cX11_init, 11, 1, none, 1, 0, 163, 162, 0, 6, 137) := rfl
set_option maxRecDepth 100000 in
theorem mX_153 : mX 153 = (yX11_limit, cX11_limit, 11, 8, some .int, 7, 0, 1269, 1267, 1268, 9, 227) := rfl
set_option maxRecDepth 100000 in
theorem mX_154 : mX 154 = (yX11_market, cX11_market, 11, 4, some .int, 4, 0, 1429, 1427, 1428, 9, 227) := rfl
set_option maxRecDepth 100000 in
theorem mX_155 : mX 155 = (yX11_iceberg, cX11_iceberg, 11, 6, some .int, 6, 0, 1436, 1434, 1435, 9, 227) := rfl
set_option maxRecDepth 100000 in
theorem mX_156 : mX 156 = (yX11_peg, cX11_peg, 11, 6, some .int, 6, 0, 1443, 1441, 1442, 9, 227) := rfl
set_option maxRecDepth 100000 in
theorem mX_157 : mX 157 = (yX11_stop, cX11_stop, 11, 6, some .int, 6, 0, 1450, 1448, 1449, 9, 227) := rfl
set_option maxRecDepth 100000 in
theorem mX_158 : mX 158 = (yX11_quote, cX11_quote, 11, 7, some .int, 6, 0, 1460, 1458, 1459, 9, 227) := rfl
set_option maxRecDepth 100000 in
theorem mX_159 : mX 159 = (yX11_cancel, cX11_cancel, 11, 3, some .int, 2, 0, 1468, 1466, 1467, 9, 227) := rfl
set_option maxRecDepth 100000 in
theorem mX_160 : mX 160 = (yX11_setRule, cX11_setRule, 11, 5, some .int, 5, 0, 1480, 1478, 1479, 9, 227) := rfl
set_option maxRecDepth 100000 in
theorem mX_161 : mX 161 = (yX11_setBand, cX11_setBand, 11, 3, some .int, 3, 0, 1487, 1485, 1486, 9, 227) := rfl
set_option maxRecDepth 100000 in
theorem mX_162 : mX 162 = (yX11_setProtection, cX11_setProtection, 11, 3, some .int, 3, 0, 1494, 1492, 1493, 9, 227) := rfl
set_option maxRecDepth 100000 in
theorem mX_163 : mX 163 = (yX11_setLimit, cX11_setLimit, 11, 4, some .int, 4, 0, 1501, 1499, 1500, 9, 227) := rfl
set_option maxRecDepth 100000 in
theorem mX_164 : mX 164 = (yX11_auction, cX11_auction, 11, 5, some .int, 5, 0, 1508, 1506, 1507, 9, 227) := rfl
set_option maxRecDepth 100000 in
theorem mX_165 : mX 165 = (yX11_pass, cX11_pass, 11, 2, some .int, 2, 0, 1515, 1513, 1514, 9, 227) := rfl
set_option maxRecDepth 100000 in
theorem mX_166 : mX 166 = (yX11_endDay, cX11_endDay, 11, 1, some .int, 1, 0, 1522, 1520, 1521, 9, 227) := rfl
set_option maxRecDepth 100000 in
theorem mX_167 : mX 167 = (yX11_bust, cX11_bust, 11, 2, some .int, 2, 0, 1533, 1531, 1532, 9, 227) := rfl
set_option maxRecDepth 100000 in
theorem mX_168 : mX 168 = (yX11_adjust, cX11_adjust, 11, 4, some .int, 3, 0, 1546, 1544, 1545, 9, 227) := rfl
set_option maxRecDepth 100000 in
theorem mX_169 : mX 169 = (yX11_giveUp, cX11_giveUp, 11, 5, some .int, 4, 0, 1553, 1551, 1552, 9, 227) := rfl
set_option maxRecDepth 100000 in
theorem mX_170 : mX 170 = (yX11_allot, cX11_allot, 11, 5, some .int, 5, 0, 1560, 1558, 1559, 9, 227) := rfl
set_option maxRecDepth 100000 in
theorem mX_171 : mX 171 = (yX11_exercise, cX11_exercise, 11, 4, some .int, 4, 0, 1571, 1569, 1570, 9, 227) := rfl
set_option maxRecDepth 100000 in
theorem mX_172 : mX 172 = (yX11_convert, cX11_convert, 11, 4, some .int, 4, 0, 1579, 1577, 1578, 9, 227) := rfl
set_option maxRecDepth 100000 in
theorem mX_173 : mX 173 = (yX11_setMove, cX11_setMove, 11, 4, some .int, 4, 0, 1592, 1590, 1591, 9, 227) := rfl
set_option maxRecDepth 100000 in
theorem mX_174 : mX 174 = (yX11_setHaircut, cX11_setHaircut, 11, 2, some .int, 2, 0, 1599, 1597, 1598, 9, 227) := rfl
set_option maxRecDepth 100000 in
theorem mX_175 : mX 175 = (yX11_pay, cX11_pay, 11, 4, some .int, 4, 0, 1606, 1604, 1605, 9, 227) := rfl
set_option maxRecDepth 100000 in
theorem mX_176 : mX 176 = (yX11_setFund, cX11_setFund, 11, 3, some .int, 3, 0, 1620, 1618, 1619, 9, 227) := rfl
set_option maxRecDepth 100000 in
theorem mX_177 : mX 177 = (yX11_fail, cX11_fail, 11, 2, some .int, 2, 0, 1628, 1626, 1627, 9, 227) := rfl
set_option maxRecDepth 100000 in
theorem mX_178 : mX 178 = (yX11_bid, cX11_bid, 11, 3, some .int, 3, 0, 1639, 1637, 1638, 9, 227) := rfl
set_option maxRecDepth 100000 in
theorem mX_179 : mX 179 = (yX11_closeOut, cX11_closeOut, 11, 1, some .int, 1, 0, 1646, 1644, 1645, 9, 227) := rfl
set_option maxRecDepth 100000 in
theorem mX_180 : mX 180 = (yX11_keep, cX11_keep, 11, 1, some .int, 1, 0, 697, 695, 696, 1, 30) := rfl
set_option maxRecDepth 100000 in
theorem mX_181 : mX 181 = (yX11_failOver, cX11_failOver, 11, 3, some .int, 1, 0, 701, 699, 700, 9, 227) := rfl
set_option maxRecDepth 100000 in
theorem mX_182 : mX 182 = (yX11_events, cX11_events, 11, 1, some .int, 1, 0, 1246, 1244, 1245, 1, 30) := rfl
set_option maxRecDepth 100000 in
theorem mX_183 : mX 183 = (yX11_positionByLog, cX11_positionByLog, 11, 3, some .int, 3, 0, 1653, 1651, 1652, 9, 227) := rfl
set_option maxRecDepth 100000 in
theorem mX_184 : mX 184 = (yX11_bestByLog, cX11_bestByLog, 11, 3, some .int, 3, 0, 1660, 1658, 1659, 9, 227) := rfl
set_option maxRecDepth 100000 in
theorem mX_185 : mX 185 = (yX11_best, cX11_best, 11, 3, some .int, 3, 0, 1668, 1666, 1667, 7, 120) := rfl
set_option maxRecDepth 100000 in
theorem mX_186 : mX 186 = (yX11_shown, cX11_shown, 11, 4, some .int, 4, 0, 1675, 1673, 1674, 7, 120) := rfl
set_option maxRecDepth 100000 in
theorem mX_187 : mX 187 = (yX11_stateOf, cX11_stateOf, 11, 3, some .int, 2, 0, 1250, 1248, 1249, 2, 55) := rfl
set_option maxRecDepth 100000 in
theorem mX_188 : mX 188 = (yX11_rest, cX11_rest, 11, 3, some .int, 2, 0, 1686, 1684, 1685, 6, 100) := rfl
set_option maxRecDepth 100000 in
theorem mX_189 : mX 189 = (yX11_priceOf, cX11_priceOf, 11, 3, some .int, 2, 0, 1693, 1691, 1692, 6, 100) := rfl
set_option maxRecDepth 100000 in
theorem mX_190 : mX 190 = (yX11_last, cX11_last, 11, 4, some .int, 3, 0, 1700, 1698, 1699, 7, 120) := rfl
set_option maxRecDepth 100000 in
theorem mX_191 : mX 191 = (yX11_endOf, cX11_endOf, 11, 3, some .int, 2, 0, 1707, 1705, 1706, 7, 120) := rfl
set_option maxRecDepth 100000 in
theorem mX_192 : mX 192 = (yX11_indicated, cX11_indicated, 11, 5, some .int, 3, 0, 1714, 1712, 1713, 7, 134) := rfl
set_option maxRecDepth 100000 in
theorem mX_193 : mX 193 = (yX11_trades, cX11_trades, 11, 1, some .int, 1, 0, 1255, 1253, 1254, 1, 30) := rfl
set_option maxRecDepth 100000 in
theorem mX_194 : mX 194 = (yX11_trade, cX11_trade, 11, 4, some .int, 3, 0, 1723, 1721, 1722, 7, 122) := rfl
set_option maxRecDepth 100000 in
theorem mX_195 : mX 195 = (yX11_position, cX11_position, 11, 3, some .int, 3, 0, 1734, 1732, 1733, 7, 120) := rfl
set_option maxRecDepth 100000 in
theorem mX_196 : mX 196 = (yX11_cash, cX11_cash, 11, 2, some .long, 2, 0, 1741, 1739, 1740, 7, 120) := rfl
set_option maxRecDepth 100000 in
theorem mX_197 : mX 197 = (yX11_quoted, cX11_quoted, 11, 2, some .int, 2, 0, 1748, 1746, 1747, 7, 120) := rfl
set_option maxRecDepth 100000 in
theorem mX_198 : mX 198 = (yX11_member, cX11_member, 11, 3, some .long, 3, 0, 1755, 1753, 1754, 7, 168) := rfl
set_option maxRecDepth 100000 in
theorem mX_199 : mX 199 = (yX11_stake, cX11_stake, 11, 1, some .int, 1, 0, 1259, 1257, 1258, 1, 30) := rfl
set_option maxRecDepth 100000 in
theorem mX_200 : mX 200 = (yX11_needPlace, cX11_needPlace, 11, 1, none, 1, 1, 1281, 1280, 0, 6, 100) := rfl
set_option maxRecDepth 100000 in
theorem mX_201 : mX 201 = (yX11_needRange, cX11_needRange, 11, 1, none, 1, 1, 1358, 1357, 0, 6, 100) := rfl
set_option maxRecDepth 100000 in
theorem mX_202 : mX 202 = (yX11_needState, cX11_needState, 11, 1, none, 1, 1, 1402, 1401, 0, 6, 100) := rfl
set_option maxRecDepth 100000 in
theorem mX_203 : mX 203 = (yX11_isWithin, cX11_isWithin, 11, 3, some .boolean, 3, 1, 1275, 1274, 0, 1, 30) := rfl
set_option maxRecDepth 100000 in
theorem mX_204 : mX 204 = (yX11_isTrader, cX11_isTrader, 11, 1, some .boolean, 1, 1, 1272, 1271, 0, 2, 52) := rfl
set_option maxRecDepth 100000 in
theorem mX_205 : mX 205 = (yX11_isBook, cX11_isBook, 11, 1, some .boolean, 1, 1, 1278, 1277, 0, 2, 52) := rfl
set_option maxRecDepth 100000 in
theorem mX_206 : mX 206 = (yX11_isContract, cX11_isContract, 11, 1, some .boolean, 1, 1, 1453, 1452, 0, 2, 52) := rfl
set_option maxRecDepth 100000 in
theorem mX_207 : mX 207 = (yX11_isMember, cX11_isMember, 11, 1, some .boolean, 1, 1, 1609, 1608, 0, 2, 52) := rfl
set_option maxRecDepth 100000 in
theorem mX_208 : mX 208 = (yX11_isQuantity, cX11_isQuantity, 11, 1, some .boolean, 1, 1, 1353, 1352, 0, 2, 52) := rfl
set_option maxRecDepth 100000 in
theorem mX_209 : mX 209 = (yX11_keptDeal, cX11_keptDeal, 11, 3, some (.object "Openbook$Deal"), 2, 0, 1537, 1536, 37, 6, 100) := rfl
set_option maxRecDepth 100000 in
theorem mX_210 : mX 210 = (yX11_enter, cX11_enter, 11, 9, some .int, 8, 0, 1422, 1421, 36, 1, 30) := rfl
set_option maxRecDepth 100000 in
theorem mX_211 : mX 211 = (yX11_play, cX11_play, 11, 11, some .int, 3, 0, 706, 705, 0, 8, 197) := rfl
set_option maxRecDepth 100000 in
theorem mX_212 : mX 212 = (yX12_init, cX12_init, 12, 1, none, 1, 0, 1764, 1763, 0, 2, 51) := rfl
set_option maxRecDepth 100000 in
theorem mX_213 : mX 213 = (yX12_thrown, cX12_thrown, 12, 1, some .int, 1, 0, 1987, 1985, 1986, 1, 30) := rfl
set_option maxRecDepth 100000 in
theorem mX_214 : mX 214 = (yX12_resets, cX12_resets, 12, 2, none, 1, 0, 1769, 1768, 38, 1, 30) := rfl
set_option maxRecDepth 100000 in
theorem mX_215 : mX 215 = (yX12_in, cX12_in, 12, 3, some .boolean, 3, 1, 2009, 2008, 0, 1, 30) := rfl
set_option maxRecDepth 100000 in
theorem mX_216 : mX 216 = (yX12_abs, cX12_abs, 12, 1, some .int, 1, 1, 2019, 2018, 0, 1, 30) := rfl
set_option maxRecDepth 100000 in
theorem mX_217 : mX 217 = (yX12_floor, cX12_floor, 12, 4, some .long, 2, 1, 2324, 2323, 0, 1, 30) := rfl
set_option maxRecDepth 100000 in
theorem mX_218 : mX 218 = (yX12_isOpen, cX12_isOpen, 12, 2, some .boolean, 2, 0, 2046, 2045, 48, 1, 30) := rfl
set_option maxRecDepth 100000 in
theorem mX_219 : mX 219 = (yX12_isPrice, cX12_isPrice, 12, 2, some .boolean, 2, 1, 2012, 2011, 0, 2, 52) := rfl
set_option maxRecDepth 100000 in
theorem mX_220 : mX 220 = (yX12_isNear, cX12_isNear, 12, 3, some .boolean, 3, 0, 2061, 2060, 51, 2, 50) := rfl
set_option maxRecDepth 100000 in
theorem mX_221 : mX 221 = (yX12_contractOf, cX12_contractOf, 12, 2, some .int, 2, 1, 2034, 2033, 0, 1, 30) := rfl
set_option maxRecDepth 100000 in
theorem mX_222 : mX 222 = (yX12_live, cX12_live, 12, 3, some .int, 1, 0, 2027, 2026, 44, 1, 30) := rfl
set_option maxRecDepth 100000 in
theorem mX_223 : mX 223 = (yX12_placeOf, cX12_placeOf, 12, 4, some .int, 2, 0, 2197, 2196, 85, 1, 30) := rfl
set_option maxRecDepth 100000 in
theorem mX_224 : mX 224 = (yX12_newOrder, cX12_newOrder, 12, 9, some .int, 8, 0, 2065, 2064, 52, 2, 50) := rfl
set_option maxRecDepth 100000 in
theorem mX_225 : mX 225 = (yX12_newTurn, cX12_newTurn, 12, 2, none, 2, 0, 2161, 2160, 76, 1, 30) := rfl
set_option maxRecDepth 100000 in
theorem mX_226 : mX 226 = (yX12_showsNow, cX12_showsNow, 12, 2, some .int, 2, 0, 2109, 2108, 63, 1, 30) := rfl
set_option maxRecDepth 100000 in
theorem mX_227 : mX 227 = (yX12_showsAnew, cX12_showsAnew, 12, 2, none, 2, 0, 2157, 2156, 75, 1, 30) := rfl
set_option maxRecDepth 100000 in
theorem mX_228 : mX 228 = (yX12_comes, cX12_comes, 12, 2, none, 2, 0, 2169, 2168, 78, 2, 51) := rfl
set_option maxRecDepth 100000 in
theorem mX_229 : mX 229 = (yX12_restsOf, cX12_restsOf, 12, 8, some .int, 4, 0, 2042, 2041, 47, 2, 51) := rfl
set_option maxRecDepth 100000 in
theorem mX_230 : mX 230 = (yX12_isOver, cX12_isOver, 12, 9, some .boolean, 5, 0, 2038, 2037, 46, 3, 78) := rfl
set_option maxRecDepth 100000 in
theorem mX_231 : mX 231 = (yX12_isRefused, cX12_isRefused, 12, 6, some .boolean, 4, 0, 2031, 2030, 45, 4, 106) := rfl
set_option maxRecDepth 100000 in
theorem mX_232 : mX 232 = (yX12_holds, cX12_holds, 12, 5, none, 5, 0, 2149, 2148, 73, 2, 51) := rfl
set_option maxRecDepth 100000 in
theorem mX_233 : mX 233 = (yX12_deals, cX12_deals, 12, 7, none, 6, 0, 2145, 2144, 72, 3, 75) := rfl
set_option maxRecDepth 100000 in
theorem mX_234 : mX 234 = (yX12_isKept, cX12_isKept, 12, 2, some .boolean, 2, 0, 2257, 2256, 100, 1, 30) := rfl
set_option maxRecDepth 100000 in
theorem mX_235 : mX 235 = (yX12_latest, cX12_latest, 12, 4, some .int, 2, 0, 2253, 2252, 99, 2, 51) := rfl
set_option maxRecDepth 100000 in
theorem mX_236 : mX 236 = (yX12_falls, cX12_falls, 12, 4, none, 4, 0, 2153, 2152, 74, 1, 30) := rfl
set_option maxRecDepth 100000 in
theorem mX_237 : mX 237 = (yX12_guards, cX12_guards, 12, 4, none, 2, 0, 2165, 2164, 77, 1, 30) := rfl
set_option maxRecDepth 100000 in
theorem mX_238 : mX 238 = (yX12_isThere, cX12_isThere, 12, 4, some .boolean, 4, 0, 2054, 2053, 50, 1, 30) := rfl
set_option maxRecDepth 100000 in
theorem mX_239 : mX 239 = (yX12_isBetter, cX12_isBetter, 12, 3, some .boolean, 3, 1, 2057, 2056, 0, 1, 30) := rfl
set_option maxRecDepth 100000 in
theorem mX_240 : mX 240 = (yX12_bestOf, cX12_bestOf, 12, 6, some .int, 4, 0, 2081, 2080, 56, 2, 53) := rfl
set_option maxRecDepth 100000 in
theorem mX_241 : mX 241 = (yX12_isAt, cX12_isAt, 12, 5, some .boolean, 5, 0, 2093, 2092, 59, 2, 53) := rfl
set_option maxRecDepth 100000 in
theorem mX_242 : mX 242 = (yX12_behindTurn, cX12_behindTurn, 12, 8, some .int, 5, 0, 2117, 2116, 65, 3, 77) := rfl
set_option maxRecDepth 100000 in
theorem mX_243 : mX 243 = (yX12_clearsGets, cX12_clearsGets, 12, 2, none, 1, 0, 2105, 2104, 62, 1, 30) := rfl
set_option maxRecDepth 100000 in
theorem mX_244 : mX 244 = (yX12_least, cX12_least, 12, 3, some .int, 3, 0, 2121, 2120, 66, 1, 30) := rfl
set_option maxRecDepth 100000 in
theorem mX_245 : mX 245 = (yX12_sharesByTurns, cX12_sharesByTurns, 12, 7, none, 5, 0, 2113, 2112, 64, 4, 104) := rfl
set_option maxRecDepth 100000 in
theorem mX_246 : mX 246 = (yX12_sharesBySize, cX12_sharesBySize, 12, 7, none, 5, 0, 2125, 2124, 67, 4, 106) := rfl
set_option maxRecDepth 100000 in
theorem mX_247 : mX 247 = (yX12_nextBySize, cX12_nextBySize, 12, 10, some .int, 6, 0, 2129, 2128, 68, 3, 77) := rfl
set_option maxRecDepth 100000 in
theorem mX_248 : mX 248 = (yX12_sharesOut, cX12_sharesOut, 12, 12, none, 5, 0, 2133, 2132, 69, 4, 104) := rfl
set_option maxRecDepth 100000 in
theorem mX_249 : mX 249 = (yX12_tradesWith, cX12_tradesWith, 12, 7, none, 4, 0, 2141, 2140, 71, 4, 101) := rfl
set_option maxRecDepth 100000 in
theorem mX_250 : mX 250 = (yX12_served, cX12_served, 12, 9, some .int, 4, 0, 2137, 2136, 70, 1, 30) := rfl
set_option maxRecDepth 100000 in
theorem mX_251 : mX 251 = (yX12_servesAll, cX12_servesAll, 12, 6, none, 3, 0, 2101, 2100, 61, 5, 135) := rfl
set_option maxRecDepth 100000 in
theorem mX_252 : mX 252 = (yX12_hasOwn, cX12_hasOwn, 12, 5, some .boolean, 3, 0, 2089, 2088, 58, 3, 77) := rfl
set_option maxRecDepth 100000 in
theorem mX_253 : mX 253 = (yX12_removesOwn, cX12_removesOwn, 12, 4, none, 3, 0, 2097, 2096, 60, 3, 77) := rfl
set_option maxRecDepth 100000 in
theorem mX_254 : mX 254 = (yX12_beginsAuction, cX12_beginsAuction, 12, 4, none, 4, 0, 2085, 2084, 57, 1, 30) := rfl
set_option maxRecDepth 100000 in
theorem mX_255 : mX 255 = (yX12_looks, cX12_looks, 12, 4, some .boolean, 2, 0, 2077, 2076, 55, 6, 160) := rfl
set_option maxRecDepth 100000 in
theorem mX_256 : mX 256 = (yX12_matches, cX12_matches, 12, 3, none, 2, 0, 2073, 2072, 54, 7, 183) := rfl
set_option maxRecDepth 100000 in
theorem mX_257 : mX 257 = (yX12_enters, cX12_enters, 12, 2, none, 2, 0, 2069, 2068, 53, 8, 205) := rfl
set_option maxRecDepth 100000 in
theorem mX_258 : mX 258 = (yX12_readyStop, cX12_readyStop, 12, 4, some .int, 1, 0, 2249, 2248, 98, 2, 51) := rfl
set_option maxRecDepth 100000 in
theorem mX_259 : mX 259 = (yX12_firstOf, cX12_firstOf, 12, 7, some .int, 3, 0, 2269, 2268, 103, 3, 78) := rfl
set_option maxRecDepth 100000 in
theorem mX_260 : mX 260 = (yX12_canDeal, cX12_canDeal, 12, 5, some .boolean, 5, 0, 2273, 2272, 104, 3, 73) := rfl
set_option maxRecDepth 100000 in
theorem mX_261 : mX 261 = (yX12_falls1, cX12_falls1, 12, 3, none, 3, 0, 2277, 2276, 105, 2, 53) := rfl
set_option maxRecDepth 100000 in
theorem mX_262 : mX 262 = (yX12_joins, cX12_joins, 12, 12, some .boolean, 3, 0, 2265, 2264, 102, 4, 104) := rfl
set_option maxRecDepth 100000 in
theorem mX_263 : mX 263 = (yX12_chains, cX12_chains, 12, 11, some .boolean, 2, 0, 2281, 2280, 106, 4, 104) := rfl
set_option maxRecDepth 100000 in
theorem mX_264 : mX 264 = (yX12_combines, cX12_combines, 12, 1, some .boolean, 1, 0, 2261, 2260, 101, 5, 135) := rfl
set_option maxRecDepth 100000 in
theorem mX_265 : mX 265 = (yX12_pegs, cX12_pegs, 12, 5, none, 2, 0, 2289, 2288, 108, 3, 78) := rfl
set_option maxRecDepth 100000 in
theorem mX_266 : mX 266 = (yX12_pegsAll, cX12_pegsAll, 12, 5, none, 1, 0, 2285, 2284, 107, 4, 102) := rfl
set_option maxRecDepth 100000 in
theorem mX_267 : mX 267 = (yX12_works, cX12_works, 12, 3, none, 1, 0, 2245, 2244, 97, 8, 205) := rfl
set_option maxRecDepth 100000 in
theorem mX_268 : mX 268 = (yX12_wants, cX12_wants, 12, 6, some .int, 4, 0, 2233, 2232, 94, 2, 53) := rfl
set_option maxRecDepth 100000 in
theorem mX_269 : mX 269 = (yX12_finds, cX12_finds, 12, 11, none, 2, 0, 2229, 2228, 93, 3, 78) := rfl
set_option maxRecDepth 100000 in
theorem mX_270 : mX 270 = (yX12_firstIn, cX12_firstIn, 12, 8, some .int, 4, 0, 2241, 2240, 96, 2, 53) := rfl
set_option maxRecDepth 100000 in
theorem mX_271 : mX 271 = (yX12_tradesAll, cX12_tradesAll, 12, 6, none, 3, 0, 2237, 2236, 95, 4, 101) := rfl
set_option maxRecDepth 100000 in
theorem mX_272 : mX 272 = (yX12_endsAuction, cX12_endsAuction, 12, 3, none, 2, 0, 2225, 2224, 92, 9, 227) := rfl
set_option maxRecDepth 100000 in
theorem mX_273 : mX 273 = (yX12_hasQuote, cX12_hasQuote, 12, 6, some .boolean, 4, 0, 2221, 2220, 91, 1, 30) := rfl
set_option maxRecDepth 100000 in
theorem mX_274 : mX 274 = (yX12_passes, cX12_passes, 12, 5, none, 2, 0, 2217, 2216, 90, 10, 249) := rfl
set_option maxRecDepth 100000 in
theorem mX_275 : mX 275 = (yX12_net, cX12_net, 12, 3, some .long, 3, 0, 2360, 2359, 123, 1, 30) := rfl
set_option maxRecDepth 100000 in
theorem mX_276 : mX 276 = (yX12_risk, cX12_risk, 12, 8, some .long, 2, 0, 2356, 2355, 122, 2, 52) := rfl
set_option maxRecDepth 100000 in
theorem mX_277 : mX 277 = (yX12_worth, cX12_worth, 12, 5, some .long, 2, 0, 2370, 2369, 125, 2, 52) := rfl
set_option maxRecDepth 100000 in
theorem mX_278 : mX 278 = (yX12_value, cX12_value, 12, 2, some .long, 2, 0, 2366, 2365, 124, 3, 76) := rfl
set_option maxRecDepth 100000 in
theorem mX_279 : mX 279 = (yX12_call, cX12_call, 12, 9, some .long, 4, 0, 2352, 2351, 121, 4, 97) := rfl
set_option maxRecDepth 100000 in
theorem mX_280 : mX 280 = (yX12_isAccount, cX12_isAccount, 12, 1, some .boolean, 1, 1, 2006, 2005, 0, 2, 52) := rfl
set_option maxRecDepth 100000 in
theorem mX_281 : mX 281 = (yX12_isQuantity, cX12_isQuantity, 12, 2, some .boolean, 2, 0, 2016, 2015, 42, 2, 52) := rfl
set_option maxRecDepth 100000 in
theorem mX_282 : mX 282 = (yX12_isShut, cX12_isShut, 12, 4, some .boolean, 4, 0, 2023, 2022, 43, 5, 131) := rfl
set_option maxRecDepth 100000 in
theorem mX_283 : mX 283 = (yX12_isEnough, cX12_isEnough, 12, 9, some .boolean, 6, 0, 2050, 2049, 49, 3, 72) := rfl
set_option maxRecDepth 100000 in
theorem mX_284 : mX 284 = (yX12_doLimit, cX12_doLimit, 12, 10, some .int, 7, 0, 2003, 2002, 41, 9, 226) := rfl
set_option maxRecDepth 100000 in
theorem mX_285 : mX 285 = (yX12_doMarket, cX12_doMarket, 12, 5, some .int, 4, 0, 2173, 2172, 79, 9, 226) := rfl
set_option maxRecDepth 100000 in
theorem mX_286 : mX 286 = (yX12_doIceberg, cX12_doIceberg, 12, 7, some .int, 6, 0, 2177, 2176, 80, 9, 226) := rfl
set_option maxRecDepth 100000 in
theorem mX_287 : mX 287 = (yX12_doPeg, cX12_doPeg, 12, 7, some .int, 6, 0, 2181, 2180, 81, 6, 154) := rfl
set_option maxRecDepth 100000 in
theorem mX_288 : mX 288 = (yX12_doStop, cX12_doStop, 12, 7, some .int, 6, 0, 2185, 2184, 82, 6, 154) := rfl
set_option maxRecDepth 100000 in
theorem mX_289 : mX 289 = (yX12_doQuote, cX12_doQuote, 12, 7, some .int, 6, 0, 2189, 2188, 83, 9, 226) := rfl
set_option maxRecDepth 100000 in
theorem mX_290 : mX 290 = (yX12_doCancel, cX12_doCancel, 12, 3, some .int, 2, 0, 2193, 2192, 84, 2, 53) := rfl
set_option maxRecDepth 100000 in
theorem mX_291 : mX 291 = (yX12_doRule, cX12_doRule, 12, 6, some .int, 5, 0, 2201, 2200, 86, 2, 52) := rfl
set_option maxRecDepth 100000 in
theorem mX_292 : mX 292 = (yX12_puts, cX12_puts, 12, 7, some .int, 6, 0, 2205, 2204, 87, 1, 30) := rfl
set_option maxRecDepth 100000 in
theorem mX_293 : mX 293 = (yX12_doAuction, cX12_doAuction, 12, 5, some .int, 5, 0, 2209, 2208, 88, 2, 53) := rfl
set_option maxRecDepth 100000 in
theorem mX_294 : mX 294 = (yX12_doPass, cX12_doPass, 12, 2, some .int, 2, 0, 2213, 2212, 89, 11, 273) := rfl
set_option maxRecDepth 100000 in
theorem mX_295 : mX 295 = (yX12_doEndDay, cX12_doEndDay, 12, 4, some .int, 1, 0, 2293, 2292, 109, 2, 51) := rfl
set_option maxRecDepth 100000 in
theorem mX_296 : mX 296 = (yX12_undoes, cX12_undoes, 12, 4, none, 4, 0, 2301, 2300, 111, 3, 75) := rfl
set_option maxRecDepth 100000 in
theorem mX_297 : mX 297 = (yX12_doBust, cX12_doBust, 12, 6, some .int, 2, 0, 2297, 2296, 110, 4, 98) := rfl
set_option maxRecDepth 100000 in
theorem mX_298 : mX 298 = (yX12_doAdjust, cX12_doAdjust, 12, 5, some .int, 3, 0, 2305, 2304, 112, 3, 74) := rfl
set_option maxRecDepth 100000 in
theorem mX_299 : mX 299 = (yX12_doGiveUp, cX12_doGiveUp, 12, 7, some .int, 4, 0, 2309, 2308, 113, 4, 98) := rfl
set_option maxRecDepth 100000 in
theorem mX_300 : mX 300 = (yX12_average, cX12_average, 12, 10, some .int, 4, 0, 2321, 2320, 116, 2, 53) := rfl
set_option maxRecDepth 100000 in
theorem mX_301 : mX 301 = (yX12_doAllot, cX12_doAllot, 12, 6, some .int, 5, 0, 2317, 2316, 115, 3, 82) := rfl
set_option maxRecDepth 100000 in
theorem mX_302 : mX 302 = (yX12_doExercise, cX12_doExercise, 12, 7, some .int, 4, 0, 2328, 2327, 117, 3, 75) := rfl
set_option maxRecDepth 100000 in
theorem mX_303 : mX 303 = (yX12_drawn, cX12_drawn, 12, 6, some .int, 2, 0, 2332, 2331, 118, 1, 30) := rfl
set_option maxRecDepth 100000 in
theorem mX_304 : mX 304 = (yX12_hasContract, cX12_hasContract, 12, 2, some .boolean, 2, 1, 2341, 2340, 0, 2, 51) := rfl
set_option maxRecDepth 100000 in
theorem mX_305 : mX 305 = (yX12_doConvert, cX12_doConvert, 12, 14, some .int, 4, 0, 2336, 2335, 119, 3, 72) := rfl
set_option maxRecDepth 100000 in
theorem mX_306 : mX 306 = (yX12_converted, cX12_converted, 12, 4, some .int, 3, 1, 2344, 2343, 0, 1, 30) := rfl
set_option maxRecDepth 100000 in
theorem mX_307 : mX 307 = (yX12_callOf, cX12_callOf, 12, 2, some .long, 2, 0, 2375, 2374, 126, 5, 125) := rfl
set_option maxRecDepth 100000 in
theorem mX_308 : mX 308 = (yX12_doPay, cX12_doPay, 12, 4, some .long, 4, 0, 2348, 2347, 120, 6, 146) := rfl
set_option maxRecDepth 100000 in
theorem mX_309 : mX 309 = (yX12_doFund, cX12_doFund, 12, 4, some .int, 3, 0, 2379, 2378, 127, 2, 52) := rfl
set_option maxRecDepth 100000 in
theorem mX_310 : mX 310 = (yX12_doFail, cX12_doFail, 12, 4, some .int, 2, 0, 2383, 2382, 128, 6, 146) := rfl
set_option maxRecDepth 100000 in
theorem mX_311 : mX 311 = (yX12_doBid, cX12_doBid, 12, 5, some .int, 3, 0, 2387, 2386, 129, 2, 52) := rfl
set_option maxRecDepth 100000 in
theorem mX_312 : mX 312 = (yX12_shares, cX12_shares, 12, 12, some .long, 2, 0, 2415, 2414, 136, 1, 30) := rfl
set_option maxRecDepth 100000 in
theorem mX_313 : mX 313 = (yX12_winner, cX12_winner, 12, 3, some .int, 1, 0, 2395, 2394, 131, 1, 30) := rfl
set_option maxRecDepth 100000 in
theorem mX_314 : mX 314 = (yX12_covers, cX12_covers, 12, 5, none, 4, 0, 2407, 2406, 134, 1, 30) := rfl
set_option maxRecDepth 100000 in
theorem mX_315 : mX 315 = (yX12_upTo, cX12_upTo, 12, 3, some .long, 2, 0, 2403, 2402, 133, 1, 30) := rfl
set_option maxRecDepth 100000 in
theorem mX_316 : mX 316 = (yX12_doCloseOut, cX12_doCloseOut, 12, 7, some .int, 1, 0, 2391, 2390, 130, 4, 122) := rfl
set_option maxRecDepth 100000 in
theorem mX_317 : mX 317 = (yX12_coversAll, cX12_coversAll, 12, 16, none, 3, 0, 2399, 2398, 132, 3, 87) := rfl
set_option maxRecDepth 100000 in
theorem mX_318 : mX 318 = (yX12_coversByFunds, cX12_coversByFunds, 12, 7, none, 4, 0, 2411, 2410, 135, 2, 61) := rfl
set_option maxRecDepth 100000 in
theorem mX_319 : mX 319 = (yX12_does, cX12_does, 12, 8, some .long, 8, 0, 1999, 1998, 40, 12, 294) := rfl
set_option maxRecDepth 100000 in
theorem mX_320 : mX 320 = (yX12_doesMore, cX12_doesMore, 12, 7, some .long, 6, 0, 2313, 2312, 114, 7, 169) := rfl
set_option maxRecDepth 100000 in
theorem mX_321 : mX 321 = (yX12_act, cX12_act, 12, 11, some .int, 8, 0, 1995, 1994, 39, 13, 321) := rfl
set_option maxRecDepth 100000 in
theorem mX_322 : mX 322 = (yX12_limit, cX12_limit, 12, 7, some .int, 7, 0, 1991, 1989, 1990, 14, 351) := rfl
set_option maxRecDepth 100000 in
theorem mX_323 : mX 323 = (yX12_market, cX12_market, 12, 4, some .int, 4, 0, 2419, 2417, 2418, 14, 351) := rfl
set_option maxRecDepth 100000 in
theorem mX_324 : mX 324 = (yX12_iceberg, cX12_iceberg, 12, 6, some .int, 6, 0, 2423, 2421, 2422, 14, 351) := rfl
set_option maxRecDepth 100000 in
theorem mX_325 : mX 325 = (yX12_peg, cX12_peg, 12, 6, some .int, 6, 0, 2427, 2425, 2426, 14, 351) := rfl
set_option maxRecDepth 100000 in
theorem mX_326 : mX 326 = (yX12_stop, cX12_stop, 12, 6, some .int, 6, 0, 2431, 2429, 2430, 14, 351) := rfl
set_option maxRecDepth 100000 in
theorem mX_327 : mX 327 = (yX12_quote, cX12_quote, 12, 6, some .int, 6, 0, 2435, 2433, 2434, 14, 351) := rfl
set_option maxRecDepth 100000 in
theorem mX_328 : mX 328 = (yX12_cancel, cX12_cancel, 12, 2, some .int, 2, 0, 2439, 2437, 2438, 14, 351) := rfl
set_option maxRecDepth 100000 in
theorem mX_329 : mX 329 = (yX12_setRule, cX12_setRule, 12, 5, some .int, 5, 0, 2443, 2441, 2442, 14, 351) := rfl
set_option maxRecDepth 100000 in
theorem mX_330 : mX 330 = (yX12_setBand, cX12_setBand, 12, 3, some .int, 3, 0, 2447, 2445, 2446, 14, 351) := rfl
set_option maxRecDepth 100000 in
theorem mX_331 : mX 331 = (yX12_setProtection, cX12_setProtection, 12, 3, some .int, 3, 0, 2451, 2449, 2450, 14, 351) := rfl
set_option maxRecDepth 100000 in
theorem mX_332 : mX 332 = (yX12_setLimit, cX12_setLimit, 12, 4, some .int, 4, 0, 2455, 2453, 2454, 14, 351) := rfl
set_option maxRecDepth 100000 in
theorem mX_333 : mX 333 = (yX12_auction, cX12_auction, 12, 5, some .int, 5, 0, 2459, 2457, 2458, 14, 351) := rfl
set_option maxRecDepth 100000 in
theorem mX_334 : mX 334 = (yX12_pass, cX12_pass, 12, 2, some .int, 2, 0, 2463, 2461, 2462, 14, 351) := rfl
set_option maxRecDepth 100000 in
theorem mX_335 : mX 335 = (yX12_endDay, cX12_endDay, 12, 1, some .int, 1, 0, 2467, 2465, 2466, 14, 351) := rfl
set_option maxRecDepth 100000 in
theorem mX_336 : mX 336 = (yX12_bust, cX12_bust, 12, 2, some .int, 2, 0, 2471, 2469, 2470, 14, 351) := rfl
set_option maxRecDepth 100000 in
theorem mX_337 : mX 337 = (yX12_adjust, cX12_adjust, 12, 3, some .int, 3, 0, 2475, 2473, 2474, 14, 351) := rfl
set_option maxRecDepth 100000 in
theorem mX_338 : mX 338 = (yX12_giveUp, cX12_giveUp, 12, 4, some .int, 4, 0, 2479, 2477, 2478, 14, 351) := rfl
set_option maxRecDepth 100000 in
theorem mX_339 : mX 339 = (yX12_allot, cX12_allot, 12, 5, some .int, 5, 0, 2483, 2481, 2482, 14, 351) := rfl
set_option maxRecDepth 100000 in
theorem mX_340 : mX 340 = (yX12_exercise, cX12_exercise, 12, 4, some .int, 4, 0, 2487, 2485, 2486, 14, 351) := rfl
set_option maxRecDepth 100000 in
theorem mX_341 : mX 341 = (yX12_convert, cX12_convert, 12, 4, some .int, 4, 0, 2491, 2489, 2490, 14, 351) := rfl
set_option maxRecDepth 100000 in
theorem mX_342 : mX 342 = (yX12_setMove, cX12_setMove, 12, 4, some .int, 4, 0, 2495, 2493, 2494, 14, 351) := rfl
set_option maxRecDepth 100000 in
theorem mX_343 : mX 343 = (yX12_setHaircut, cX12_setHaircut, 12, 2, some .int, 2, 0, 2499, 2497, 2498, 14, 351) := rfl
set_option maxRecDepth 100000 in
theorem mX_344 : mX 344 = (yX12_pay, cX12_pay, 12, 4, some .int, 4, 0, 2503, 2501, 2502, 14, 351) := rfl
set_option maxRecDepth 100000 in
theorem mX_345 : mX 345 = (yX12_setFund, cX12_setFund, 12, 3, some .int, 3, 0, 2507, 2505, 2506, 14, 351) := rfl
set_option maxRecDepth 100000 in
theorem mX_346 : mX 346 = (yX12_fail, cX12_fail, 12, 2, some .int, 2, 0, 2511, 2509, 2510, 14, 351) := rfl
set_option maxRecDepth 100000 in
theorem mX_347 : mX 347 = (yX12_bid, cX12_bid, 12, 3, some .int, 3, 0, 2515, 2513, 2514, 14, 351) := rfl
set_option maxRecDepth 100000 in
theorem mX_348 : mX 348 = (yX12_closeOut, cX12_closeOut, 12, 1, some .int, 1, 0, 2519, 2517, 2518, 14, 351) := rfl
set_option maxRecDepth 100000 in
theorem mX_349 : mX 349 = (yX12_keep, cX12_keep, 12, 1, some .int, 1, 0, 2523, 2521, 2522, 1, 30) := rfl
set_option maxRecDepth 100000 in
theorem mX_350 : mX 350 = (yX12_failOver, cX12_failOver, 12, 6, some .int, 1, 0, 2527, 2525, 2526, 13, 321) := rfl
set_option maxRecDepth 100000 in
theorem mX_351 : mX 351 = (yX12_events, cX12_events, 12, 1, some .int, 1, 0, 2531, 2529, 2530, 1, 30) := rfl
set_option maxRecDepth 100000 in
theorem mX_352 : mX 352 = (yX12_positionByLog, cX12_positionByLog, 12, 3, some .int, 3, 0, 2535, 2533, 2534, 3, 74) := rfl
set_option maxRecDepth 100000 in
theorem mX_353 : mX 353 = (yX12_bestByLog, cX12_bestByLog, 12, 3, some .int, 3, 0, 2543, 2541, 2542, 4, 100) := rfl
set_option maxRecDepth 100000 in
theorem mX_354 : mX 354 = (yX12_isBook, cX12_isBook, 12, 2, some .boolean, 2, 0, 2551, 2550, 137, 2, 52) := rfl
set_option maxRecDepth 100000 in
theorem mX_355 : mX 355 = (yX12_best, cX12_best, 12, 3, some .int, 3, 0, 2547, 2545, 2546, 3, 78) := rfl
set_option maxRecDepth 100000 in
theorem mX_356 : mX 356 = (yX12_shown, cX12_shown, 12, 6, some .int, 4, 0, 2556, 2554, 2555, 3, 77) := rfl
set_option maxRecDepth 100000 in
theorem mX_357 : mX 357 = (yX12_stateOf, cX12_stateOf, 12, 3, some .int, 2, 0, 2560, 2558, 2559, 2, 53) := rfl
set_option maxRecDepth 100000 in
theorem mX_358 : mX 358 = (yX12_rest, cX12_rest, 12, 3, some .int, 2, 0, 2564, 2562, 2563, 2, 53) := rfl
set_option maxRecDepth 100000 in
theorem mX_359 : mX 359 = (yX12_priceOf, cX12_priceOf, 12, 3, some .int, 2, 0, 2568, 2566, 2567, 2, 53) := rfl
set_option maxRecDepth 100000 in
theorem mX_360 : mX 360 = (yX12_last, cX12_last, 12, 3, some .int, 3, 0, 2572, 2570, 2571, 3, 73) := rfl
set_option maxRecDepth 100000 in
theorem mX_361 : mX 361 = (yX12_endOf, cX12_endOf, 12, 2, some .int, 2, 0, 2576, 2574, 2575, 3, 73) := rfl
set_option maxRecDepth 100000 in
theorem mX_362 : mX 362 = (yX12_indicated, cX12_indicated, 12, 3, some .int, 3, 0, 2580, 2578, 2579, 4, 108) := rfl
set_option maxRecDepth 100000 in
theorem mX_363 : mX 363 = (yX12_trades, cX12_trades, 12, 1, some .int, 1, 0, 2584, 2582, 2583, 1, 30) := rfl
set_option maxRecDepth 100000 in
theorem mX_364 : mX 364 = (yX12_trade, cX12_trade, 12, 4, some .int, 3, 0, 2588, 2586, 2587, 2, 52) := rfl
set_option maxRecDepth 100000 in
theorem mX_365 : mX 365 = (yX12_position, cX12_position, 12, 3, some .int, 3, 0, 2539, 2537, 2538, 2, 52) := rfl
set_option maxRecDepth 100000 in
theorem mX_366 : mX 366 = (yX12_cash, cX12_cash, 12, 2, some .long, 2, 0, 2593, 2591, 2592, 2, 52) := rfl
set_option maxRecDepth 100000 in
theorem mX_367 : mX 367 = (yX12_quoted, cX12_quoted, 12, 2, some .int, 2, 0, 2597, 2595, 2596, 3, 72) := rfl
set_option maxRecDepth 100000 in
theorem mX_368 : mX 368 = (yX12_member, cX12_member, 12, 3, some .long, 3, 0, 2601, 2599, 2600, 6, 146) := rfl
set_option maxRecDepth 100000 in
theorem mX_369 : mX 369 = (yX12_stake, cX12_stake, 12, 1, some .int, 1, 0, 2605, 2603, 2604, 1, 30) := rfl
set_option maxRecDepth 100000 in
theorem mX_370 : mX 370 = (yJ9_floorDiv_b2ac5, cJ9_floorDiv_b2ac5, 14, 3, some .long, 2, 1, 1118, 1117, 0, 2, 55) := rfl
set_option maxRecDepth 100000 in
theorem mX_371 : mX 371 = (yJ9_floorDiv_f86c9, cJ9_floorDiv_f86c9, 14, 6, some .long, 2, 1, 1066, 1065, 0, 1, 30) := rfl
set_option maxRecDepth 100000 in
theorem mX_372 : mX 372 = (yJ9_floorMod_7cf53, cJ9_floorMod_7cf53, 14, 3, some .int, 2, 1, 1082, 1081, 0, 1, 30) := rfl
set_option maxRecDepth 100000 in
theorem mX_373 : mX 373 = (yJ9_abs_0f7a4, cJ9_abs_0f7a4, 14, 1, some .int, 1, 1, 727, 726, 0, 1, 30) := rfl
set_option maxRecDepth 100000 in
theorem mX_374 : mX 374 = (yJ9_abs_067f4, cJ9_abs_067f4, 14, 2, some .long, 1, 1, 1163, 1162, 0, 1, 30) := rfl
set_option maxRecDepth 100000 in
theorem mX_375 : mX 375 = (yJ9_max_7cf53, cJ9_max_7cf53, 14, 2, some .int, 2, 1, 961, 960, 0, 1, 30) := rfl
set_option maxRecDepth 100000 in
theorem mX_376 : mX 376 = (yJ9_max_f86c9, cJ9_max_f86c9, 14, 4, some .long, 2, 1, 1159, 1158, 0, 1, 30) := rfl
set_option maxRecDepth 100000 in
theorem mX_377 : mX 377 = (yJ9_min_7cf53, cJ9_min_7cf53, 14, 2, some .int, 2, 1, 759, 758, 0, 1, 30) := rfl
set_option maxRecDepth 100000 in
theorem mX_378 : mX 378 = (yJ9_min_f86c9, cJ9_min_f86c9, 14, 4, some .long, 2, 1, 1224, 1223, 0, 1, 30) := rfl
set_option maxRecDepth 100000 in
theorem mX_379 : mX 379 = (yL_limit, cL_limit, 13, 9, some .int, 8, 1, 1262, 1261, 0, 10, 254) := rfl
set_option maxRecDepth 100000 in
theorem mX_380 : mX 380 = (yL_market, cL_market, 13, 6, some .int, 5, 1, 1425, 1424, 0, 10, 250) := rfl
set_option maxRecDepth 100000 in
theorem mX_381 : mX 381 = (yL_iceberg, cL_iceberg, 13, 8, some .int, 7, 1, 1432, 1431, 0, 10, 252) := rfl
set_option maxRecDepth 100000 in
theorem mX_382 : mX 382 = (yL_peg, cL_peg, 13, 8, some .int, 7, 1, 1439, 1438, 0, 10, 252) := rfl
set_option maxRecDepth 100000 in
theorem mX_383 : mX 383 = (yL_stop, cL_stop, 13, 8, some .int, 7, 1, 1446, 1445, 0, 10, 252) := rfl
set_option maxRecDepth 100000 in
theorem mX_384 : mX 384 = (yL_quote, cL_quote, 13, 8, some .int, 7, 1, 1456, 1455, 0, 10, 253) := rfl
set_option maxRecDepth 100000 in
theorem mX_385 : mX 385 = (yL_cancel, cL_cancel, 13, 4, some .int, 3, 1, 1464, 1463, 0, 10, 249) := rfl
set_option maxRecDepth 100000 in
theorem mX_386 : mX 386 = (yL_setRule, cL_setRule, 13, 7, some .int, 6, 1, 1476, 1475, 0, 10, 251) := rfl
set_option maxRecDepth 100000 in
theorem mX_387 : mX 387 = (yL_setBand, cL_setBand, 13, 5, some .int, 4, 1, 1483, 1482, 0, 10, 249) := rfl
set_option maxRecDepth 100000 in
theorem mX_388 : mX 388 = (yL_setProtection, cL_setProtection, 13, 5, some .int, 4, 1, 1490, 1489, 0, 10, 249) := rfl
set_option maxRecDepth 100000 in
theorem mX_389 : mX 389 = (yL_setLimit, cL_setLimit, 13, 6, some .int, 5, 1, 1497, 1496, 0, 10, 250) := rfl
set_option maxRecDepth 100000 in
theorem mX_390 : mX 390 = (yL_auction, cL_auction, 13, 7, some .int, 6, 1, 1504, 1503, 0, 10, 251) := rfl
set_option maxRecDepth 100000 in
theorem mX_391 : mX 391 = (yL_pass, cL_pass, 13, 4, some .int, 3, 1, 1511, 1510, 0, 10, 248) := rfl
set_option maxRecDepth 100000 in
theorem mX_392 : mX 392 = (yL_endDay, cL_endDay, 13, 3, some .int, 2, 1, 1518, 1517, 0, 10, 247) := rfl
set_option maxRecDepth 100000 in
theorem mX_393 : mX 393 = (yL_bust, cL_bust, 13, 4, some .int, 3, 1, 1529, 1528, 0, 10, 248) := rfl
set_option maxRecDepth 100000 in
theorem mX_394 : mX 394 = (yL_adjust, cL_adjust, 13, 5, some .int, 4, 1, 1542, 1541, 0, 10, 250) := rfl
set_option maxRecDepth 100000 in
theorem mX_395 : mX 395 = (yL_giveUp, cL_giveUp, 13, 6, some .int, 5, 1, 1549, 1548, 0, 10, 251) := rfl
set_option maxRecDepth 100000 in
theorem mX_396 : mX 396 = (yL_allot, cL_allot, 13, 7, some .int, 6, 1, 1556, 1555, 0, 10, 251) := rfl
set_option maxRecDepth 100000 in
theorem mX_397 : mX 397 = (yL_exercise, cL_exercise, 13, 6, some .int, 5, 1, 1567, 1566, 0, 10, 250) := rfl
set_option maxRecDepth 100000 in
theorem mX_398 : mX 398 = (yL_convert, cL_convert, 13, 6, some .int, 5, 1, 1575, 1574, 0, 10, 250) := rfl
set_option maxRecDepth 100000 in
theorem mX_399 : mX 399 = (yL_setMove, cL_setMove, 13, 6, some .int, 5, 1, 1588, 1587, 0, 10, 250) := rfl
set_option maxRecDepth 100000 in
theorem mX_400 : mX 400 = (yL_setHaircut, cL_setHaircut, 13, 4, some .int, 3, 1, 1595, 1594, 0, 10, 248) := rfl
set_option maxRecDepth 100000 in
theorem mX_401 : mX 401 = (yL_pay, cL_pay, 13, 6, some .int, 5, 1, 1602, 1601, 0, 10, 250) := rfl
set_option maxRecDepth 100000 in
theorem mX_402 : mX 402 = (yL_setFund, cL_setFund, 13, 5, some .int, 4, 1, 1616, 1615, 0, 10, 249) := rfl
set_option maxRecDepth 100000 in
theorem mX_403 : mX 403 = (yL_fail, cL_fail, 13, 4, some .int, 3, 1, 1624, 1623, 0, 10, 248) := rfl
set_option maxRecDepth 100000 in
theorem mX_404 : mX 404 = (yL_bid, cL_bid, 13, 5, some .int, 4, 1, 1635, 1634, 0, 10, 249) := rfl
set_option maxRecDepth 100000 in
theorem mX_405 : mX 405 = (yL_closeOut, cL_closeOut, 13, 3, some .int, 2, 1, 1642, 1641, 0, 10, 247) := rfl
set_option maxRecDepth 100000 in
theorem mX_406 : mX 406 = (yL_positionByLog, cL_positionByLog, 13, 5, some .int, 4, 1, 1649, 1648, 0, 10, 249) := rfl
set_option maxRecDepth 100000 in
theorem mX_407 : mX 407 = (yL_bestByLog, cL_bestByLog, 13, 5, some .int, 4, 1, 1656, 1655, 0, 10, 249) := rfl
set_option maxRecDepth 100000 in
theorem mX_408 : mX 408 = (yL_best, cL_best, 13, 5, some .int, 4, 1, 1664, 1663, 0, 8, 142) := rfl
set_option maxRecDepth 100000 in
theorem mX_409 : mX 409 = (yL_shown, cL_shown, 13, 6, some .int, 5, 1, 1671, 1670, 0, 8, 143) := rfl
set_option maxRecDepth 100000 in
theorem mX_410 : mX 410 = (yL_rest, cL_rest, 13, 4, some .int, 3, 1, 1682, 1681, 0, 7, 122) := rfl
set_option maxRecDepth 100000 in
theorem mX_411 : mX 411 = (yL_priceOf, cL_priceOf, 13, 4, some .int, 3, 1, 1689, 1688, 0, 7, 122) := rfl
set_option maxRecDepth 100000 in
theorem mX_412 : mX 412 = (yL_last, cL_last, 13, 5, some .int, 4, 1, 1696, 1695, 0, 8, 143) := rfl
set_option maxRecDepth 100000 in
theorem mX_413 : mX 413 = (yL_endOf, cL_endOf, 13, 4, some .int, 3, 1, 1703, 1702, 0, 8, 142) := rfl
set_option maxRecDepth 100000 in
theorem mX_414 : mX 414 = (yL_indicated, cL_indicated, 13, 5, some .int, 4, 1, 1710, 1709, 0, 8, 158) := rfl
set_option maxRecDepth 100000 in
theorem mX_415 : mX 415 = (yL_trade, cL_trade, 13, 5, some .int, 4, 1, 1719, 1718, 0, 8, 145) := rfl
set_option maxRecDepth 100000 in
theorem mX_416 : mX 416 = (yL_position, cL_position, 13, 5, some .int, 4, 1, 1730, 1729, 0, 8, 142) := rfl
set_option maxRecDepth 100000 in
theorem mX_417 : mX 417 = (yL_cash, cL_cash, 13, 4, some .int, 3, 1, 1737, 1736, 0, 8, 141) := rfl
set_option maxRecDepth 100000 in
theorem mX_418 : mX 418 = (yL_quoted, cL_quoted, 13, 4, some .int, 3, 1, 1744, 1743, 0, 8, 141) := rfl
set_option maxRecDepth 100000 in
theorem mX_419 : mX 419 = (yL_member, cL_member, 13, 5, some .int, 4, 1, 1751, 1750, 0, 8, 190) := rfl
def EMc (y : MethodName) (b : ByteArray) (o L : Nat) (r : Option FieldType) (n st : Nat) : Prop := y.cls = cN o ∧ plainFor y = true ∧ (y.cls ≠ "java/lang/invoke/MethodHandle" ∧ y.cls ≠ "java/lang/invoke/VarHandle") ∧ Cond.initialized y.cls ∈ GW ∧ (st = 1 → Cond.static y ∈ GW ∧ (parseMethodDescriptor y.desc).map (fun d => d.parameters.length) = some n) ∧ (st = 0 → Cond.instanceMethod y ∈ GW ∧ (parseMethodDescriptor y.desc).map (fun d => d.parameters.length + 1) = some n) ∧ (st = 0 → y.name = "<init>" ∨ Cond.selects (cN o) y y ∈ GW)
theorem cls_ok {o : Nat} (h : o < 15) : (o < 14 → plainName (cN o) = true) ∧ (cN o ≠ "java/lang/invoke/MethodHandle" ∧ cN o ≠ "java/lang/invoke/VarHandle") ∧ Cond.initialized (cN o) ∈ GW := by
  match o, h with
  | 0, _ => exact ⟨fun q => by first | decide +kernel | (exact absurd q (by decide)), ⟨by decide +kernel, by decide +kernel⟩, gt1 5 rfl rfl⟩
  | 1, _ => exact ⟨fun q => by first | decide +kernel | (exact absurd q (by decide)), ⟨by decide +kernel, by decide +kernel⟩, gt1 3 rfl rfl⟩
  | 2, _ => exact ⟨fun q => by first | decide +kernel | (exact absurd q (by decide)), ⟨by decide +kernel, by decide +kernel⟩, gt1 11 rfl rfl⟩
  | 3, _ => exact ⟨fun q => by first | decide +kernel | (exact absurd q (by decide)), ⟨by decide +kernel, by decide +kernel⟩, gt1 10 rfl rfl⟩
  | 4, _ => exact ⟨fun q => by first | decide +kernel | (exact absurd q (by decide)), ⟨by decide +kernel, by decide +kernel⟩, gt1 6 rfl rfl⟩
  | 5, _ => exact ⟨fun q => by first | decide +kernel | (exact absurd q (by decide)), ⟨by decide +kernel, by decide +kernel⟩, gt1 2 rfl rfl⟩
  | 6, _ => exact ⟨fun q => by first | decide +kernel | (exact absurd q (by decide)), ⟨by decide +kernel, by decide +kernel⟩, gt1 7 rfl rfl⟩
  | 7, _ => exact ⟨fun q => by first | decide +kernel | (exact absurd q (by decide)), ⟨by decide +kernel, by decide +kernel⟩, gt1 4 rfl rfl⟩
  | 8, _ => exact ⟨fun q => by first | decide +kernel | (exact absurd q (by decide)), ⟨by decide +kernel, by decide +kernel⟩, gt1 9 rfl rfl⟩
  | 9, _ => exact ⟨fun q => by first | decide +kernel | (exact absurd q (by decide)), ⟨by decide +kernel, by decide +kernel⟩, gt1 12 rfl rfl⟩
  | 10, _ => exact ⟨fun q => by first | decide +kernel | (exact absurd q (by decide)), ⟨by decide +kernel, by decide +kernel⟩, gt1 8 rfl rfl⟩
  | 11, _ => exact ⟨fun q => by first | decide +kernel | (exact absurd q (by decide)), ⟨by decide +kernel, by decide +kernel⟩, gt1 1 rfl rfl⟩
  | 12, _ => exact ⟨fun q => by first | decide +kernel | (exact absurd q (by decide)), ⟨by decide +kernel, by decide +kernel⟩, gt1 13 rfl rfl⟩
  | 13, _ => exact ⟨fun q => by first | decide +kernel | (exact absurd q (by decide)), ⟨by decide +kernel, by decide +kernel⟩, gt1 0 rfl rfl⟩
  | 14, _ => exact ⟨fun q => by first | decide +kernel | (exact absurd q (by decide)), ⟨by decide +kernel, by decide +kernel⟩, gt1 18 rfl rfl⟩
set_option maxRecDepth 100000 in
theorem math_ok : ∀ y ∈ ([yJ9_floorDiv_b2ac5, yJ9_floorDiv_f86c9, yJ9_floorMod_7cf53, yJ9_abs_0f7a4, yJ9_abs_067f4, yJ9_max_7cf53, yJ9_max_f86c9, yJ9_min_7cf53, yJ9_min_f86c9] : List MethodName), plainFor y = true := by decide +kernel
set_option maxRecDepth 100000 in
theorem em_0 : EMc yX0_init cX0_init 0 2 (none) 2 0 := ⟨rfl, plainFor_of_name ((cls_ok (o := 0) (by decide)).1 (by decide)), (cls_ok (o := 0) (by decide)).2.1, (cls_ok (o := 0) (by decide)).2.2, fun q => absurd q (by decide), fun _ => ⟨gt1 132 rfl rfl, by decide +kernel⟩, fun _ => Or.inl rfl⟩
set_option maxRecDepth 100000 in
theorem ec_0 : Cond.code yX0_init cX0_init 2 (none) ∈ GW := gt1 133 rfl rfl
set_option maxRecDepth 100000 in
theorem em_1 : EMc yX0_restore cX0_restore 0 2 (none) 1 0 := ⟨rfl, plainFor_of_name ((cls_ok (o := 0) (by decide)).1 (by decide)), (cls_ok (o := 0) (by decide)).2.1, (cls_ok (o := 0) (by decide)).2.2, fun q => absurd q (by decide), fun _ => ⟨gt3 21 rfl rfl, by decide +kernel⟩, fun _ => Or.inr (gt3 22 rfl rfl)⟩
set_option maxRecDepth 100000 in
theorem ec_1 : Cond.code yX0_restore cX0_restore 2 (none) ∈ GW := gt3 23 rfl rfl
set_option maxRecDepth 100000 in
theorem em_2 : EMc yX0_holds cX0_holds 0 2 (some .int) 2 0 := ⟨rfl, plainFor_of_name ((cls_ok (o := 0) (by decide)).1 (by decide)), (cls_ok (o := 0) (by decide)).2.1, (cls_ok (o := 0) (by decide)).2.2, fun q => absurd q (by decide), fun _ => ⟨gt4 210 rfl rfl, by decide +kernel⟩, fun _ => Or.inr (gt4 211 rfl rfl)⟩
set_option maxRecDepth 100000 in
theorem ec_2 : Cond.code yX0_holds cX0_holds 2 (some .int) ∈ GW := gt4 212 rfl rfl
set_option maxRecDepth 100000 in
theorem em_3 : EMc yX0_limitOf cX0_limitOf 0 2 (some .int) 2 0 := ⟨rfl, plainFor_of_name ((cls_ok (o := 0) (by decide)).1 (by decide)), (cls_ok (o := 0) (by decide)).2.1, (cls_ok (o := 0) (by decide)).2.2, fun q => absurd q (by decide), fun _ => ⟨gt4 31 rfl rfl, by decide +kernel⟩, fun _ => Or.inr (gt4 32 rfl rfl)⟩
set_option maxRecDepth 100000 in
theorem ec_3 : Cond.code yX0_limitOf cX0_limitOf 2 (some .int) ∈ GW := gt4 33 rfl rfl
set_option maxRecDepth 100000 in
theorem em_4 : EMc yX0_put cX0_put 0 3 (none) 3 0 := ⟨rfl, plainFor_of_name ((cls_ok (o := 0) (by decide)).1 (by decide)), (cls_ok (o := 0) (by decide)).2.1, (cls_ok (o := 0) (by decide)).2.2, fun q => absurd q (by decide), fun _ => ⟨gt4 214 rfl rfl, by decide +kernel⟩, fun _ => Or.inr (gt4 215 rfl rfl)⟩
set_option maxRecDepth 100000 in
theorem ec_4 : Cond.code yX0_put cX0_put 3 (none) ∈ GW := gt4 216 rfl rfl
set_option maxRecDepth 100000 in
theorem em_5 : EMc yX0_take cX0_take 0 4 (none) 4 0 := ⟨rfl, plainFor_of_name ((cls_ok (o := 0) (by decide)).1 (by decide)), (cls_ok (o := 0) (by decide)).2.1, (cls_ok (o := 0) (by decide)).2.2, fun q => absurd q (by decide), fun _ => ⟨gt3 200 rfl rfl, by decide +kernel⟩, fun _ => Or.inr (gt3 201 rfl rfl)⟩
set_option maxRecDepth 100000 in
theorem ec_5 : Cond.code yX0_take cX0_take 4 (none) ∈ GW := gt3 202 rfl rfl
set_option maxRecDepth 100000 in
theorem em_6 : EMc yX0_changeProtection cX0_changeProtection 0 3 (some .int) 2 0 := ⟨rfl, plainFor_of_name ((cls_ok (o := 0) (by decide)).1 (by decide)), (cls_ok (o := 0) (by decide)).2.1, (cls_ok (o := 0) (by decide)).2.2, fun q => absurd q (by decide), fun _ => ⟨gt4 23 rfl rfl, by decide +kernel⟩, fun _ => Or.inr (gt4 24 rfl rfl)⟩
set_option maxRecDepth 100000 in
theorem ec_6 : Cond.code yX0_changeProtection cX0_changeProtection 3 (some .int) ∈ GW := gt4 25 rfl rfl
set_option maxRecDepth 100000 in
theorem em_7 : EMc yX0_changeLimit cX0_changeLimit 0 4 (some .int) 3 0 := ⟨rfl, plainFor_of_name ((cls_ok (o := 0) (by decide)).1 (by decide)), (cls_ok (o := 0) (by decide)).2.1, (cls_ok (o := 0) (by decide)).2.2, fun q => absurd q (by decide), fun _ => ⟨gt4 27 rfl rfl, by decide +kernel⟩, fun _ => Or.inr (gt4 28 rfl rfl)⟩
set_option maxRecDepth 100000 in
theorem ec_7 : Cond.code yX0_changeLimit cX0_changeLimit 4 (some .int) ∈ GW := gt4 29 rfl rfl
set_option maxRecDepth 100000 in
theorem em_8 : EMc yX1_init cX1_init 1 2 (none) 2 0 := ⟨rfl, plainFor_of_name ((cls_ok (o := 1) (by decide)).1 (by decide)), (cls_ok (o := 1) (by decide)).2.1, (cls_ok (o := 1) (by decide)).2.2, fun q => absurd q (by decide), fun _ => ⟨gt1 39 rfl rfl, by decide +kernel⟩, fun _ => Or.inl rfl⟩
set_option maxRecDepth 100000 in
theorem ec_8 : Cond.code yX1_init cX1_init 2 (none) ∈ GW := gt1 40 rfl rfl
set_option maxRecDepth 100000 in
theorem em_9 : EMc yX1_restore cX1_restore 1 1 (none) 1 0 := ⟨rfl, plainFor_of_name ((cls_ok (o := 1) (by decide)).1 (by decide)), (cls_ok (o := 1) (by decide)).2.1, (cls_ok (o := 1) (by decide)).2.2, fun q => absurd q (by decide), fun _ => ⟨gt3 9 rfl rfl, by decide +kernel⟩, fun _ => Or.inr (gt3 10 rfl rfl)⟩
set_option maxRecDepth 100000 in
theorem ec_9 : Cond.code yX1_restore cX1_restore 1 (none) ∈ GW := gt3 11 rfl rfl
set_option maxRecDepth 100000 in
theorem em_10 : EMc yX1_isSpread cX1_isSpread 1 1 (some .boolean) 1 0 := ⟨rfl, plainFor_of_name ((cls_ok (o := 1) (by decide)).1 (by decide)), (cls_ok (o := 1) (by decide)).2.1, (cls_ok (o := 1) (by decide)).2.2, fun q => absurd q (by decide), fun _ => ⟨gt3 13 rfl rfl, by decide +kernel⟩, fun _ => Or.inr (gt3 14 rfl rfl)⟩
set_option maxRecDepth 100000 in
theorem ec_10 : Cond.code yX1_isSpread cX1_isSpread 1 (some .boolean) ∈ GW := gt3 15 rfl rfl
set_option maxRecDepth 100000 in
theorem em_11 : EMc yX1_hasPrice cX1_hasPrice 1 2 (some .boolean) 2 0 := ⟨rfl, plainFor_of_name ((cls_ok (o := 1) (by decide)).1 (by decide)), (cls_ok (o := 1) (by decide)).2.1, (cls_ok (o := 1) (by decide)).2.2, fun q => absurd q (by decide), fun _ => ⟨gt4 123 rfl rfl, by decide +kernel⟩, fun _ => Or.inr (gt4 124 rfl rfl)⟩
set_option maxRecDepth 100000 in
theorem ec_11 : Cond.code yX1_hasPrice cX1_hasPrice 2 (some .boolean) ∈ GW := gt4 125 rfl rfl
set_option maxRecDepth 100000 in
theorem em_12 : EMc yX1_hasContract cX1_hasContract 1 2 (some .boolean) 2 0 := ⟨rfl, plainFor_of_name ((cls_ok (o := 1) (by decide)).1 (by decide)), (cls_ok (o := 1) (by decide)).2.1, (cls_ok (o := 1) (by decide)).2.2, fun q => absurd q (by decide), fun _ => ⟨gt4 238 rfl rfl, by decide +kernel⟩, fun _ => Or.inr (gt4 239 rfl rfl)⟩
set_option maxRecDepth 100000 in
theorem ec_12 : Cond.code yX1_hasContract cX1_hasContract 2 (some .boolean) ∈ GW := gt5 0 rfl rfl
set_option maxRecDepth 100000 in
theorem em_13 : EMc yX1_isBeyondBand cX1_isBeyondBand 1 2 (some .boolean) 2 0 := ⟨rfl, plainFor_of_name ((cls_ok (o := 1) (by decide)).1 (by decide)), (cls_ok (o := 1) (by decide)).2.1, (cls_ok (o := 1) (by decide)).2.2, fun q => absurd q (by decide), fun _ => ⟨gt3 123 rfl rfl, by decide +kernel⟩, fun _ => Or.inr (gt3 124 rfl rfl)⟩
set_option maxRecDepth 100000 in
theorem ec_13 : Cond.code yX1_isBeyondBand cX1_isBeyondBand 2 (some .boolean) ∈ GW := gt3 125 rfl rfl
set_option maxRecDepth 100000 in
theorem em_14 : EMc yX1_isFrozen cX1_isFrozen 1 2 (some .boolean) 2 0 := ⟨rfl, plainFor_of_name ((cls_ok (o := 1) (by decide)).1 (by decide)), (cls_ok (o := 1) (by decide)).2.1, (cls_ok (o := 1) (by decide)).2.2, fun q => absurd q (by decide), fun _ => ⟨gt6 133 rfl rfl, by decide +kernel⟩, fun _ => Or.inr (gt6 134 rfl rfl)⟩
set_option maxRecDepth 100000 in
theorem ec_14 : Cond.code yX1_isFrozen cX1_isFrozen 2 (some .boolean) ∈ GW := gt6 135 rfl rfl
set_option maxRecDepth 100000 in
theorem em_15 : EMc yX1_changeRule cX1_changeRule 1 5 (some .int) 4 0 := ⟨rfl, plainFor_of_name ((cls_ok (o := 1) (by decide)).1 (by decide)), (cls_ok (o := 1) (by decide)).2.1, (cls_ok (o := 1) (by decide)).2.2, fun q => absurd q (by decide), fun _ => ⟨gt4 14 rfl rfl, by decide +kernel⟩, fun _ => Or.inr (gt4 15 rfl rfl)⟩
set_option maxRecDepth 100000 in
theorem ec_15 : Cond.code yX1_changeRule cX1_changeRule 5 (some .int) ∈ GW := gt4 16 rfl rfl
set_option maxRecDepth 100000 in
theorem em_16 : EMc yX1_changeBand cX1_changeBand 1 3 (some .int) 2 0 := ⟨rfl, plainFor_of_name ((cls_ok (o := 1) (by decide)).1 (by decide)), (cls_ok (o := 1) (by decide)).2.1, (cls_ok (o := 1) (by decide)).2.2, fun q => absurd q (by decide), fun _ => ⟨gt4 18 rfl rfl, by decide +kernel⟩, fun _ => Or.inr (gt4 19 rfl rfl)⟩
set_option maxRecDepth 100000 in
theorem ec_16 : Cond.code yX1_changeBand cX1_changeBand 3 (some .int) ∈ GW := gt4 20 rfl rfl
set_option maxRecDepth 100000 in
theorem em_17 : EMc yX2_init cX2_init 2 4 (none) 3 0 := ⟨rfl, plainFor_of_name ((cls_ok (o := 2) (by decide)).1 (by decide)), (cls_ok (o := 2) (by decide)).2.1, (cls_ok (o := 2) (by decide)).2.2, fun q => absurd q (by decide), fun _ => ⟨gt2 162 rfl rfl, by decide +kernel⟩, fun _ => Or.inl rfl⟩
set_option maxRecDepth 100000 in
theorem ec_17 : Cond.code yX2_init cX2_init 4 (none) ∈ GW := gt2 163 rfl rfl
set_option maxRecDepth 100000 in
theorem em_18 : EMc yX2_restore cX2_restore 2 6 (none) 1 0 := ⟨rfl, plainFor_of_name ((cls_ok (o := 2) (by decide)).1 (by decide)), (cls_ok (o := 2) (by decide)).2.1, (cls_ok (o := 2) (by decide)).2.2, fun q => absurd q (by decide), fun _ => ⟨gt3 25 rfl rfl, by decide +kernel⟩, fun _ => Or.inr (gt3 26 rfl rfl)⟩
set_option maxRecDepth 100000 in
theorem ec_18 : Cond.code yX2_restore cX2_restore 6 (none) ∈ GW := gt3 27 rfl rfl
set_option maxRecDepth 100000 in
theorem em_19 : EMc yX2_memberAt cX2_memberAt 2 2 (some (.object "Openbook$Member")) 2 0 := ⟨rfl, plainFor_of_name ((cls_ok (o := 2) (by decide)).1 (by decide)), (cls_ok (o := 2) (by decide)).2.1, (cls_ok (o := 2) (by decide)).2.2, fun q => absurd q (by decide), fun _ => ⟨gt5 39 rfl rfl, by decide +kernel⟩, fun _ => Or.inr (gt5 40 rfl rfl)⟩
set_option maxRecDepth 100000 in
theorem ec_19 : Cond.code yX2_memberAt cX2_memberAt 2 (some (.object "Openbook$Member")) ∈ GW := gt5 41 rfl rfl
set_option maxRecDepth 100000 in
theorem em_20 : EMc yX2_lowerOf cX2_lowerOf 2 2 (some (.object "Openbook$Account")) 2 0 := ⟨rfl, plainFor_of_name ((cls_ok (o := 2) (by decide)).1 (by decide)), (cls_ok (o := 2) (by decide)).2.1, (cls_ok (o := 2) (by decide)).2.2, fun q => absurd q (by decide), fun _ => ⟨gt5 72 rfl rfl, by decide +kernel⟩, fun _ => Or.inr (gt5 73 rfl rfl)⟩
set_option maxRecDepth 100000 in
theorem ec_20 : Cond.code yX2_lowerOf cX2_lowerOf 2 (some (.object "Openbook$Account")) ∈ GW := gt5 74 rfl rfl
set_option maxRecDepth 100000 in
theorem em_21 : EMc yX2_upperOf cX2_upperOf 2 2 (some (.object "Openbook$Account")) 2 0 := ⟨rfl, plainFor_of_name ((cls_ok (o := 2) (by decide)).1 (by decide)), (cls_ok (o := 2) (by decide)).2.1, (cls_ok (o := 2) (by decide)).2.2, fun q => absurd q (by decide), fun _ => ⟨gt5 76 rfl rfl, by decide +kernel⟩, fun _ => Or.inr (gt5 77 rfl rfl)⟩
set_option maxRecDepth 100000 in
theorem ec_21 : Cond.code yX2_upperOf cX2_upperOf 2 (some (.object "Openbook$Account")) ∈ GW := gt5 78 rfl rfl
set_option maxRecDepth 100000 in
theorem em_22 : EMc yX2_tell cX2_tell 2 4 (some .long) 3 0 := ⟨rfl, plainFor_of_name ((cls_ok (o := 2) (by decide)).1 (by decide)), (cls_ok (o := 2) (by decide)).2.1, (cls_ok (o := 2) (by decide)).2.2, fun q => absurd q (by decide), fun _ => ⟨gt7 179 rfl rfl, by decide +kernel⟩, fun _ => Or.inr (gt7 180 rfl rfl)⟩
set_option maxRecDepth 100000 in
theorem ec_22 : Cond.code yX2_tell cX2_tell 4 (some .long) ∈ GW := gt7 181 rfl rfl
set_option maxRecDepth 100000 in
theorem em_23 : EMc yX2_netOf cX2_netOf 2 5 (some .long) 3 0 := ⟨rfl, plainFor_of_name ((cls_ok (o := 2) (by decide)).1 (by decide)), (cls_ok (o := 2) (by decide)).2.1, (cls_ok (o := 2) (by decide)).2.2, fun q => absurd q (by decide), fun _ => ⟨gt5 55 rfl rfl, by decide +kernel⟩, fun _ => Or.inr (gp1 7 rfl)⟩
set_option maxRecDepth 100000 in
theorem ec_23 : Cond.code yX2_netOf cX2_netOf 5 (some .long) ∈ GW := gt5 56 rfl rfl
set_option maxRecDepth 100000 in
theorem em_24 : EMc yX2_moveOf cX2_moveOf 2 4 (some .int) 3 0 := ⟨rfl, plainFor_of_name ((cls_ok (o := 2) (by decide)).1 (by decide)), (cls_ok (o := 2) (by decide)).2.1, (cls_ok (o := 2) (by decide)).2.2, fun q => absurd q (by decide), fun _ => ⟨gt5 28 rfl rfl, by decide +kernel⟩, fun _ => Or.inr (gp1 4 rfl)⟩
set_option maxRecDepth 100000 in
theorem ec_24 : Cond.code yX2_moveOf cX2_moveOf 4 (some .int) ∈ GW := gt5 29 rfl rfl
set_option maxRecDepth 100000 in
theorem em_25 : EMc yX2_riskOf cX2_riskOf 2 9 (some .long) 3 0 := ⟨rfl, plainFor_of_name ((cls_ok (o := 2) (by decide)).1 (by decide)), (cls_ok (o := 2) (by decide)).2.1, (cls_ok (o := 2) (by decide)).2.2, fun q => absurd q (by decide), fun _ => ⟨gt5 51 rfl rfl, by decide +kernel⟩, fun _ => Or.inr (gp1 6 rfl)⟩
set_option maxRecDepth 100000 in
theorem ec_25 : Cond.code yX2_riskOf cX2_riskOf 9 (some .long) ∈ GW := gt5 52 rfl rfl
set_option maxRecDepth 100000 in
theorem em_26 : EMc yX2_worthOf cX2_worthOf 2 5 (some .long) 2 0 := ⟨rfl, plainFor_of_name ((cls_ok (o := 2) (by decide)).1 (by decide)), (cls_ok (o := 2) (by decide)).2.1, (cls_ok (o := 2) (by decide)).2.2, fun q => absurd q (by decide), fun _ => ⟨gt5 81 rfl rfl, by decide +kernel⟩, fun _ => Or.inr (gp1 9 rfl)⟩
set_option maxRecDepth 100000 in
theorem ec_26 : Cond.code yX2_worthOf cX2_worthOf 5 (some .long) ∈ GW := gt5 82 rfl rfl
set_option maxRecDepth 100000 in
theorem em_27 : EMc yX2_valueOf cX2_valueOf 2 2 (some .long) 2 0 := ⟨rfl, plainFor_of_name ((cls_ok (o := 2) (by decide)).1 (by decide)), (cls_ok (o := 2) (by decide)).2.1, (cls_ok (o := 2) (by decide)).2.2, fun q => absurd q (by decide), fun _ => ⟨gt5 69 rfl rfl, by decide +kernel⟩, fun _ => Or.inr (gp1 8 rfl)⟩
set_option maxRecDepth 100000 in
theorem ec_27 : Cond.code yX2_valueOf cX2_valueOf 2 (some .long) ∈ GW := gt5 70 rfl rfl
set_option maxRecDepth 100000 in
theorem em_28 : EMc yX2_callOf cX2_callOf 2 6 (some .long) 4 0 := ⟨rfl, plainFor_of_name ((cls_ok (o := 2) (by decide)).1 (by decide)), (cls_ok (o := 2) (by decide)).2.1, (cls_ok (o := 2) (by decide)).2.2, fun q => absurd q (by decide), fun _ => ⟨gt5 44 rfl rfl, by decide +kernel⟩, fun _ => Or.inr (gp1 5 rfl)⟩
set_option maxRecDepth 100000 in
theorem ec_28 : Cond.code yX2_callOf cX2_callOf 6 (some .long) ∈ GW := gt5 45 rfl rfl
set_option maxRecDepth 100000 in
theorem em_29 : EMc yX2_canPay cX2_canPay 2 7 (some .boolean) 4 0 := ⟨rfl, plainFor_of_name ((cls_ok (o := 2) (by decide)).1 (by decide)), (cls_ok (o := 2) (by decide)).2.1, (cls_ok (o := 2) (by decide)).2.2, fun q => absurd q (by decide), fun _ => ⟨gt7 33 rfl rfl, by decide +kernel⟩, fun _ => Or.inr (gt7 34 rfl rfl)⟩
set_option maxRecDepth 100000 in
theorem ec_29 : Cond.code yX2_canPay cX2_canPay 7 (some .boolean) ∈ GW := gt7 35 rfl rfl
set_option maxRecDepth 100000 in
theorem em_30 : EMc yX2_bring cX2_bring 2 5 (some .int) 4 0 := ⟨rfl, plainFor_of_name ((cls_ok (o := 2) (by decide)).1 (by decide)), (cls_ok (o := 2) (by decide)).2.1, (cls_ok (o := 2) (by decide)).2.2, fun q => absurd q (by decide), fun _ => ⟨gt5 35 rfl rfl, by decide +kernel⟩, fun _ => Or.inr (gt5 36 rfl rfl)⟩
set_option maxRecDepth 100000 in
theorem ec_30 : Cond.code yX2_bring cX2_bring 5 (some .int) ∈ GW := gt5 37 rfl rfl
set_option maxRecDepth 100000 in
theorem em_31 : EMc yX2_changeMove cX2_changeMove 2 6 (some .int) 4 0 := ⟨rfl, plainFor_of_name ((cls_ok (o := 2) (by decide)).1 (by decide)), (cls_ok (o := 2) (by decide)).2.1, (cls_ok (o := 2) (by decide)).2.2, fun q => absurd q (by decide), fun _ => ⟨gt5 23 rfl rfl, by decide +kernel⟩, fun _ => Or.inr (gt5 24 rfl rfl)⟩
set_option maxRecDepth 100000 in
theorem ec_31 : Cond.code yX2_changeMove cX2_changeMove 6 (some .int) ∈ GW := gt5 25 rfl rfl
set_option maxRecDepth 100000 in
theorem em_32 : EMc yX2_changeHaircut cX2_changeHaircut 2 3 (some .int) 2 0 := ⟨rfl, plainFor_of_name ((cls_ok (o := 2) (by decide)).1 (by decide)), (cls_ok (o := 2) (by decide)).2.1, (cls_ok (o := 2) (by decide)).2.2, fun q => absurd q (by decide), fun _ => ⟨gt5 31 rfl rfl, by decide +kernel⟩, fun _ => Or.inr (gt5 32 rfl rfl)⟩
set_option maxRecDepth 100000 in
theorem ec_32 : Cond.code yX2_changeHaircut cX2_changeHaircut 3 (some .int) ∈ GW := gt5 33 rfl rfl
set_option maxRecDepth 100000 in
theorem em_33 : EMc yX2_changeFund cX2_changeFund 2 5 (some .int) 3 0 := ⟨rfl, plainFor_of_name ((cls_ok (o := 2) (by decide)).1 (by decide)), (cls_ok (o := 2) (by decide)).2.1, (cls_ok (o := 2) (by decide)).2.2, fun q => absurd q (by decide), fun _ => ⟨gt5 84 rfl rfl, by decide +kernel⟩, fun _ => Or.inr (gt5 85 rfl rfl)⟩
set_option maxRecDepth 100000 in
theorem ec_33 : Cond.code yX2_changeFund cX2_changeFund 5 (some .int) ∈ GW := gt5 86 rfl rfl
set_option maxRecDepth 100000 in
theorem em_34 : EMc yX2_canFail cX2_canFail 2 3 (some .boolean) 2 0 := ⟨rfl, plainFor_of_name ((cls_ok (o := 2) (by decide)).1 (by decide)), (cls_ok (o := 2) (by decide)).2.1, (cls_ok (o := 2) (by decide)).2.2, fun q => absurd q (by decide), fun _ => ⟨gt7 52 rfl rfl, by decide +kernel⟩, fun _ => Or.inr (gt7 53 rfl rfl)⟩
set_option maxRecDepth 100000 in
theorem ec_34 : Cond.code yX2_canFail cX2_canFail 3 (some .boolean) ∈ GW := gt7 54 rfl rfl
set_option maxRecDepth 100000 in
theorem em_35 : EMc yX2_fall cX2_fall 2 2 (none) 2 0 := ⟨rfl, plainFor_of_name ((cls_ok (o := 2) (by decide)).1 (by decide)), (cls_ok (o := 2) (by decide)).2.1, (cls_ok (o := 2) (by decide)).2.2, fun q => absurd q (by decide), fun _ => ⟨gt5 92 rfl rfl, by decide +kernel⟩, fun _ => Or.inr (gt5 93 rfl rfl)⟩
set_option maxRecDepth 100000 in
theorem ec_35 : Cond.code yX2_fall cX2_fall 2 (none) ∈ GW := gt5 94 rfl rfl
set_option maxRecDepth 100000 in
theorem em_36 : EMc yX2_takeBid cX2_takeBid 2 9 (some .int) 3 0 := ⟨rfl, plainFor_of_name ((cls_ok (o := 2) (by decide)).1 (by decide)), (cls_ok (o := 2) (by decide)).2.1, (cls_ok (o := 2) (by decide)).2.2, fun q => absurd q (by decide), fun _ => ⟨gt5 100 rfl rfl, by decide +kernel⟩, fun _ => Or.inr (gt5 101 rfl rfl)⟩
set_option maxRecDepth 100000 in
theorem ec_36 : Cond.code yX2_takeBid cX2_takeBid 9 (some .int) ∈ GW := gt5 102 rfl rfl
set_option maxRecDepth 100000 in
theorem em_37 : EMc yX2_highestBidder cX2_highestBidder 2 4 (some .int) 1 0 := ⟨rfl, plainFor_of_name ((cls_ok (o := 2) (by decide)).1 (by decide)), (cls_ok (o := 2) (by decide)).2.1, (cls_ok (o := 2) (by decide)).2.2, fun q => absurd q (by decide), fun _ => ⟨gt5 109 rfl rfl, by decide +kernel⟩, fun _ => Or.inr (gp1 10 rfl)⟩
set_option maxRecDepth 100000 in
theorem ec_37 : Cond.code yX2_highestBidder cX2_highestBidder 4 (some .int) ∈ GW := gt5 110 rfl rfl
set_option maxRecDepth 100000 in
theorem em_38 : EMc yX2_closePortfolio cX2_closePortfolio 2 6 (some .int) 1 0 := ⟨rfl, plainFor_of_name ((cls_ok (o := 2) (by decide)).1 (by decide)), (cls_ok (o := 2) (by decide)).2.1, (cls_ok (o := 2) (by decide)).2.2, fun q => absurd q (by decide), fun _ => ⟨gt5 104 rfl rfl, by decide +kernel⟩, fun _ => Or.inr (gt5 105 rfl rfl)⟩
set_option maxRecDepth 100000 in
theorem ec_38 : Cond.code yX2_closePortfolio cX2_closePortfolio 6 (some .int) ∈ GW := gt5 106 rfl rfl
set_option maxRecDepth 100000 in
theorem em_39 : EMc yX2_handOver cX2_handOver 2 9 (none) 2 0 := ⟨rfl, plainFor_of_name ((cls_ok (o := 2) (by decide)).1 (by decide)), (cls_ok (o := 2) (by decide)).2.1, (cls_ok (o := 2) (by decide)).2.2, fun q => absurd q (by decide), fun _ => ⟨gt5 113 rfl rfl, by decide +kernel⟩, fun _ => Or.inr (gp1 11 rfl)⟩
set_option maxRecDepth 100000 in
theorem ec_39 : Cond.code yX2_handOver cX2_handOver 9 (none) ∈ GW := gt5 114 rfl rfl
set_option maxRecDepth 100000 in
theorem em_40 : EMc yX2_cover cX2_cover 2 8 (none) 2 0 := ⟨rfl, plainFor_of_name ((cls_ok (o := 2) (by decide)).1 (by decide)), (cls_ok (o := 2) (by decide)).2.1, (cls_ok (o := 2) (by decide)).2.2, fun q => absurd q (by decide), fun _ => ⟨gt5 118 rfl rfl, by decide +kernel⟩, fun _ => Or.inr (gp1 12 rfl)⟩
set_option maxRecDepth 100000 in
theorem ec_40 : Cond.code yX2_cover cX2_cover 8 (none) ∈ GW := gt5 119 rfl rfl
set_option maxRecDepth 100000 in
theorem em_41 : EMc yX2_give cX2_give 2 6 (some .long) 3 0 := ⟨rfl, plainFor_of_name ((cls_ok (o := 2) (by decide)).1 (by decide)), (cls_ok (o := 2) (by decide)).2.1, (cls_ok (o := 2) (by decide)).2.2, fun q => absurd q (by decide), fun _ => ⟨gt5 122 rfl rfl, by decide +kernel⟩, fun _ => Or.inr (gp1 13 rfl)⟩
set_option maxRecDepth 100000 in
theorem ec_41 : Cond.code yX2_give cX2_give 6 (some .long) ∈ GW := gt5 123 rfl rfl
set_option maxRecDepth 100000 in
theorem em_42 : EMc yX2_sellUnits cX2_sellUnits 2 8 (some .long) 2 0 := ⟨rfl, plainFor_of_name ((cls_ok (o := 2) (by decide)).1 (by decide)), (cls_ok (o := 2) (by decide)).2.1, (cls_ok (o := 2) (by decide)).2.2, fun q => absurd q (by decide), fun _ => ⟨gt5 129 rfl rfl, by decide +kernel⟩, fun _ => Or.inr (gp1 14 rfl)⟩
set_option maxRecDepth 100000 in
theorem ec_42 : Cond.code yX2_sellUnits cX2_sellUnits 8 (some .long) ∈ GW := gt5 130 rfl rfl
set_option maxRecDepth 100000 in
theorem em_43 : EMc yX2_givesIn cX2_givesIn 2 5 (some .boolean) 4 0 := ⟨rfl, plainFor_of_name ((cls_ok (o := 2) (by decide)).1 (by decide)), (cls_ok (o := 2) (by decide)).2.1, (cls_ok (o := 2) (by decide)).2.2, fun q => absurd q (by decide), fun _ => ⟨gt5 137 rfl rfl, by decide +kernel⟩, fun _ => Or.inr (gp2 0 rfl)⟩
set_option maxRecDepth 100000 in
theorem ec_43 : Cond.code yX2_givesIn cX2_givesIn 5 (some .boolean) ∈ GW := gt5 138 rfl rfl
set_option maxRecDepth 100000 in
theorem em_44 : EMc yX2_shareLayer cX2_shareLayer 2 9 (none) 3 0 := ⟨rfl, plainFor_of_name ((cls_ok (o := 2) (by decide)).1 (by decide)), (cls_ok (o := 2) (by decide)).2.1, (cls_ok (o := 2) (by decide)).2.2, fun q => absurd q (by decide), fun _ => ⟨gt5 133 rfl rfl, by decide +kernel⟩, fun _ => Or.inr (gp1 15 rfl)⟩
set_option maxRecDepth 100000 in
theorem ec_44 : Cond.code yX2_shareLayer cX2_shareLayer 9 (none) ∈ GW := gt5 134 rfl rfl
set_option maxRecDepth 100000 in
theorem em_45 : EMc yX2_shareLoss cX2_shareLoss 2 13 (none) 2 0 := ⟨rfl, plainFor_of_name ((cls_ok (o := 2) (by decide)).1 (by decide)), (cls_ok (o := 2) (by decide)).2.1, (cls_ok (o := 2) (by decide)).2.2, fun q => absurd q (by decide), fun _ => ⟨gt5 141 rfl rfl, by decide +kernel⟩, fun _ => Or.inr (gp2 1 rfl)⟩
set_option maxRecDepth 100000 in
theorem ec_45 : Cond.code yX2_shareLoss cX2_shareLoss 13 (none) ∈ GW := gt5 142 rfl rfl
set_option maxRecDepth 100000 in
theorem em_46 : EMc yX3_init cX3_init 3 3 (none) 3 0 := ⟨rfl, plainFor_of_name ((cls_ok (o := 3) (by decide)).1 (by decide)), (cls_ok (o := 3) (by decide)).2.1, (cls_ok (o := 3) (by decide)).2.2, fun q => absurd q (by decide), fun _ => ⟨gt2 149 rfl rfl, by decide +kernel⟩, fun _ => Or.inl rfl⟩
set_option maxRecDepth 100000 in
theorem ec_46 : Cond.code yX3_init cX3_init 3 (none) ∈ GW := gt2 150 rfl rfl
set_option maxRecDepth 100000 in
theorem em_47 : EMc yX3_makePair cX3_makePair 3 11 (some .boolean) 3 0 := ⟨rfl, plainFor_of_name ((cls_ok (o := 3) (by decide)).1 (by decide)), (cls_ok (o := 3) (by decide)).2.1, (cls_ok (o := 3) (by decide)).2.2, fun q => absurd q (by decide), fun _ => ⟨gt4 110 rfl rfl, by decide +kernel⟩, fun _ => Or.inr (gt4 111 rfl rfl)⟩
set_option maxRecDepth 100000 in
theorem ec_47 : Cond.code yX3_makePair cX3_makePair 11 (some .boolean) ∈ GW := gt4 112 rfl rfl
set_option maxRecDepth 100000 in
theorem em_48 : EMc yX3_makeChain cX3_makeChain 3 13 (some .boolean) 2 0 := ⟨rfl, plainFor_of_name ((cls_ok (o := 3) (by decide)).1 (by decide)), (cls_ok (o := 3) (by decide)).2.1, (cls_ok (o := 3) (by decide)).2.2, fun q => absurd q (by decide), fun _ => ⟨gt4 141 rfl rfl, by decide +kernel⟩, fun _ => Or.inr (gt4 142 rfl rfl)⟩
set_option maxRecDepth 100000 in
theorem ec_48 : Cond.code yX3_makeChain cX3_makeChain 13 (some .boolean) ∈ GW := gt4 143 rfl rfl
set_option maxRecDepth 100000 in
theorem em_49 : EMc yX3_isBarred cX3_isBarred 3 4 (some .boolean) 4 1 := ⟨rfl, plainFor_of_name ((cls_ok (o := 3) (by decide)).1 (by decide)), (cls_ok (o := 3) (by decide)).2.1, (cls_ok (o := 3) (by decide)).2.2, fun _ => ⟨gt4 120 rfl rfl, by decide +kernel⟩, fun q => absurd q (by decide), fun q => absurd q (by decide)⟩
set_option maxRecDepth 100000 in
theorem ec_49 : Cond.code yX3_isBarred cX3_isBarred 4 (some .boolean) ∈ GW := gt4 121 rfl rfl
set_option maxRecDepth 100000 in
theorem em_50 : EMc yX3_record cX3_record 3 9 (none) 7 0 := ⟨rfl, plainFor_of_name ((cls_ok (o := 3) (by decide)).1 (by decide)), (cls_ok (o := 3) (by decide)).2.1, (cls_ok (o := 3) (by decide)).2.2, fun q => absurd q (by decide), fun _ => ⟨gt4 130 rfl rfl, by decide +kernel⟩, fun _ => Or.inr (gp0 14 rfl)⟩
set_option maxRecDepth 100000 in
theorem ec_50 : Cond.code yX3_record cX3_record 9 (none) ∈ GW := gt4 131 rfl rfl
set_option maxRecDepth 100000 in
theorem em_51 : EMc yX3_fallTogether cX3_fallTogether 3 6 (none) 6 0 := ⟨rfl, plainFor_of_name ((cls_ok (o := 3) (by decide)).1 (by decide)), (cls_ok (o := 3) (by decide)).2.1, (cls_ok (o := 3) (by decide)).2.2, fun q => absurd q (by decide), fun _ => ⟨gt4 135 rfl rfl, by decide +kernel⟩, fun _ => Or.inr (gp0 15 rfl)⟩
set_option maxRecDepth 100000 in
theorem ec_51 : Cond.code yX3_fallTogether cX3_fallTogether 6 (none) ∈ GW := gt4 136 rfl rfl
set_option maxRecDepth 100000 in
theorem em_52 : EMc yX4_init cX4_init 4 3 (none) 3 0 := ⟨rfl, plainFor_of_name ((cls_ok (o := 4) (by decide)).1 (by decide)), (cls_ok (o := 4) (by decide)).2.1, (cls_ok (o := 4) (by decide)).2.2, fun q => absurd q (by decide), fun _ => ⟨gt1 183 rfl rfl, by decide +kernel⟩, fun _ => Or.inl rfl⟩
set_option maxRecDepth 100000 in
theorem ec_52 : Cond.code yX4_init cX4_init 3 (none) ∈ GW := gt1 184 rfl rfl
set_option maxRecDepth 100000 in
theorem em_53 : EMc yX4_fill cX4_fill 4 6 (none) 6 0 := ⟨rfl, plainFor_of_name ((cls_ok (o := 4) (by decide)).1 (by decide)), (cls_ok (o := 4) (by decide)).2.1, (cls_ok (o := 4) (by decide)).2.2, fun q => absurd q (by decide), fun _ => ⟨gt3 196 rfl rfl, by decide +kernel⟩, fun _ => Or.inr (gt3 197 rfl rfl)⟩
set_option maxRecDepth 100000 in
theorem ec_53 : Cond.code yX4_fill cX4_fill 6 (none) ∈ GW := gt3 198 rfl rfl
set_option maxRecDepth 100000 in
theorem em_54 : EMc yX4_counts cX4_counts 4 1 (some .boolean) 1 0 := ⟨rfl, plainFor_of_name ((cls_ok (o := 4) (by decide)).1 (by decide)), (cls_ok (o := 4) (by decide)).2.1, (cls_ok (o := 4) (by decide)).2.2, fun q => absurd q (by decide), fun _ => ⟨gt4 203 rfl rfl, by decide +kernel⟩, fun _ => Or.inr (gt4 204 rfl rfl)⟩
set_option maxRecDepth 100000 in
theorem ec_54 : Cond.code yX4_counts cX4_counts 1 (some .boolean) ∈ GW := gt4 205 rfl rfl
set_option maxRecDepth 100000 in
theorem em_55 : EMc yX4_tell cX4_tell 4 2 (some .int) 2 0 := ⟨rfl, plainFor_of_name ((cls_ok (o := 4) (by decide)).1 (by decide)), (cls_ok (o := 4) (by decide)).2.1, (cls_ok (o := 4) (by decide)).2.2, fun q => absurd q (by decide), fun _ => ⟨gt7 147 rfl rfl, by decide +kernel⟩, fun _ => Or.inr (gt7 148 rfl rfl)⟩
set_option maxRecDepth 100000 in
theorem ec_55 : Cond.code yX4_tell cX4_tell 2 (some .int) ∈ GW := gt7 149 rfl rfl
set_option maxRecDepth 100000 in
theorem em_56 : EMc yX5_init cX5_init 5 3 (none) 1 0 := ⟨rfl, plainFor_of_name ((cls_ok (o := 5) (by decide)).1 (by decide)), (cls_ok (o := 5) (by decide)).2.1, (cls_ok (o := 5) (by decide)).2.2, fun q => absurd q (by decide), fun _ => ⟨gt1 32 rfl rfl, by decide +kernel⟩, fun _ => Or.inl rfl⟩
set_option maxRecDepth 100000 in
theorem ec_56 : Cond.code yX5_init cX5_init 3 (none) ∈ GW := gt1 33 rfl rfl
set_option maxRecDepth 100000 in
theorem em_57 : EMc yX5_restore cX5_restore 5 1 (none) 1 0 := ⟨rfl, plainFor_of_name ((cls_ok (o := 5) (by decide)).1 (by decide)), (cls_ok (o := 5) (by decide)).2.1, (cls_ok (o := 5) (by decide)).2.2, fun q => absurd q (by decide), fun _ => ⟨gt3 1 rfl rfl, by decide +kernel⟩, fun _ => Or.inr (gt3 2 rfl rfl)⟩
set_option maxRecDepth 100000 in
theorem ec_57 : Cond.code yX5_restore cX5_restore 1 (none) ∈ GW := gt3 3 rfl rfl
set_option maxRecDepth 100000 in
theorem em_58 : EMc yX5_admits cX5_admits 5 5 (some .boolean) 4 0 := ⟨rfl, plainFor_of_name ((cls_ok (o := 5) (by decide)).1 (by decide)), (cls_ok (o := 5) (by decide)).2.1, (cls_ok (o := 5) (by decide)).2.2, fun q => absurd q (by decide), fun _ => ⟨gt6 38 rfl rfl, by decide +kernel⟩, fun _ => Or.inr (gt6 39 rfl rfl)⟩
set_option maxRecDepth 100000 in
theorem ec_58 : Cond.code yX5_admits cX5_admits 5 (some .boolean) ∈ GW := gt6 40 rfl rfl
set_option maxRecDepth 100000 in
theorem em_59 : EMc yX5_tellLimit cX5_tellLimit 5 9 (some .int) 7 0 := ⟨rfl, plainFor_of_name ((cls_ok (o := 5) (by decide)).1 (by decide)), (cls_ok (o := 5) (by decide)).2.1, (cls_ok (o := 5) (by decide)).2.2, fun q => absurd q (by decide), fun _ => ⟨gt3 90 rfl rfl, by decide +kernel⟩, fun _ => Or.inr (gt3 91 rfl rfl)⟩
set_option maxRecDepth 100000 in
theorem ec_59 : Cond.code yX5_tellLimit cX5_tellLimit 9 (some .int) ∈ GW := gt3 92 rfl rfl
set_option maxRecDepth 100000 in
theorem em_60 : EMc yX5_tellMarket cX5_tellMarket 5 5 (some .int) 4 0 := ⟨rfl, plainFor_of_name ((cls_ok (o := 5) (by decide)).1 (by decide)), (cls_ok (o := 5) (by decide)).2.1, (cls_ok (o := 5) (by decide)).2.2, fun q => absurd q (by decide), fun _ => ⟨gt3 221 rfl rfl, by decide +kernel⟩, fun _ => Or.inr (gt3 222 rfl rfl)⟩
set_option maxRecDepth 100000 in
theorem ec_60 : Cond.code yX5_tellMarket cX5_tellMarket 5 (some .int) ∈ GW := gt3 223 rfl rfl
set_option maxRecDepth 100000 in
theorem em_61 : EMc yX5_tellIceberg cX5_tellIceberg 5 7 (some .int) 6 0 := ⟨rfl, plainFor_of_name ((cls_ok (o := 5) (by decide)).1 (by decide)), (cls_ok (o := 5) (by decide)).2.1, (cls_ok (o := 5) (by decide)).2.2, fun q => absurd q (by decide), fun _ => ⟨gt3 225 rfl rfl, by decide +kernel⟩, fun _ => Or.inr (gt3 226 rfl rfl)⟩
set_option maxRecDepth 100000 in
theorem ec_61 : Cond.code yX5_tellIceberg cX5_tellIceberg 7 (some .int) ∈ GW := gt3 227 rfl rfl
set_option maxRecDepth 100000 in
theorem em_62 : EMc yX5_tellPeg cX5_tellPeg 5 7 (some .int) 6 0 := ⟨rfl, plainFor_of_name ((cls_ok (o := 5) (by decide)).1 (by decide)), (cls_ok (o := 5) (by decide)).2.1, (cls_ok (o := 5) (by decide)).2.2, fun q => absurd q (by decide), fun _ => ⟨gt3 229 rfl rfl, by decide +kernel⟩, fun _ => Or.inr (gt3 230 rfl rfl)⟩
set_option maxRecDepth 100000 in
theorem ec_62 : Cond.code yX5_tellPeg cX5_tellPeg 7 (some .int) ∈ GW := gt3 231 rfl rfl
set_option maxRecDepth 100000 in
theorem em_63 : EMc yX5_tellStop cX5_tellStop 5 8 (some .int) 6 0 := ⟨rfl, plainFor_of_name ((cls_ok (o := 5) (by decide)).1 (by decide)), (cls_ok (o := 5) (by decide)).2.1, (cls_ok (o := 5) (by decide)).2.2, fun q => absurd q (by decide), fun _ => ⟨gt3 233 rfl rfl, by decide +kernel⟩, fun _ => Or.inr (gt3 234 rfl rfl)⟩
set_option maxRecDepth 100000 in
theorem ec_63 : Cond.code yX5_tellStop cX5_tellStop 8 (some .int) ∈ GW := gt3 235 rfl rfl
set_option maxRecDepth 100000 in
theorem em_64 : EMc yX5_tellQuote cX5_tellQuote 5 10 (some .int) 6 0 := ⟨rfl, plainFor_of_name ((cls_ok (o := 5) (by decide)).1 (by decide)), (cls_ok (o := 5) (by decide)).2.1, (cls_ok (o := 5) (by decide)).2.2, fun q => absurd q (by decide), fun _ => ⟨gt3 237 rfl rfl, by decide +kernel⟩, fun _ => Or.inr (gt3 238 rfl rfl)⟩
set_option maxRecDepth 100000 in
theorem ec_64 : Cond.code yX5_tellQuote cX5_tellQuote 10 (some .int) ∈ GW := gt3 239 rfl rfl
set_option maxRecDepth 100000 in
theorem em_65 : EMc yX5_place cX5_place 5 2 (none) 2 0 := ⟨rfl, plainFor_of_name ((cls_ok (o := 5) (by decide)).1 (by decide)), (cls_ok (o := 5) (by decide)).2.1, (cls_ok (o := 5) (by decide)).2.2, fun q => absurd q (by decide), fun _ => ⟨gt3 129 rfl rfl, by decide +kernel⟩, fun _ => Or.inr (gp0 1 rfl)⟩
set_option maxRecDepth 100000 in
theorem ec_65 : Cond.code yX5_place cX5_place 2 (none) ∈ GW := gt3 130 rfl rfl
set_option maxRecDepth 100000 in
theorem em_66 : EMc yX5_letPass cX5_letPass 5 7 (some .int) 2 0 := ⟨rfl, plainFor_of_name ((cls_ok (o := 5) (by decide)).1 (by decide)), (cls_ok (o := 5) (by decide)).2.1, (cls_ok (o := 5) (by decide)).2.2, fun q => absurd q (by decide), fun _ => ⟨gt4 36 rfl rfl, by decide +kernel⟩, fun _ => Or.inr (gt4 37 rfl rfl)⟩
set_option maxRecDepth 100000 in
theorem ec_66 : Cond.code yX5_letPass cX5_letPass 7 (some .int) ∈ GW := gt4 38 rfl rfl
set_option maxRecDepth 100000 in
theorem em_67 : EMc yX5_undo cX5_undo 5 4 (some .int) 2 0 := ⟨rfl, plainFor_of_name ((cls_ok (o := 5) (by decide)).1 (by decide)), (cls_ok (o := 5) (by decide)).2.1, (cls_ok (o := 5) (by decide)).2.2, fun q => absurd q (by decide), fun _ => ⟨gt4 172 rfl rfl, by decide +kernel⟩, fun _ => Or.inr (gt4 173 rfl rfl)⟩
set_option maxRecDepth 100000 in
theorem ec_67 : Cond.code yX5_undo cX5_undo 4 (some .int) ∈ GW := gt4 174 rfl rfl
set_option maxRecDepth 100000 in
theorem em_68 : EMc yX5_convertContract cX5_convertContract 5 6 (some .int) 4 0 := ⟨rfl, plainFor_of_name ((cls_ok (o := 5) (by decide)).1 (by decide)), (cls_ok (o := 5) (by decide)).2.1, (cls_ok (o := 5) (by decide)).2.2, fun q => absurd q (by decide), fun _ => ⟨gt4 230 rfl rfl, by decide +kernel⟩, fun _ => Or.inr (gt4 231 rfl rfl)⟩
set_option maxRecDepth 100000 in
theorem ec_68 : Cond.code yX5_convertContract cX5_convertContract 6 (some .int) ∈ GW := gt4 232 rfl rfl
set_option maxRecDepth 100000 in
theorem em_69 : EMc yX5_convertPrice cX5_convertPrice 5 4 (some .int) 3 1 := ⟨rfl, plainFor_of_name ((cls_ok (o := 5) (by decide)).1 (by decide)), (cls_ok (o := 5) (by decide)).2.1, (cls_ok (o := 5) (by decide)).2.2, fun _ => ⟨gt5 7 rfl rfl, by decide +kernel⟩, fun q => absurd q (by decide), fun q => absurd q (by decide)⟩
set_option maxRecDepth 100000 in
theorem ec_69 : Cond.code yX5_convertPrice cX5_convertPrice 4 (some .int) ∈ GW := gt5 8 rfl rfl
set_option maxRecDepth 100000 in
theorem em_70 : EMc yX5_failMember cX5_failMember 5 2 (some .int) 2 0 := ⟨rfl, plainFor_of_name ((cls_ok (o := 5) (by decide)).1 (by decide)), (cls_ok (o := 5) (by decide)).2.1, (cls_ok (o := 5) (by decide)).2.2, fun q => absurd q (by decide), fun _ => ⟨gt5 88 rfl rfl, by decide +kernel⟩, fun _ => Or.inr (gt5 89 rfl rfl)⟩
set_option maxRecDepth 100000 in
theorem ec_70 : Cond.code yX5_failMember cX5_failMember 2 (some .int) ∈ GW := gt5 90 rfl rfl
set_option maxRecDepth 100000 in
theorem em_71 : EMc yX5_work cX5_work 5 3 (none) 1 0 := ⟨rfl, plainFor_of_name ((cls_ok (o := 5) (by decide)).1 (by decide)), (cls_ok (o := 5) (by decide)).2.1, (cls_ok (o := 5) (by decide)).2.2, fun q => absurd q (by decide), fun _ => ⟨gt4 85 rfl rfl, by decide +kernel⟩, fun _ => Or.inr (gt4 86 rfl rfl)⟩
set_option maxRecDepth 100000 in
theorem ec_71 : Cond.code yX5_work cX5_work 3 (none) ∈ GW := gt4 87 rfl rfl
set_option maxRecDepth 100000 in
theorem em_72 : EMc yX6_init cX6_init 6 4 (none) 3 0 := ⟨rfl, plainFor_of_name ((cls_ok (o := 6) (by decide)).1 (by decide)), (cls_ok (o := 6) (by decide)).2.1, (cls_ok (o := 6) (by decide)).2.2, fun q => absurd q (by decide), fun _ => ⟨gt1 238 rfl rfl, by decide +kernel⟩, fun _ => Or.inl rfl⟩
set_option maxRecDepth 100000 in
theorem ec_72 : Cond.code yX6_init cX6_init 4 (none) ∈ GW := gt1 239 rfl rfl
set_option maxRecDepth 100000 in
theorem em_73 : EMc yX6_restore cX6_restore 6 5 (none) 1 0 := ⟨rfl, plainFor_of_name ((cls_ok (o := 6) (by decide)).1 (by decide)), (cls_ok (o := 6) (by decide)).2.1, (cls_ok (o := 6) (by decide)).2.2, fun q => absurd q (by decide), fun _ => ⟨gt3 5 rfl rfl, by decide +kernel⟩, fun _ => Or.inr (gt3 6 rfl rfl)⟩
set_option maxRecDepth 100000 in
theorem ec_73 : Cond.code yX6_restore cX6_restore 5 (none) ∈ GW := gt3 7 rfl rfl
set_option maxRecDepth 100000 in
theorem em_74 : EMc yX6_bookAt cX6_bookAt 6 2 (some (.object "Openbook$Book")) 2 0 := ⟨rfl, plainFor_of_name ((cls_ok (o := 6) (by decide)).1 (by decide)), (cls_ok (o := 6) (by decide)).2.1, (cls_ok (o := 6) (by decide)).2.2, fun q => absurd q (by decide), fun _ => ⟨gt3 95 rfl rfl, by decide +kernel⟩, fun _ => Or.inr (gt3 96 rfl rfl)⟩
set_option maxRecDepth 100000 in
theorem ec_74 : Cond.code yX6_bookAt cX6_bookAt 2 (some (.object "Openbook$Book")) ∈ GW := gt3 97 rfl rfl
set_option maxRecDepth 100000 in
theorem em_75 : EMc yX6_find cX6_find 6 6 (some (.object "Openbook$Order")) 2 0 := ⟨rfl, plainFor_of_name ((cls_ok (o := 6) (by decide)).1 (by decide)), (cls_ok (o := 6) (by decide)).2.1, (cls_ok (o := 6) (by decide)).2.2, fun q => absurd q (by decide), fun _ => ⟨gt4 9 rfl rfl, by decide +kernel⟩, fun _ => Or.inr (gt4 10 rfl rfl)⟩
set_option maxRecDepth 100000 in
theorem ec_75 : Cond.code yX6_find cX6_find 6 (some (.object "Openbook$Order")) ∈ GW := gt4 11 rfl rfl
set_option maxRecDepth 100000 in
theorem em_76 : EMc yX6_countLive cX6_countLive 6 6 (some .int) 1 0 := ⟨rfl, plainFor_of_name ((cls_ok (o := 6) (by decide)).1 (by decide)), (cls_ok (o := 6) (by decide)).2.1, (cls_ok (o := 6) (by decide)).2.2, fun q => absurd q (by decide), fun _ => ⟨gt6 43 rfl rfl, by decide +kernel⟩, fun _ => Or.inr (gt6 44 rfl rfl)⟩
set_option maxRecDepth 100000 in
theorem ec_76 : Cond.code yX6_countLive cX6_countLive 6 (some .int) ∈ GW := gt6 45 rfl rfl
set_option maxRecDepth 100000 in
theorem em_77 : EMc yX6_draw cX6_draw 6 10 (some (.object "Openbook$Order")) 6 0 := ⟨rfl, plainFor_of_name ((cls_ok (o := 6) (by decide)).1 (by decide)), (cls_ok (o := 6) (by decide)).2.1, (cls_ok (o := 6) (by decide)).2.2, fun q => absurd q (by decide), fun _ => ⟨gt3 99 rfl rfl, by decide +kernel⟩, fun _ => Or.inr (gt3 100 rfl rfl)⟩
set_option maxRecDepth 100000 in
theorem ec_77 : Cond.code yX6_draw cX6_draw 10 (some (.object "Openbook$Order")) ∈ GW := gt3 101 rfl rfl
set_option maxRecDepth 100000 in
theorem em_78 : EMc yX6_stand cX6_stand 6 2 (none) 2 0 := ⟨rfl, plainFor_of_name ((cls_ok (o := 6) (by decide)).1 (by decide)), (cls_ok (o := 6) (by decide)).2.1, (cls_ok (o := 6) (by decide)).2.2, fun q => absurd q (by decide), fun _ => ⟨gt3 132 rfl rfl, by decide +kernel⟩, fun _ => Or.inr (gt3 133 rfl rfl)⟩
set_option maxRecDepth 100000 in
theorem ec_78 : Cond.code yX6_stand cX6_stand 2 (none) ∈ GW := gt3 134 rfl rfl
set_option maxRecDepth 100000 in
theorem em_79 : EMc yX6_nextTurn cX6_nextTurn 6 1 (some .int) 1 0 := ⟨rfl, plainFor_of_name ((cls_ok (o := 6) (by decide)).1 (by decide)), (cls_ok (o := 6) (by decide)).2.1, (cls_ok (o := 6) (by decide)).2.2, fun q => absurd q (by decide), fun _ => ⟨gt3 143 rfl rfl, by decide +kernel⟩, fun _ => Or.inr (gt3 144 rfl rfl)⟩
set_option maxRecDepth 100000 in
theorem ec_79 : Cond.code yX6_nextTurn cX6_nextTurn 1 (some .int) ∈ GW := gt3 145 rfl rfl
set_option maxRecDepth 100000 in
theorem em_80 : EMc yX6_showAnew cX6_showAnew 6 2 (none) 2 0 := ⟨rfl, plainFor_of_name ((cls_ok (o := 6) (by decide)).1 (by decide)), (cls_ok (o := 6) (by decide)).2.1, (cls_ok (o := 6) (by decide)).2.2, fun q => absurd q (by decide), fun _ => ⟨gt3 212 rfl rfl, by decide +kernel⟩, fun _ => Or.inr (gt3 213 rfl rfl)⟩
set_option maxRecDepth 100000 in
theorem ec_80 : Cond.code yX6_showAnew cX6_showAnew 2 (none) ∈ GW := gt3 214 rfl rfl
set_option maxRecDepth 100000 in
theorem em_81 : EMc yX6_bestPrice cX6_bestPrice 6 9 (some .int) 4 0 := ⟨rfl, plainFor_of_name ((cls_ok (o := 6) (by decide)).1 (by decide)), (cls_ok (o := 6) (by decide)).2.1, (cls_ok (o := 6) (by decide)).2.2, fun q => absurd q (by decide), fun _ => ⟨gt3 152 rfl rfl, by decide +kernel⟩, fun _ => Or.inr (gt3 153 rfl rfl)⟩
set_option maxRecDepth 100000 in
theorem ec_81 : Cond.code yX6_bestPrice cX6_bestPrice 9 (some .int) ∈ GW := gt3 154 rfl rfl
set_option maxRecDepth 100000 in
theorem em_82 : EMc yX6_firstOf cX6_firstOf 6 9 (some (.object "Openbook$Order")) 3 0 := ⟨rfl, plainFor_of_name ((cls_ok (o := 6) (by decide)).1 (by decide)), (cls_ok (o := 6) (by decide)).2.1, (cls_ok (o := 6) (by decide)).2.2, fun q => absurd q (by decide), fun _ => ⟨gt4 115 rfl rfl, by decide +kernel⟩, fun _ => Or.inr (gt4 116 rfl rfl)⟩
set_option maxRecDepth 100000 in
theorem ec_82 : Cond.code yX6_firstOf cX6_firstOf 9 (some (.object "Openbook$Order")) ∈ GW := gt4 117 rfl rfl
set_option maxRecDepth 100000 in
theorem em_83 : EMc yX6_sumShown cX6_sumShown 6 9 (some .int) 4 0 := ⟨rfl, plainFor_of_name ((cls_ok (o := 6) (by decide)).1 (by decide)), (cls_ok (o := 6) (by decide)).2.1, (cls_ok (o := 6) (by decide)).2.2, fun q => absurd q (by decide), fun _ => ⟨gt7 99 rfl rfl, by decide +kernel⟩, fun _ => Or.inr (gt7 100 rfl rfl)⟩
set_option maxRecDepth 100000 in
theorem ec_83 : Cond.code yX6_sumShown cX6_sumShown 9 (some .int) ∈ GW := gt7 101 rfl rfl
set_option maxRecDepth 100000 in
theorem em_84 : EMc yX6_refuses cX6_refuses 6 6 (some .boolean) 4 0 := ⟨rfl, plainFor_of_name ((cls_ok (o := 6) (by decide)).1 (by decide)), (cls_ok (o := 6) (by decide)).2.1, (cls_ok (o := 6) (by decide)).2.2, fun q => absurd q (by decide), fun _ => ⟨gt6 47 rfl rfl, by decide +kernel⟩, fun _ => Or.inr (gt6 48 rfl rfl)⟩
set_option maxRecDepth 100000 in
theorem ec_84 : Cond.code yX6_refuses cX6_refuses 6 (some .boolean) ∈ GW := gt6 49 rfl rfl
set_option maxRecDepth 100000 in
theorem em_85 : EMc yX6_reach cX6_reach 6 10 (some .long) 4 0 := ⟨rfl, plainFor_of_name ((cls_ok (o := 6) (by decide)).1 (by decide)), (cls_ok (o := 6) (by decide)).2.1, (cls_ok (o := 6) (by decide)).2.2, fun q => absurd q (by decide), fun _ => ⟨gt6 53 rfl rfl, by decide +kernel⟩, fun _ => Or.inr (gp2 3 rfl)⟩
set_option maxRecDepth 100000 in
theorem ec_85 : Cond.code yX6_reach cX6_reach 10 (some .long) ∈ GW := gt6 54 rfl rfl
set_option maxRecDepth 100000 in
theorem em_86 : EMc yX6_withdraw cX6_withdraw 6 3 (some .int) 2 0 := ⟨rfl, plainFor_of_name ((cls_ok (o := 6) (by decide)).1 (by decide)), (cls_ok (o := 6) (by decide)).2.1, (cls_ok (o := 6) (by decide)).2.2, fun q => absurd q (by decide), fun _ => ⟨gt4 5 rfl rfl, by decide +kernel⟩, fun _ => Or.inr (gt4 6 rfl rfl)⟩
set_option maxRecDepth 100000 in
theorem ec_86 : Cond.code yX6_withdraw cX6_withdraw 3 (some .int) ∈ GW := gt4 7 rfl rfl
set_option maxRecDepth 100000 in
theorem em_87 : EMc yX6_withdrawQuote cX6_withdrawQuote 6 7 (none) 3 0 := ⟨rfl, plainFor_of_name ((cls_ok (o := 6) (by decide)).1 (by decide)), (cls_ok (o := 6) (by decide)).2.1, (cls_ok (o := 6) (by decide)).2.2, fun q => absurd q (by decide), fun _ => ⟨gt4 1 rfl rfl, by decide +kernel⟩, fun _ => Or.inr (gt4 2 rfl rfl)⟩
set_option maxRecDepth 100000 in
theorem ec_87 : Cond.code yX6_withdrawQuote cX6_withdrawQuote 7 (none) ∈ GW := gt4 3 rfl rfl
set_option maxRecDepth 100000 in
theorem em_88 : EMc yX6_withdrawContract cX6_withdrawContract 6 7 (some .int) 2 0 := ⟨rfl, plainFor_of_name ((cls_ok (o := 6) (by decide)).1 (by decide)), (cls_ok (o := 6) (by decide)).2.1, (cls_ok (o := 6) (by decide)).2.2, fun q => absurd q (by decide), fun _ => ⟨gt4 234 rfl rfl, by decide +kernel⟩, fun _ => Or.inr (gt4 235 rfl rfl)⟩
set_option maxRecDepth 100000 in
theorem ec_88 : Cond.code yX6_withdrawContract cX6_withdrawContract 7 (some .int) ∈ GW := gt4 236 rfl rfl
set_option maxRecDepth 100000 in
theorem em_89 : EMc yX6_withdrawMember cX6_withdrawMember 6 7 (some .int) 2 0 := ⟨rfl, plainFor_of_name ((cls_ok (o := 6) (by decide)).1 (by decide)), (cls_ok (o := 6) (by decide)).2.1, (cls_ok (o := 6) (by decide)).2.2, fun q => absurd q (by decide), fun _ => ⟨gt5 96 rfl rfl, by decide +kernel⟩, fun _ => Or.inr (gt5 97 rfl rfl)⟩
set_option maxRecDepth 100000 in
theorem ec_89 : Cond.code yX6_withdrawMember cX6_withdrawMember 7 (some .int) ∈ GW := gt5 98 rfl rfl
set_option maxRecDepth 100000 in
theorem em_90 : EMc yX6_guard cX6_guard 6 8 (none) 3 0 := ⟨rfl, plainFor_of_name ((cls_ok (o := 6) (by decide)).1 (by decide)), (cls_ok (o := 6) (by decide)).2.1, (cls_ok (o := 6) (by decide)).2.2, fun q => absurd q (by decide), fun _ => ⟨gt3 208 rfl rfl, by decide +kernel⟩, fun _ => Or.inr (gt3 209 rfl rfl)⟩
set_option maxRecDepth 100000 in
theorem ec_90 : Cond.code yX6_guard cX6_guard 8 (none) ∈ GW := gt3 210 rfl rfl
set_option maxRecDepth 100000 in
theorem em_91 : EMc yX6_countQuotes cX6_countQuotes 6 5 (none) 1 0 := ⟨rfl, plainFor_of_name ((cls_ok (o := 6) (by decide)).1 (by decide)), (cls_ok (o := 6) (by decide)).2.1, (cls_ok (o := 6) (by decide)).2.2, fun q => absurd q (by decide), fun _ => ⟨gt4 40 rfl rfl, by decide +kernel⟩, fun _ => Or.inr (gt4 41 rfl rfl)⟩
set_option maxRecDepth 100000 in
theorem ec_91 : Cond.code yX6_countQuotes cX6_countQuotes 5 (none) ∈ GW := gt4 42 rfl rfl
set_option maxRecDepth 100000 in
theorem em_92 : EMc yX6_hasOtherSide cX6_hasOtherSide 6 6 (some .boolean) 2 0 := ⟨rfl, plainFor_of_name ((cls_ok (o := 6) (by decide)).1 (by decide)), (cls_ok (o := 6) (by decide)).2.1, (cls_ok (o := 6) (by decide)).2.2, fun q => absurd q (by decide), fun _ => ⟨gt4 45 rfl rfl, by decide +kernel⟩, fun _ => Or.inr (gp0 9 rfl)⟩
set_option maxRecDepth 100000 in
theorem ec_92 : Cond.code yX6_hasOtherSide cX6_hasOtherSide 6 (some .boolean) ∈ GW := gt4 46 rfl rfl
set_option maxRecDepth 100000 in
theorem em_93 : EMc yX6_hasAuction cX6_hasAuction 6 5 (some .boolean) 1 0 := ⟨rfl, plainFor_of_name ((cls_ok (o := 6) (by decide)).1 (by decide)), (cls_ok (o := 6) (by decide)).2.1, (cls_ok (o := 6) (by decide)).2.2, fun q => absurd q (by decide), fun _ => ⟨gt6 186 rfl rfl, by decide +kernel⟩, fun _ => Or.inr (gt6 187 rfl rfl)⟩
set_option maxRecDepth 100000 in
theorem ec_93 : Cond.code yX6_hasAuction cX6_hasAuction 5 (some .boolean) ∈ GW := gt6 188 rfl rfl
set_option maxRecDepth 100000 in
theorem em_94 : EMc yX6_beginAuction cX6_beginAuction 6 4 (some .int) 4 0 := ⟨rfl, plainFor_of_name ((cls_ok (o := 6) (by decide)).1 (by decide)), (cls_ok (o := 6) (by decide)).2.1, (cls_ok (o := 6) (by decide)).2.2, fun q => absurd q (by decide), fun _ => ⟨gt3 163 rfl rfl, by decide +kernel⟩, fun _ => Or.inr (gt3 164 rfl rfl)⟩
set_option maxRecDepth 100000 in
theorem ec_94 : Cond.code yX6_beginAuction cX6_beginAuction 4 (some .int) ∈ GW := gt3 165 rfl rfl
set_option maxRecDepth 100000 in
theorem em_95 : EMc yX6_openBook cX6_openBook 6 6 (none) 2 0 := ⟨rfl, plainFor_of_name ((cls_ok (o := 6) (by decide)).1 (by decide)), (cls_ok (o := 6) (by decide)).2.1, (cls_ok (o := 6) (by decide)).2.2, fun q => absurd q (by decide), fun _ => ⟨gt4 81 rfl rfl, by decide +kernel⟩, fun _ => Or.inr (gt4 82 rfl rfl)⟩
set_option maxRecDepth 100000 in
theorem ec_95 : Cond.code yX6_openBook cX6_openBook 6 (none) ∈ GW := gt4 83 rfl rfl
set_option maxRecDepth 100000 in
theorem em_96 : EMc yX6_turnDay cX6_turnDay 6 6 (some .int) 1 0 := ⟨rfl, plainFor_of_name ((cls_ok (o := 6) (by decide)).1 (by decide)), (cls_ok (o := 6) (by decide)).2.1, (cls_ok (o := 6) (by decide)).2.2, fun q => absurd q (by decide), fun _ => ⟨gt4 168 rfl rfl, by decide +kernel⟩, fun _ => Or.inr (gt4 169 rfl rfl)⟩
set_option maxRecDepth 100000 in
theorem ec_96 : Cond.code yX6_turnDay cX6_turnDay 6 (some .int) ∈ GW := gt4 170 rfl rfl
set_option maxRecDepth 100000 in
theorem em_97 : EMc yX6_dueStop cX6_dueStop 6 6 (some (.object "Openbook$Order")) 1 0 := ⟨rfl, plainFor_of_name ((cls_ok (o := 6) (by decide)).1 (by decide)), (cls_ok (o := 6) (by decide)).2.1, (cls_ok (o := 6) (by decide)).2.2, fun q => absurd q (by decide), fun _ => ⟨gt4 90 rfl rfl, by decide +kernel⟩, fun _ => Or.inr (gt4 91 rfl rfl)⟩
set_option maxRecDepth 100000 in
theorem ec_97 : Cond.code yX6_dueStop cX6_dueStop 6 (some (.object "Openbook$Order")) ∈ GW := gt4 92 rfl rfl
set_option maxRecDepth 100000 in
theorem em_98 : EMc yX6_holdStops cX6_holdStops 6 7 (none) 3 0 := ⟨rfl, plainFor_of_name ((cls_ok (o := 6) (by decide)).1 (by decide)), (cls_ok (o := 6) (by decide)).2.1, (cls_ok (o := 6) (by decide)).2.2, fun q => absurd q (by decide), fun _ => ⟨gt4 182 rfl rfl, by decide +kernel⟩, fun _ => Or.inr (gt4 183 rfl rfl)⟩
set_option maxRecDepth 100000 in
theorem ec_98 : Cond.code yX6_holdStops cX6_holdStops 7 (none) ∈ GW := gt4 184 rfl rfl
set_option maxRecDepth 100000 in
theorem em_99 : EMc yX6_pricePegs cX6_pricePegs 6 4 (none) 1 0 := ⟨rfl, plainFor_of_name ((cls_ok (o := 6) (by decide)).1 (by decide)), (cls_ok (o := 6) (by decide)).2.1, (cls_ok (o := 6) (by decide)).2.2, fun q => absurd q (by decide), fun _ => ⟨gt4 145 rfl rfl, by decide +kernel⟩, fun _ => Or.inr (gt4 146 rfl rfl)⟩
set_option maxRecDepth 100000 in
theorem ec_99 : Cond.code yX6_pricePegs cX6_pricePegs 4 (none) ∈ GW := gt4 147 rfl rfl
set_option maxRecDepth 100000 in
theorem em_100 : EMc yX6_nextPeg cX6_nextPeg 6 7 (some (.object "Openbook$Order")) 2 0 := ⟨rfl, plainFor_of_name ((cls_ok (o := 6) (by decide)).1 (by decide)), (cls_ok (o := 6) (by decide)).2.1, (cls_ok (o := 6) (by decide)).2.2, fun q => absurd q (by decide), fun _ => ⟨gt4 150 rfl rfl, by decide +kernel⟩, fun _ => Or.inr (gp1 0 rfl)⟩
set_option maxRecDepth 100000 in
theorem ec_100 : Cond.code yX6_nextPeg cX6_nextPeg 7 (some (.object "Openbook$Order")) ∈ GW := gt4 151 rfl rfl
set_option maxRecDepth 100000 in
theorem em_101 : EMc yX6_pegPrice cX6_pegPrice 6 4 (some .int) 2 0 := ⟨rfl, plainFor_of_name ((cls_ok (o := 6) (by decide)).1 (by decide)), (cls_ok (o := 6) (by decide)).2.1, (cls_ok (o := 6) (by decide)).2.2, fun q => absurd q (by decide), fun _ => ⟨gt4 154 rfl rfl, by decide +kernel⟩, fun _ => Or.inr (gp1 1 rfl)⟩
set_option maxRecDepth 100000 in
theorem ec_101 : Cond.code yX6_pegPrice cX6_pegPrice 4 (some .int) ∈ GW := gt4 155 rfl rfl
set_option maxRecDepth 100000 in
theorem em_102 : EMc yX6_movePeg cX6_movePeg 6 3 (none) 3 0 := ⟨rfl, plainFor_of_name ((cls_ok (o := 6) (by decide)).1 (by decide)), (cls_ok (o := 6) (by decide)).2.1, (cls_ok (o := 6) (by decide)).2.2, fun q => absurd q (by decide), fun _ => ⟨gt4 161 rfl rfl, by decide +kernel⟩, fun _ => Or.inr (gp1 2 rfl)⟩
set_option maxRecDepth 100000 in
theorem ec_102 : Cond.code yX6_movePeg cX6_movePeg 3 (none) ∈ GW := gt4 162 rfl rfl
set_option maxRecDepth 100000 in
theorem em_103 : EMc yX7_init cX7_init 7 3 (none) 2 0 := ⟨rfl, plainFor_of_name ((cls_ok (o := 7) (by decide)).1 (by decide)), (cls_ok (o := 7) (by decide)).2.1, (cls_ok (o := 7) (by decide)).2.2, fun q => absurd q (by decide), fun _ => ⟨gt1 123 rfl rfl, by decide +kernel⟩, fun _ => Or.inl rfl⟩
set_option maxRecDepth 100000 in
theorem ec_103 : Cond.code yX7_init cX7_init 3 (none) ∈ GW := gt1 124 rfl rfl
set_option maxRecDepth 100000 in
theorem em_104 : EMc yX7_restore cX7_restore 7 5 (none) 1 0 := ⟨rfl, plainFor_of_name ((cls_ok (o := 7) (by decide)).1 (by decide)), (cls_ok (o := 7) (by decide)).2.1, (cls_ok (o := 7) (by decide)).2.2, fun q => absurd q (by decide), fun _ => ⟨gt3 17 rfl rfl, by decide +kernel⟩, fun _ => Or.inr (gt3 18 rfl rfl)⟩
set_option maxRecDepth 100000 in
theorem ec_104 : Cond.code yX7_restore cX7_restore 5 (none) ∈ GW := gt3 19 rfl rfl
set_option maxRecDepth 100000 in
theorem em_105 : EMc yX7_accountAt cX7_accountAt 7 2 (some (.object "Openbook$Account")) 2 0 := ⟨rfl, plainFor_of_name ((cls_ok (o := 7) (by decide)).1 (by decide)), (cls_ok (o := 7) (by decide)).2.1, (cls_ok (o := 7) (by decide)).2.2, fun q => absurd q (by decide), fun _ => ⟨gt1 234 rfl rfl, by decide +kernel⟩, fun _ => Or.inr (gt1 235 rfl rfl)⟩
set_option maxRecDepth 100000 in
theorem ec_105 : Cond.code yX7_accountAt cX7_accountAt 2 (some (.object "Openbook$Account")) ∈ GW := gt1 236 rfl rfl
set_option maxRecDepth 100000 in
theorem em_106 : EMc yX7_record cX7_record 7 7 (none) 6 0 := ⟨rfl, plainFor_of_name ((cls_ok (o := 7) (by decide)).1 (by decide)), (cls_ok (o := 7) (by decide)).2.1, (cls_ok (o := 7) (by decide)).2.2, fun q => absurd q (by decide), fun _ => ⟨gt3 192 rfl rfl, by decide +kernel⟩, fun _ => Or.inr (gt3 193 rfl rfl)⟩
set_option maxRecDepth 100000 in
theorem ec_106 : Cond.code yX7_record cX7_record 7 (none) ∈ GW := gt3 194 rfl rfl
set_option maxRecDepth 100000 in
theorem em_107 : EMc yX7_find cX7_find 7 4 (some (.object "Openbook$Deal")) 2 0 := ⟨rfl, plainFor_of_name ((cls_ok (o := 7) (by decide)).1 (by decide)), (cls_ok (o := 7) (by decide)).2.1, (cls_ok (o := 7) (by decide)).2.2, fun q => absurd q (by decide), fun _ => ⟨gt4 105 rfl rfl, by decide +kernel⟩, fun _ => Or.inr (gt4 106 rfl rfl)⟩
set_option maxRecDepth 100000 in
theorem ec_107 : Cond.code yX7_find cX7_find 4 (some (.object "Openbook$Deal")) ∈ GW := gt4 107 rfl rfl
set_option maxRecDepth 100000 in
theorem em_108 : EMc yX7_latestOf cX7_latestOf 7 5 (some .int) 2 0 := ⟨rfl, plainFor_of_name ((cls_ok (o := 7) (by decide)).1 (by decide)), (cls_ok (o := 7) (by decide)).2.1, (cls_ok (o := 7) (by decide)).2.2, fun q => absurd q (by decide), fun _ => ⟨gt4 98 rfl rfl, by decide +kernel⟩, fun _ => Or.inr (gt4 99 rfl rfl)⟩
set_option maxRecDepth 100000 in
theorem ec_108 : Cond.code yX7_latestOf cX7_latestOf 5 (some .int) ∈ GW := gt4 100 rfl rfl
set_option maxRecDepth 100000 in
theorem em_109 : EMc yX7_reverse cX7_reverse 7 6 (some .int) 2 0 := ⟨rfl, plainFor_of_name ((cls_ok (o := 7) (by decide)).1 (by decide)), (cls_ok (o := 7) (by decide)).2.1, (cls_ok (o := 7) (by decide)).2.2, fun q => absurd q (by decide), fun _ => ⟨gt4 176 rfl rfl, by decide +kernel⟩, fun _ => Or.inr (gt4 177 rfl rfl)⟩
set_option maxRecDepth 100000 in
theorem ec_109 : Cond.code yX7_reverse cX7_reverse 6 (some .int) ∈ GW := gt4 178 rfl rfl
set_option maxRecDepth 100000 in
theorem em_110 : EMc yX7_reprice cX7_reprice 7 7 (some .int) 3 0 := ⟨rfl, plainFor_of_name ((cls_ok (o := 7) (by decide)).1 (by decide)), (cls_ok (o := 7) (by decide)).2.1, (cls_ok (o := 7) (by decide)).2.2, fun q => absurd q (by decide), fun _ => ⟨gt4 186 rfl rfl, by decide +kernel⟩, fun _ => Or.inr (gt4 187 rfl rfl)⟩
set_option maxRecDepth 100000 in
theorem ec_110 : Cond.code yX7_reprice cX7_reprice 7 (some .int) ∈ GW := gt4 188 rfl rfl
set_option maxRecDepth 100000 in
theorem em_111 : EMc yX7_replaceSide cX7_replaceSide 7 8 (some .int) 4 0 := ⟨rfl, plainFor_of_name ((cls_ok (o := 7) (by decide)).1 (by decide)), (cls_ok (o := 7) (by decide)).2.1, (cls_ok (o := 7) (by decide)).2.2, fun q => absurd q (by decide), fun _ => ⟨gt4 190 rfl rfl, by decide +kernel⟩, fun _ => Or.inr (gt4 191 rfl rfl)⟩
set_option maxRecDepth 100000 in
theorem ec_111 : Cond.code yX7_replaceSide cX7_replaceSide 8 (some .int) ∈ GW := gt4 192 rfl rfl
set_option maxRecDepth 100000 in
theorem em_112 : EMc yX7_averageOf cX7_averageOf 7 13 (some .int) 4 0 := ⟨rfl, plainFor_of_name ((cls_ok (o := 7) (by decide)).1 (by decide)), (cls_ok (o := 7) (by decide)).2.1, (cls_ok (o := 7) (by decide)).2.2, fun q => absurd q (by decide), fun _ => ⟨gt4 199 rfl rfl, by decide +kernel⟩, fun _ => Or.inr (gt4 200 rfl rfl)⟩
set_option maxRecDepth 100000 in
theorem ec_112 : Cond.code yX7_averageOf cX7_averageOf 13 (some .int) ∈ GW := gt4 201 rfl rfl
set_option maxRecDepth 100000 in
theorem em_113 : EMc yX7_canAllot cX7_canAllot 7 7 (some .boolean) 4 0 := ⟨rfl, plainFor_of_name ((cls_ok (o := 7) (by decide)).1 (by decide)), (cls_ok (o := 7) (by decide)).2.1, (cls_ok (o := 7) (by decide)).2.2, fun q => absurd q (by decide), fun _ => ⟨gt6 224 rfl rfl, by decide +kernel⟩, fun _ => Or.inr (gt6 225 rfl rfl)⟩
set_option maxRecDepth 100000 in
theorem ec_113 : Cond.code yX7_canAllot cX7_canAllot 7 (some .boolean) ∈ GW := gt6 226 rfl rfl
set_option maxRecDepth 100000 in
theorem em_114 : EMc yX7_allotLots cX7_allotLots 7 8 (some .int) 5 0 := ⟨rfl, plainFor_of_name ((cls_ok (o := 7) (by decide)).1 (by decide)), (cls_ok (o := 7) (by decide)).2.1, (cls_ok (o := 7) (by decide)).2.2, fun q => absurd q (by decide), fun _ => ⟨gt4 195 rfl rfl, by decide +kernel⟩, fun _ => Or.inr (gt4 196 rfl rfl)⟩
set_option maxRecDepth 100000 in
theorem ec_114 : Cond.code yX7_allotLots cX7_allotLots 8 (some .int) ∈ GW := gt4 197 rfl rfl
set_option maxRecDepth 100000 in
theorem em_115 : EMc yX7_exerciseLots cX7_exerciseLots 7 8 (some .int) 4 0 := ⟨rfl, plainFor_of_name ((cls_ok (o := 7) (by decide)).1 (by decide)), (cls_ok (o := 7) (by decide)).2.1, (cls_ok (o := 7) (by decide)).2.2, fun q => absurd q (by decide), fun _ => ⟨gt4 218 rfl rfl, by decide +kernel⟩, fun _ => Or.inr (gt4 219 rfl rfl)⟩
set_option maxRecDepth 100000 in
theorem ec_115 : Cond.code yX7_exerciseLots cX7_exerciseLots 8 (some .int) ∈ GW := gt4 220 rfl rfl
set_option maxRecDepth 100000 in
theorem em_116 : EMc yX7_assign cX7_assign 7 11 (some .int) 2 0 := ⟨rfl, plainFor_of_name ((cls_ok (o := 7) (by decide)).1 (by decide)), (cls_ok (o := 7) (by decide)).2.1, (cls_ok (o := 7) (by decide)).2.2, fun q => absurd q (by decide), fun _ => ⟨gt4 227 rfl rfl, by decide +kernel⟩, fun _ => Or.inr (gp1 3 rfl)⟩
set_option maxRecDepth 100000 in
theorem ec_116 : Cond.code yX7_assign cX7_assign 11 (some .int) ∈ GW := gt4 228 rfl rfl
set_option maxRecDepth 100000 in
theorem em_117 : EMc yX7_canConvert cX7_canConvert 7 5 (some .boolean) 4 0 := ⟨rfl, plainFor_of_name ((cls_ok (o := 7) (by decide)).1 (by decide)), (cls_ok (o := 7) (by decide)).2.1, (cls_ok (o := 7) (by decide)).2.2, fun q => absurd q (by decide), fun _ => ⟨gt7 3 rfl rfl, by decide +kernel⟩, fun _ => Or.inr (gt7 4 rfl rfl)⟩
set_option maxRecDepth 100000 in
theorem ec_117 : Cond.code yX7_canConvert cX7_canConvert 5 (some .boolean) ∈ GW := gt7 5 rfl rfl
set_option maxRecDepth 100000 in
theorem em_118 : EMc yX7_scaled cX7_scaled 7 3 (some .long) 3 1 := ⟨rfl, plainFor_of_name ((cls_ok (o := 7) (by decide)).1 (by decide)), (cls_ok (o := 7) (by decide)).2.1, (cls_ok (o := 7) (by decide)).2.2, fun _ => ⟨gt5 16 rfl rfl, by decide +kernel⟩, fun q => absurd q (by decide), fun q => absurd q (by decide)⟩
set_option maxRecDepth 100000 in
theorem ec_118 : Cond.code yX7_scaled cX7_scaled 3 (some .long) ∈ GW := gt5 17 rfl rfl
set_option maxRecDepth 100000 in
theorem em_119 : EMc yX7_convertPositions cX7_convertPositions 7 17 (none) 5 0 := ⟨rfl, plainFor_of_name ((cls_ok (o := 7) (by decide)).1 (by decide)), (cls_ok (o := 7) (by decide)).2.1, (cls_ok (o := 7) (by decide)).2.2, fun q => absurd q (by decide), fun _ => ⟨gt5 12 rfl rfl, by decide +kernel⟩, fun _ => Or.inr (gt5 13 rfl rfl)⟩
set_option maxRecDepth 100000 in
theorem ec_119 : Cond.code yX7_convertPositions cX7_convertPositions 17 (none) ∈ GW := gt5 14 rfl rfl
set_option maxRecDepth 100000 in
theorem em_120 : EMc yX7_forget cX7_forget 7 6 (none) 2 0 := ⟨rfl, plainFor_of_name ((cls_ok (o := 7) (by decide)).1 (by decide)), (cls_ok (o := 7) (by decide)).2.1, (cls_ok (o := 7) (by decide)).2.2, fun q => absurd q (by decide), fun _ => ⟨gt5 2 rfl rfl, by decide +kernel⟩, fun _ => Or.inr (gt5 3 rfl rfl)⟩
set_option maxRecDepth 100000 in
theorem ec_120 : Cond.code yX7_forget cX7_forget 6 (none) ∈ GW := gt5 4 rfl rfl
set_option maxRecDepth 100000 in
theorem em_121 : EMc yX8_init cX8_init 8 4 (none) 3 0 := ⟨rfl, plainFor_of_name ((cls_ok (o := 8) (by decide)).1 (by decide)), (cls_ok (o := 8) (by decide)).2.1, (cls_ok (o := 8) (by decide)).2.2, fun q => absurd q (by decide), fun _ => ⟨gt2 129 rfl rfl, by decide +kernel⟩, fun _ => Or.inl rfl⟩
set_option maxRecDepth 100000 in
theorem ec_121 : Cond.code yX8_init cX8_init 4 (none) ∈ GW := gt2 130 rfl rfl
set_option maxRecDepth 100000 in
theorem em_122 : EMc yX8_reachable cX8_reachable 8 8 (some .long) 2 0 := ⟨rfl, plainFor_of_name ((cls_ok (o := 8) (by decide)).1 (by decide)), (cls_ok (o := 8) (by decide)).2.1, (cls_ok (o := 8) (by decide)).2.2, fun q => absurd q (by decide), fun _ => ⟨gt3 111 rfl rfl, by decide +kernel⟩, fun _ => Or.inr (gt3 112 rfl rfl)⟩
set_option maxRecDepth 100000 in
theorem ec_122 : Cond.code yX8_reachable cX8_reachable 8 (some .long) ∈ GW := gt3 113 rfl rfl
set_option maxRecDepth 100000 in
theorem em_123 : EMc yX8_match cX8_match 8 9 (none) 2 0 := ⟨rfl, plainFor_of_name ((cls_ok (o := 8) (by decide)).1 (by decide)), (cls_ok (o := 8) (by decide)).2.1, (cls_ok (o := 8) (by decide)).2.2, fun q => absurd q (by decide), fun _ => ⟨gt3 147 rfl rfl, by decide +kernel⟩, fun _ => Or.inr (gt3 148 rfl rfl)⟩
set_option maxRecDepth 100000 in
theorem ec_123 : Cond.code yX8_match cX8_match 9 (none) ∈ GW := gt3 149 rfl rfl
set_option maxRecDepth 100000 in
theorem em_124 : EMc yX8_settle cX8_settle 8 2 (none) 2 0 := ⟨rfl, plainFor_of_name ((cls_ok (o := 8) (by decide)).1 (by decide)), (cls_ok (o := 8) (by decide)).2.1, (cls_ok (o := 8) (by decide)).2.2, fun q => absurd q (by decide), fun _ => ⟨gt3 217 rfl rfl, by decide +kernel⟩, fun _ => Or.inr (gp0 8 rfl)⟩
set_option maxRecDepth 100000 in
theorem ec_124 : Cond.code yX8_settle cX8_settle 2 (none) ∈ GW := gt3 218 rfl rfl
set_option maxRecDepth 100000 in
theorem em_125 : EMc yX8_gather cX8_gather 8 12 (some .int) 3 0 := ⟨rfl, plainFor_of_name ((cls_ok (o := 8) (by decide)).1 (by decide)), (cls_ok (o := 8) (by decide)).2.1, (cls_ok (o := 8) (by decide)).2.2, fun q => absurd q (by decide), fun _ => ⟨gt3 168 rfl rfl, by decide +kernel⟩, fun _ => Or.inr (gp0 2 rfl)⟩
set_option maxRecDepth 100000 in
theorem ec_125 : Cond.code yX8_gather cX8_gather 12 (some .int) ∈ GW := gt3 169 rfl rfl
set_option maxRecDepth 100000 in
theorem em_126 : EMc yX8_meetsOwn cX8_meetsOwn 8 6 (some .boolean) 3 0 := ⟨rfl, plainFor_of_name ((cls_ok (o := 8) (by decide)).1 (by decide)), (cls_ok (o := 8) (by decide)).2.1, (cls_ok (o := 8) (by decide)).2.2, fun q => absurd q (by decide), fun _ => ⟨gt3 172 rfl rfl, by decide +kernel⟩, fun _ => Or.inr (gp0 3 rfl)⟩
set_option maxRecDepth 100000 in
theorem ec_126 : Cond.code yX8_meetsOwn cX8_meetsOwn 6 (some .boolean) ∈ GW := gt3 173 rfl rfl
set_option maxRecDepth 100000 in
theorem em_127 : EMc yX8_share cX8_share 8 7 (none) 4 0 := ⟨rfl, plainFor_of_name ((cls_ok (o := 8) (by decide)).1 (by decide)), (cls_ok (o := 8) (by decide)).2.1, (cls_ok (o := 8) (by decide)).2.2, fun q => absurd q (by decide), fun _ => ⟨gt3 176 rfl rfl, by decide +kernel⟩, fun _ => Or.inr (gp0 4 rfl)⟩
set_option maxRecDepth 100000 in
theorem ec_127 : Cond.code yX8_share cX8_share 7 (none) ∈ GW := gt3 177 rfl rfl
set_option maxRecDepth 100000 in
theorem em_128 : EMc yX8_giveTop cX8_giveTop 8 4 (some .int) 4 0 := ⟨rfl, plainFor_of_name ((cls_ok (o := 8) (by decide)).1 (by decide)), (cls_ok (o := 8) (by decide)).2.1, (cls_ok (o := 8) (by decide)).2.2, fun q => absurd q (by decide), fun _ => ⟨gt3 181 rfl rfl, by decide +kernel⟩, fun _ => Or.inr (gp0 5 rfl)⟩
set_option maxRecDepth 100000 in
theorem ec_128 : Cond.code yX8_giveTop cX8_giveTop 4 (some .int) ∈ GW := gt3 182 rfl rfl
set_option maxRecDepth 100000 in
theorem em_129 : EMc yX8_giveShares cX8_giveShares 8 8 (none) 3 0 := ⟨rfl, plainFor_of_name ((cls_ok (o := 8) (by decide)).1 (by decide)), (cls_ok (o := 8) (by decide)).2.1, (cls_ok (o := 8) (by decide)).2.2, fun q => absurd q (by decide), fun _ => ⟨gt3 185 rfl rfl, by decide +kernel⟩, fun _ => Or.inr (gp0 6 rfl)⟩
set_option maxRecDepth 100000 in
theorem ec_129 : Cond.code yX8_giveShares cX8_giveShares 8 (none) ∈ GW := gt3 186 rfl rfl
set_option maxRecDepth 100000 in
theorem em_130 : EMc yX8_strike cX8_strike 8 7 (none) 5 0 := ⟨rfl, plainFor_of_name ((cls_ok (o := 8) (by decide)).1 (by decide)), (cls_ok (o := 8) (by decide)).2.1, (cls_ok (o := 8) (by decide)).2.2, fun q => absurd q (by decide), fun _ => ⟨gt3 189 rfl rfl, by decide +kernel⟩, fun _ => Or.inr (gp0 7 rfl)⟩
set_option maxRecDepth 100000 in
theorem ec_130 : Cond.code yX8_strike cX8_strike 7 (none) ∈ GW := gt3 190 rfl rfl
set_option maxRecDepth 100000 in
theorem em_131 : EMc yX8_endAuction cX8_endAuction 8 3 (some .boolean) 2 0 := ⟨rfl, plainFor_of_name ((cls_ok (o := 8) (by decide)).1 (by decide)), (cls_ok (o := 8) (by decide)).2.1, (cls_ok (o := 8) (by decide)).2.2, fun q => absurd q (by decide), fun _ => ⟨gt4 48 rfl rfl, by decide +kernel⟩, fun _ => Or.inr (gt4 49 rfl rfl)⟩
set_option maxRecDepth 100000 in
theorem ec_131 : Cond.code yX8_endAuction cX8_endAuction 3 (some .boolean) ∈ GW := gt4 50 rfl rfl
set_option maxRecDepth 100000 in
theorem em_132 : EMc yX8_tradeAll cX8_tradeAll 8 6 (none) 3 0 := ⟨rfl, plainFor_of_name ((cls_ok (o := 8) (by decide)).1 (by decide)), (cls_ok (o := 8) (by decide)).2.1, (cls_ok (o := 8) (by decide)).2.2, fun q => absurd q (by decide), fun _ => ⟨gt4 69 rfl rfl, by decide +kernel⟩, fun _ => Or.inr (gp0 11 rfl)⟩
set_option maxRecDepth 100000 in
theorem ec_132 : Cond.code yX8_tradeAll cX8_tradeAll 6 (none) ∈ GW := gt4 70 rfl rfl
set_option maxRecDepth 100000 in
theorem em_133 : EMc yX8_firstAt cX8_firstAt 8 9 (some (.object "Openbook$Order")) 4 0 := ⟨rfl, plainFor_of_name ((cls_ok (o := 8) (by decide)).1 (by decide)), (cls_ok (o := 8) (by decide)).2.1, (cls_ok (o := 8) (by decide)).2.2, fun q => absurd q (by decide), fun _ => ⟨gt4 73 rfl rfl, by decide +kernel⟩, fun _ => Or.inr (gp0 12 rfl)⟩
set_option maxRecDepth 100000 in
theorem ec_133 : Cond.code yX8_firstAt cX8_firstAt 9 (some (.object "Openbook$Order")) ∈ GW := gt4 74 rfl rfl
set_option maxRecDepth 100000 in
theorem em_134 : EMc yX8_comesBefore cX8_comesBefore 8 3 (some .boolean) 3 0 := ⟨rfl, plainFor_of_name ((cls_ok (o := 8) (by decide)).1 (by decide)), (cls_ok (o := 8) (by decide)).2.1, (cls_ok (o := 8) (by decide)).2.2, fun q => absurd q (by decide), fun _ => ⟨gt4 77 rfl rfl, by decide +kernel⟩, fun _ => Or.inr (gp0 13 rfl)⟩
set_option maxRecDepth 100000 in
theorem ec_134 : Cond.code yX8_comesBefore cX8_comesBefore 3 (some .boolean) ∈ GW := gt4 78 rfl rfl
set_option maxRecDepth 100000 in
theorem em_135 : EMc yX8_findPrice cX8_findPrice 8 13 (some .int) 2 0 := ⟨rfl, plainFor_of_name ((cls_ok (o := 8) (by decide)).1 (by decide)), (cls_ok (o := 8) (by decide)).2.1, (cls_ok (o := 8) (by decide)).2.2, fun q => absurd q (by decide), fun _ => ⟨gt4 52 rfl rfl, by decide +kernel⟩, fun _ => Or.inr (gt4 53 rfl rfl)⟩
set_option maxRecDepth 100000 in
theorem ec_135 : Cond.code yX8_findPrice cX8_findPrice 13 (some .int) ∈ GW := gt4 54 rfl rfl
set_option maxRecDepth 100000 in
theorem em_136 : EMc yX8_isNearer cX8_isNearer 8 5 (some .boolean) 3 1 := ⟨rfl, plainFor_of_name ((cls_ok (o := 8) (by decide)).1 (by decide)), (cls_ok (o := 8) (by decide)).2.1, (cls_ok (o := 8) (by decide)).2.2, fun _ => ⟨gt4 65 rfl rfl, by decide +kernel⟩, fun q => absurd q (by decide), fun q => absurd q (by decide)⟩
set_option maxRecDepth 100000 in
theorem ec_136 : Cond.code yX8_isNearer cX8_isNearer 5 (some .boolean) ∈ GW := gt4 66 rfl rfl
set_option maxRecDepth 100000 in
theorem em_137 : EMc yX8_volumeAt cX8_volumeAt 8 3 (some .int) 3 0 := ⟨rfl, plainFor_of_name ((cls_ok (o := 8) (by decide)).1 (by decide)), (cls_ok (o := 8) (by decide)).2.1, (cls_ok (o := 8) (by decide)).2.2, fun q => absurd q (by decide), fun _ => ⟨gt4 56 rfl rfl, by decide +kernel⟩, fun _ => Or.inr (gt4 57 rfl rfl)⟩
set_option maxRecDepth 100000 in
theorem ec_137 : Cond.code yX8_volumeAt cX8_volumeAt 3 (some .int) ∈ GW := gt4 58 rfl rfl
set_option maxRecDepth 100000 in
theorem em_138 : EMc yX8_sumAt cX8_sumAt 8 9 (some .int) 4 0 := ⟨rfl, plainFor_of_name ((cls_ok (o := 8) (by decide)).1 (by decide)), (cls_ok (o := 8) (by decide)).2.1, (cls_ok (o := 8) (by decide)).2.2, fun q => absurd q (by decide), fun _ => ⟨gt4 61 rfl rfl, by decide +kernel⟩, fun _ => Or.inr (gp0 10 rfl)⟩
set_option maxRecDepth 100000 in
theorem ec_138 : Cond.code yX8_sumAt cX8_sumAt 9 (some .int) ∈ GW := gt4 62 rfl rfl
set_option maxRecDepth 100000 in
theorem em_139 : EMc yX9_init cX9_init 9 1 (none) 1 0 := ⟨rfl, plainFor_of_name ((cls_ok (o := 9) (by decide)).1 (by decide)), (cls_ok (o := 9) (by decide)).2.1, (cls_ok (o := 9) (by decide)).2.2, fun q => absurd q (by decide), fun _ => ⟨gt2 171 rfl rfl, by decide +kernel⟩, fun _ => Or.inl rfl⟩
set_option maxRecDepth 100000 in
theorem ec_139 : Cond.code yX9_init cX9_init 1 (none) ∈ GW := gt2 172 rfl rfl
set_option maxRecDepth 100000 in
theorem em_140 : EMc yX9_restore cX9_restore 9 1 (none) 1 0 := ⟨rfl, plainFor_of_name ((cls_ok (o := 9) (by decide)).1 (by decide)), (cls_ok (o := 9) (by decide)).2.1, (cls_ok (o := 9) (by decide)).2.2, fun q => absurd q (by decide), fun _ => ⟨gt3 29 rfl rfl, by decide +kernel⟩, fun _ => Or.inr (gt3 30 rfl rfl)⟩
set_option maxRecDepth 100000 in
theorem ec_140 : Cond.code yX9_restore cX9_restore 1 (none) ∈ GW := gt3 31 rfl rfl
set_option maxRecDepth 100000 in
theorem em_141 : EMc yX9_forgetBid cX9_forgetBid 9 1 (none) 1 0 := ⟨rfl, plainFor_of_name ((cls_ok (o := 9) (by decide)).1 (by decide)), (cls_ok (o := 9) (by decide)).2.1, (cls_ok (o := 9) (by decide)).2.2, fun q => absurd q (by decide), fun _ => ⟨gt3 33 rfl rfl, by decide +kernel⟩, fun _ => Or.inr (gt3 34 rfl rfl)⟩
set_option maxRecDepth 100000 in
theorem ec_141 : Cond.code yX9_forgetBid cX9_forgetBid 1 (none) ∈ GW := gt3 35 rfl rfl
set_option maxRecDepth 100000 in
theorem em_142 : EMc yX10_init cX10_init 10 3 (none) 3 0 := ⟨rfl, plainFor_of_name ((cls_ok (o := 10) (by decide)).1 (by decide)), (cls_ok (o := 10) (by decide)).2.1, (cls_ok (o := 10) (by decide)).2.2, fun q => absurd q (by decide), fun _ => ⟨gt2 5 rfl rfl, by decide +kernel⟩, fun _ => Or.inl rfl⟩
set_option maxRecDepth 100000 in
theorem ec_142 : Cond.code yX10_init cX10_init 3 (none) ∈ GW := gt2 6 rfl rfl
set_option maxRecDepth 100000 in
theorem em_143 : EMc yX10_begin cX10_begin 10 7 (none) 7 0 := ⟨rfl, plainFor_of_name ((cls_ok (o := 10) (by decide)).1 (by decide)), (cls_ok (o := 10) (by decide)).2.1, (cls_ok (o := 10) (by decide)).2.2, fun q => absurd q (by decide), fun _ => ⟨gt3 103 rfl rfl, by decide +kernel⟩, fun _ => Or.inr (gt3 104 rfl rfl)⟩
set_option maxRecDepth 100000 in
theorem ec_143 : Cond.code yX10_begin cX10_begin 7 (none) ∈ GW := gt3 105 rfl rfl
set_option maxRecDepth 100000 in
theorem em_144 : EMc yX10_standsIn cX10_standsIn 10 3 (some .boolean) 3 0 := ⟨rfl, plainFor_of_name ((cls_ok (o := 10) (by decide)).1 (by decide)), (cls_ok (o := 10) (by decide)).2.1, (cls_ok (o := 10) (by decide)).2.2, fun q => absurd q (by decide), fun _ => ⟨gt3 115 rfl rfl, by decide +kernel⟩, fun _ => Or.inr (gt3 116 rfl rfl)⟩
set_option maxRecDepth 100000 in
theorem ec_144 : Cond.code yX10_standsIn cX10_standsIn 3 (some .boolean) ∈ GW := gt3 117 rfl rfl
set_option maxRecDepth 100000 in
theorem em_145 : EMc yX10_allows cX10_allows 10 2 (some .boolean) 2 0 := ⟨rfl, plainFor_of_name ((cls_ok (o := 10) (by decide)).1 (by decide)), (cls_ok (o := 10) (by decide)).2.1, (cls_ok (o := 10) (by decide)).2.2, fun q => absurd q (by decide), fun _ => ⟨gt3 119 rfl rfl, by decide +kernel⟩, fun _ => Or.inr (gt3 120 rfl rfl)⟩
set_option maxRecDepth 100000 in
theorem ec_145 : Cond.code yX10_allows cX10_allows 2 (some .boolean) ∈ GW := gt3 121 rfl rfl
set_option maxRecDepth 100000 in
theorem em_146 : EMc yX10_isBetter cX10_isBetter 10 3 (some .boolean) 3 0 := ⟨rfl, plainFor_of_name ((cls_ok (o := 10) (by decide)).1 (by decide)), (cls_ok (o := 10) (by decide)).2.1, (cls_ok (o := 10) (by decide)).2.2, fun q => absurd q (by decide), fun _ => ⟨gt3 158 rfl rfl, by decide +kernel⟩, fun _ => Or.inr (gt3 159 rfl rfl)⟩
set_option maxRecDepth 100000 in
theorem ec_146 : Cond.code yX10_isBetter cX10_isBetter 3 (some .boolean) ∈ GW := gt3 160 rfl rfl
set_option maxRecDepth 100000 in
theorem em_147 : EMc yX10_addsTo cX10_addsTo 10 3 (some .boolean) 3 0 := ⟨rfl, plainFor_of_name ((cls_ok (o := 10) (by decide)).1 (by decide)), (cls_ok (o := 10) (by decide)).2.1, (cls_ok (o := 10) (by decide)).2.2, fun q => absurd q (by decide), fun _ => ⟨gt6 57 rfl rfl, by decide +kernel⟩, fun _ => Or.inr (gt6 58 rfl rfl)⟩
set_option maxRecDepth 100000 in
theorem ec_147 : Cond.code yX10_addsTo cX10_addsTo 3 (some .boolean) ∈ GW := gt6 59 rfl rfl
set_option maxRecDepth 100000 in
theorem em_148 : EMc yX10_isDue cX10_isDue 10 1 (some .boolean) 1 0 := ⟨rfl, plainFor_of_name ((cls_ok (o := 10) (by decide)).1 (by decide)), (cls_ok (o := 10) (by decide)).2.1, (cls_ok (o := 10) (by decide)).2.2, fun q => absurd q (by decide), fun _ => ⟨gt4 94 rfl rfl, by decide +kernel⟩, fun _ => Or.inr (gt4 95 rfl rfl)⟩
set_option maxRecDepth 100000 in
theorem ec_148 : Cond.code yX10_isDue cX10_isDue 1 (some .boolean) ∈ GW := gt4 96 rfl rfl
set_option maxRecDepth 100000 in
theorem em_149 : EMc yX10_hold cX10_hold 10 1 (none) 1 0 := ⟨rfl, plainFor_of_name ((cls_ok (o := 10) (by decide)).1 (by decide)), (cls_ok (o := 10) (by decide)).2.1, (cls_ok (o := 10) (by decide)).2.2, fun q => absurd q (by decide), fun _ => ⟨gt4 164 rfl rfl, by decide +kernel⟩, fun _ => Or.inr (gt4 165 rfl rfl)⟩
set_option maxRecDepth 100000 in
theorem ec_149 : Cond.code yX10_hold cX10_hold 1 (none) ∈ GW := gt4 166 rfl rfl
set_option maxRecDepth 100000 in
theorem em_150 : EMc yX10_showable cX10_showable 10 1 (some .int) 1 0 := ⟨rfl, plainFor_of_name ((cls_ok (o := 10) (by decide)).1 (by decide)), (cls_ok (o := 10) (by decide)).2.1, (cls_ok (o := 10) (by decide)).2.2, fun q => absurd q (by decide), fun _ => ⟨gt3 136 rfl rfl, by decide +kernel⟩, fun _ => Or.inr (gt3 137 rfl rfl)⟩
set_option maxRecDepth 100000 in
theorem ec_150 : Cond.code yX10_showable cX10_showable 1 (some .int) ∈ GW := gt3 138 rfl rfl
set_option maxRecDepth 100000 in
theorem em_151 : EMc yX10_fall cX10_fall 10 2 (none) 2 0 := ⟨rfl, plainFor_of_name ((cls_ok (o := 10) (by decide)).1 (by decide)), (cls_ok (o := 10) (by decide)).2.1, (cls_ok (o := 10) (by decide)).2.2, fun q => absurd q (by decide), fun _ => ⟨gt3 204 rfl rfl, by decide +kernel⟩, fun _ => Or.inr (gt3 205 rfl rfl)⟩
set_option maxRecDepth 100000 in
theorem ec_151 : Cond.code yX10_fall cX10_fall 2 (none) ∈ GW := gt3 206 rfl rfl
set_option maxRecDepth 100000 in
theorem em_152 : EMc yX11_init cX11_init 11 1 (none) 1 0 := ⟨rfl, plainFor_of_name ((cls_ok (o := 11) (by decide)).1 (by decide)), (cls_ok (o := 11) (by decide)).2.1, (cls_ok (o := 11) (by decide)).2.2, fun q => absurd q (by decide), fun _ => ⟨gt1 24 rfl rfl, by decide +kernel⟩, fun _ => Or.inl rfl⟩
set_option maxRecDepth 100000 in
theorem ec_152 : Cond.code yX11_init cX11_init 1 (none) ∈ GW := gt1 25 rfl rfl
set_option maxRecDepth 100000 in
theorem em_153 : EMc yX11_limit cX11_limit 11 8 (some .int) 7 0 := ⟨rfl, plainFor_of_name ((cls_ok (o := 11) (by decide)).1 (by decide)), (cls_ok (o := 11) (by decide)).2.1, (cls_ok (o := 11) (by decide)).2.2, fun q => absurd q (by decide), fun _ => ⟨gt5 169 rfl rfl, by decide +kernel⟩, fun _ => Or.inr (gt5 170 rfl rfl)⟩
set_option maxRecDepth 100000 in
theorem ec_153 : Cond.code yX11_limit cX11_limit 8 (some .int) ∈ GW := gt5 171 rfl rfl
set_option maxRecDepth 100000 in
theorem em_154 : EMc yX11_market cX11_market 11 4 (some .int) 4 0 := ⟨rfl, plainFor_of_name ((cls_ok (o := 11) (by decide)).1 (by decide)), (cls_ok (o := 11) (by decide)).2.1, (cls_ok (o := 11) (by decide)).2.2, fun q => absurd q (by decide), fun _ => ⟨gt6 89 rfl rfl, by decide +kernel⟩, fun _ => Or.inr (gt6 90 rfl rfl)⟩
set_option maxRecDepth 100000 in
theorem ec_154 : Cond.code yX11_market cX11_market 4 (some .int) ∈ GW := gt6 91 rfl rfl
set_option maxRecDepth 100000 in
theorem em_155 : EMc yX11_iceberg cX11_iceberg 11 6 (some .int) 6 0 := ⟨rfl, plainFor_of_name ((cls_ok (o := 11) (by decide)).1 (by decide)), (cls_ok (o := 11) (by decide)).2.1, (cls_ok (o := 11) (by decide)).2.2, fun q => absurd q (by decide), fun _ => ⟨gt6 96 rfl rfl, by decide +kernel⟩, fun _ => Or.inr (gt6 97 rfl rfl)⟩
set_option maxRecDepth 100000 in
theorem ec_155 : Cond.code yX11_iceberg cX11_iceberg 6 (some .int) ∈ GW := gt6 98 rfl rfl
set_option maxRecDepth 100000 in
theorem em_156 : EMc yX11_peg cX11_peg 11 6 (some .int) 6 0 := ⟨rfl, plainFor_of_name ((cls_ok (o := 11) (by decide)).1 (by decide)), (cls_ok (o := 11) (by decide)).2.1, (cls_ok (o := 11) (by decide)).2.2, fun q => absurd q (by decide), fun _ => ⟨gt6 103 rfl rfl, by decide +kernel⟩, fun _ => Or.inr (gt6 104 rfl rfl)⟩
set_option maxRecDepth 100000 in
theorem ec_156 : Cond.code yX11_peg cX11_peg 6 (some .int) ∈ GW := gt6 105 rfl rfl
set_option maxRecDepth 100000 in
theorem em_157 : EMc yX11_stop cX11_stop 11 6 (some .int) 6 0 := ⟨rfl, plainFor_of_name ((cls_ok (o := 11) (by decide)).1 (by decide)), (cls_ok (o := 11) (by decide)).2.1, (cls_ok (o := 11) (by decide)).2.2, fun q => absurd q (by decide), fun _ => ⟨gt6 110 rfl rfl, by decide +kernel⟩, fun _ => Or.inr (gt6 111 rfl rfl)⟩
set_option maxRecDepth 100000 in
theorem ec_157 : Cond.code yX11_stop cX11_stop 6 (some .int) ∈ GW := gt6 112 rfl rfl
set_option maxRecDepth 100000 in
theorem em_158 : EMc yX11_quote cX11_quote 11 7 (some .int) 6 0 := ⟨rfl, plainFor_of_name ((cls_ok (o := 11) (by decide)).1 (by decide)), (cls_ok (o := 11) (by decide)).2.1, (cls_ok (o := 11) (by decide)).2.2, fun q => absurd q (by decide), fun _ => ⟨gt6 120 rfl rfl, by decide +kernel⟩, fun _ => Or.inr (gt6 121 rfl rfl)⟩
set_option maxRecDepth 100000 in
theorem ec_158 : Cond.code yX11_quote cX11_quote 7 (some .int) ∈ GW := gt6 122 rfl rfl
set_option maxRecDepth 100000 in
theorem em_159 : EMc yX11_cancel cX11_cancel 11 3 (some .int) 2 0 := ⟨rfl, plainFor_of_name ((cls_ok (o := 11) (by decide)).1 (by decide)), (cls_ok (o := 11) (by decide)).2.1, (cls_ok (o := 11) (by decide)).2.2, fun q => absurd q (by decide), fun _ => ⟨gt6 128 rfl rfl, by decide +kernel⟩, fun _ => Or.inr (gt6 129 rfl rfl)⟩
set_option maxRecDepth 100000 in
theorem ec_159 : Cond.code yX11_cancel cX11_cancel 3 (some .int) ∈ GW := gt6 130 rfl rfl
set_option maxRecDepth 100000 in
theorem em_160 : EMc yX11_setRule cX11_setRule 11 5 (some .int) 5 0 := ⟨rfl, plainFor_of_name ((cls_ok (o := 11) (by decide)).1 (by decide)), (cls_ok (o := 11) (by decide)).2.1, (cls_ok (o := 11) (by decide)).2.2, fun q => absurd q (by decide), fun _ => ⟨gt6 140 rfl rfl, by decide +kernel⟩, fun _ => Or.inr (gt6 141 rfl rfl)⟩
set_option maxRecDepth 100000 in
theorem ec_160 : Cond.code yX11_setRule cX11_setRule 5 (some .int) ∈ GW := gt6 142 rfl rfl
set_option maxRecDepth 100000 in
theorem em_161 : EMc yX11_setBand cX11_setBand 11 3 (some .int) 3 0 := ⟨rfl, plainFor_of_name ((cls_ok (o := 11) (by decide)).1 (by decide)), (cls_ok (o := 11) (by decide)).2.1, (cls_ok (o := 11) (by decide)).2.2, fun q => absurd q (by decide), fun _ => ⟨gt6 147 rfl rfl, by decide +kernel⟩, fun _ => Or.inr (gt6 148 rfl rfl)⟩
set_option maxRecDepth 100000 in
theorem ec_161 : Cond.code yX11_setBand cX11_setBand 3 (some .int) ∈ GW := gt6 149 rfl rfl
set_option maxRecDepth 100000 in
theorem em_162 : EMc yX11_setProtection cX11_setProtection 11 3 (some .int) 3 0 := ⟨rfl, plainFor_of_name ((cls_ok (o := 11) (by decide)).1 (by decide)), (cls_ok (o := 11) (by decide)).2.1, (cls_ok (o := 11) (by decide)).2.2, fun q => absurd q (by decide), fun _ => ⟨gt6 154 rfl rfl, by decide +kernel⟩, fun _ => Or.inr (gt6 155 rfl rfl)⟩
set_option maxRecDepth 100000 in
theorem ec_162 : Cond.code yX11_setProtection cX11_setProtection 3 (some .int) ∈ GW := gt6 156 rfl rfl
set_option maxRecDepth 100000 in
theorem em_163 : EMc yX11_setLimit cX11_setLimit 11 4 (some .int) 4 0 := ⟨rfl, plainFor_of_name ((cls_ok (o := 11) (by decide)).1 (by decide)), (cls_ok (o := 11) (by decide)).2.1, (cls_ok (o := 11) (by decide)).2.2, fun q => absurd q (by decide), fun _ => ⟨gt6 161 rfl rfl, by decide +kernel⟩, fun _ => Or.inr (gt6 162 rfl rfl)⟩
set_option maxRecDepth 100000 in
theorem ec_163 : Cond.code yX11_setLimit cX11_setLimit 4 (some .int) ∈ GW := gt6 163 rfl rfl
set_option maxRecDepth 100000 in
theorem em_164 : EMc yX11_auction cX11_auction 11 5 (some .int) 5 0 := ⟨rfl, plainFor_of_name ((cls_ok (o := 11) (by decide)).1 (by decide)), (cls_ok (o := 11) (by decide)).2.1, (cls_ok (o := 11) (by decide)).2.2, fun q => absurd q (by decide), fun _ => ⟨gt6 168 rfl rfl, by decide +kernel⟩, fun _ => Or.inr (gt6 169 rfl rfl)⟩
set_option maxRecDepth 100000 in
theorem ec_164 : Cond.code yX11_auction cX11_auction 5 (some .int) ∈ GW := gt6 170 rfl rfl
set_option maxRecDepth 100000 in
theorem em_165 : EMc yX11_pass cX11_pass 11 2 (some .int) 2 0 := ⟨rfl, plainFor_of_name ((cls_ok (o := 11) (by decide)).1 (by decide)), (cls_ok (o := 11) (by decide)).2.1, (cls_ok (o := 11) (by decide)).2.2, fun q => absurd q (by decide), fun _ => ⟨gt6 175 rfl rfl, by decide +kernel⟩, fun _ => Or.inr (gt6 176 rfl rfl)⟩
set_option maxRecDepth 100000 in
theorem ec_165 : Cond.code yX11_pass cX11_pass 2 (some .int) ∈ GW := gt6 177 rfl rfl
set_option maxRecDepth 100000 in
theorem em_166 : EMc yX11_endDay cX11_endDay 11 1 (some .int) 1 0 := ⟨rfl, plainFor_of_name ((cls_ok (o := 11) (by decide)).1 (by decide)), (cls_ok (o := 11) (by decide)).2.1, (cls_ok (o := 11) (by decide)).2.2, fun q => absurd q (by decide), fun _ => ⟨gt6 182 rfl rfl, by decide +kernel⟩, fun _ => Or.inr (gt6 183 rfl rfl)⟩
set_option maxRecDepth 100000 in
theorem ec_166 : Cond.code yX11_endDay cX11_endDay 1 (some .int) ∈ GW := gt6 184 rfl rfl
set_option maxRecDepth 100000 in
theorem em_167 : EMc yX11_bust cX11_bust 11 2 (some .int) 2 0 := ⟨rfl, plainFor_of_name ((cls_ok (o := 11) (by decide)).1 (by decide)), (cls_ok (o := 11) (by decide)).2.1, (cls_ok (o := 11) (by decide)).2.2, fun q => absurd q (by decide), fun _ => ⟨gt6 193 rfl rfl, by decide +kernel⟩, fun _ => Or.inr (gt6 194 rfl rfl)⟩
set_option maxRecDepth 100000 in
theorem ec_167 : Cond.code yX11_bust cX11_bust 2 (some .int) ∈ GW := gt6 195 rfl rfl
set_option maxRecDepth 100000 in
theorem em_168 : EMc yX11_adjust cX11_adjust 11 4 (some .int) 3 0 := ⟨rfl, plainFor_of_name ((cls_ok (o := 11) (by decide)).1 (by decide)), (cls_ok (o := 11) (by decide)).2.1, (cls_ok (o := 11) (by decide)).2.2, fun q => absurd q (by decide), fun _ => ⟨gt6 206 rfl rfl, by decide +kernel⟩, fun _ => Or.inr (gt6 207 rfl rfl)⟩
set_option maxRecDepth 100000 in
theorem ec_168 : Cond.code yX11_adjust cX11_adjust 4 (some .int) ∈ GW := gt6 208 rfl rfl
set_option maxRecDepth 100000 in
theorem em_169 : EMc yX11_giveUp cX11_giveUp 11 5 (some .int) 4 0 := ⟨rfl, plainFor_of_name ((cls_ok (o := 11) (by decide)).1 (by decide)), (cls_ok (o := 11) (by decide)).2.1, (cls_ok (o := 11) (by decide)).2.2, fun q => absurd q (by decide), fun _ => ⟨gt6 213 rfl rfl, by decide +kernel⟩, fun _ => Or.inr (gt6 214 rfl rfl)⟩
set_option maxRecDepth 100000 in
theorem ec_169 : Cond.code yX11_giveUp cX11_giveUp 5 (some .int) ∈ GW := gt6 215 rfl rfl
set_option maxRecDepth 100000 in
theorem em_170 : EMc yX11_allot cX11_allot 11 5 (some .int) 5 0 := ⟨rfl, plainFor_of_name ((cls_ok (o := 11) (by decide)).1 (by decide)), (cls_ok (o := 11) (by decide)).2.1, (cls_ok (o := 11) (by decide)).2.2, fun q => absurd q (by decide), fun _ => ⟨gt6 220 rfl rfl, by decide +kernel⟩, fun _ => Or.inr (gt6 221 rfl rfl)⟩
set_option maxRecDepth 100000 in
theorem ec_170 : Cond.code yX11_allot cX11_allot 5 (some .int) ∈ GW := gt6 222 rfl rfl
set_option maxRecDepth 100000 in
theorem em_171 : EMc yX11_exercise cX11_exercise 11 4 (some .int) 4 0 := ⟨rfl, plainFor_of_name ((cls_ok (o := 11) (by decide)).1 (by decide)), (cls_ok (o := 11) (by decide)).2.1, (cls_ok (o := 11) (by decide)).2.2, fun q => absurd q (by decide), fun _ => ⟨gt6 231 rfl rfl, by decide +kernel⟩, fun _ => Or.inr (gt6 232 rfl rfl)⟩
set_option maxRecDepth 100000 in
theorem ec_171 : Cond.code yX11_exercise cX11_exercise 4 (some .int) ∈ GW := gt6 233 rfl rfl
set_option maxRecDepth 100000 in
theorem em_172 : EMc yX11_convert cX11_convert 11 4 (some .int) 4 0 := ⟨rfl, plainFor_of_name ((cls_ok (o := 11) (by decide)).1 (by decide)), (cls_ok (o := 11) (by decide)).2.1, (cls_ok (o := 11) (by decide)).2.2, fun q => absurd q (by decide), fun _ => ⟨gt6 239 rfl rfl, by decide +kernel⟩, fun _ => Or.inr (gt7 0 rfl rfl)⟩
set_option maxRecDepth 100000 in
theorem ec_172 : Cond.code yX11_convert cX11_convert 4 (some .int) ∈ GW := gt7 1 rfl rfl
set_option maxRecDepth 100000 in
theorem em_173 : EMc yX11_setMove cX11_setMove 11 4 (some .int) 4 0 := ⟨rfl, plainFor_of_name ((cls_ok (o := 11) (by decide)).1 (by decide)), (cls_ok (o := 11) (by decide)).2.1, (cls_ok (o := 11) (by decide)).2.2, fun q => absurd q (by decide), fun _ => ⟨gt7 12 rfl rfl, by decide +kernel⟩, fun _ => Or.inr (gt7 13 rfl rfl)⟩
set_option maxRecDepth 100000 in
theorem ec_173 : Cond.code yX11_setMove cX11_setMove 4 (some .int) ∈ GW := gt7 14 rfl rfl
set_option maxRecDepth 100000 in
theorem em_174 : EMc yX11_setHaircut cX11_setHaircut 11 2 (some .int) 2 0 := ⟨rfl, plainFor_of_name ((cls_ok (o := 11) (by decide)).1 (by decide)), (cls_ok (o := 11) (by decide)).2.1, (cls_ok (o := 11) (by decide)).2.2, fun q => absurd q (by decide), fun _ => ⟨gt7 19 rfl rfl, by decide +kernel⟩, fun _ => Or.inr (gt7 20 rfl rfl)⟩
set_option maxRecDepth 100000 in
theorem ec_174 : Cond.code yX11_setHaircut cX11_setHaircut 2 (some .int) ∈ GW := gt7 21 rfl rfl
set_option maxRecDepth 100000 in
theorem em_175 : EMc yX11_pay cX11_pay 11 4 (some .int) 4 0 := ⟨rfl, plainFor_of_name ((cls_ok (o := 11) (by decide)).1 (by decide)), (cls_ok (o := 11) (by decide)).2.1, (cls_ok (o := 11) (by decide)).2.2, fun q => absurd q (by decide), fun _ => ⟨gt7 26 rfl rfl, by decide +kernel⟩, fun _ => Or.inr (gt7 27 rfl rfl)⟩
set_option maxRecDepth 100000 in
theorem ec_175 : Cond.code yX11_pay cX11_pay 4 (some .int) ∈ GW := gt7 28 rfl rfl
set_option maxRecDepth 100000 in
theorem em_176 : EMc yX11_setFund cX11_setFund 11 3 (some .int) 3 0 := ⟨rfl, plainFor_of_name ((cls_ok (o := 11) (by decide)).1 (by decide)), (cls_ok (o := 11) (by decide)).2.1, (cls_ok (o := 11) (by decide)).2.2, fun q => absurd q (by decide), fun _ => ⟨gt7 40 rfl rfl, by decide +kernel⟩, fun _ => Or.inr (gt7 41 rfl rfl)⟩
set_option maxRecDepth 100000 in
theorem ec_176 : Cond.code yX11_setFund cX11_setFund 3 (some .int) ∈ GW := gt7 42 rfl rfl
set_option maxRecDepth 100000 in
theorem em_177 : EMc yX11_fail cX11_fail 11 2 (some .int) 2 0 := ⟨rfl, plainFor_of_name ((cls_ok (o := 11) (by decide)).1 (by decide)), (cls_ok (o := 11) (by decide)).2.1, (cls_ok (o := 11) (by decide)).2.2, fun q => absurd q (by decide), fun _ => ⟨gt7 48 rfl rfl, by decide +kernel⟩, fun _ => Or.inr (gt7 49 rfl rfl)⟩
set_option maxRecDepth 100000 in
theorem ec_177 : Cond.code yX11_fail cX11_fail 2 (some .int) ∈ GW := gt7 50 rfl rfl
set_option maxRecDepth 100000 in
theorem em_178 : EMc yX11_bid cX11_bid 11 3 (some .int) 3 0 := ⟨rfl, plainFor_of_name ((cls_ok (o := 11) (by decide)).1 (by decide)), (cls_ok (o := 11) (by decide)).2.1, (cls_ok (o := 11) (by decide)).2.2, fun q => absurd q (by decide), fun _ => ⟨gt7 59 rfl rfl, by decide +kernel⟩, fun _ => Or.inr (gt7 60 rfl rfl)⟩
set_option maxRecDepth 100000 in
theorem ec_178 : Cond.code yX11_bid cX11_bid 3 (some .int) ∈ GW := gt7 61 rfl rfl
set_option maxRecDepth 100000 in
theorem em_179 : EMc yX11_closeOut cX11_closeOut 11 1 (some .int) 1 0 := ⟨rfl, plainFor_of_name ((cls_ok (o := 11) (by decide)).1 (by decide)), (cls_ok (o := 11) (by decide)).2.1, (cls_ok (o := 11) (by decide)).2.2, fun q => absurd q (by decide), fun _ => ⟨gt7 66 rfl rfl, by decide +kernel⟩, fun _ => Or.inr (gt7 67 rfl rfl)⟩
set_option maxRecDepth 100000 in
theorem ec_179 : Cond.code yX11_closeOut cX11_closeOut 1 (some .int) ∈ GW := gt7 68 rfl rfl
set_option maxRecDepth 100000 in
theorem em_180 : EMc yX11_keep cX11_keep 11 1 (some .int) 1 0 := ⟨rfl, plainFor_of_name ((cls_ok (o := 11) (by decide)).1 (by decide)), (cls_ok (o := 11) (by decide)).2.1, (cls_ok (o := 11) (by decide)).2.2, fun q => absurd q (by decide), fun _ => ⟨gt3 77 rfl rfl, by decide +kernel⟩, fun _ => Or.inr (gt3 78 rfl rfl)⟩
set_option maxRecDepth 100000 in
theorem ec_180 : Cond.code yX11_keep cX11_keep 1 (some .int) ∈ GW := gt3 79 rfl rfl
set_option maxRecDepth 100000 in
theorem em_181 : EMc yX11_failOver cX11_failOver 11 3 (some .int) 1 0 := ⟨rfl, plainFor_of_name ((cls_ok (o := 11) (by decide)).1 (by decide)), (cls_ok (o := 11) (by decide)).2.1, (cls_ok (o := 11) (by decide)).2.2, fun q => absurd q (by decide), fun _ => ⟨gt3 81 rfl rfl, by decide +kernel⟩, fun _ => Or.inr (gt3 82 rfl rfl)⟩
set_option maxRecDepth 100000 in
theorem ec_181 : Cond.code yX11_failOver cX11_failOver 3 (some .int) ∈ GW := gt3 83 rfl rfl
set_option maxRecDepth 100000 in
theorem em_182 : EMc yX11_events cX11_events 11 1 (some .int) 1 0 := ⟨rfl, plainFor_of_name ((cls_ok (o := 11) (by decide)).1 (by decide)), (cls_ok (o := 11) (by decide)).2.1, (cls_ok (o := 11) (by decide)).2.2, fun q => absurd q (by decide), fun _ => ⟨gt5 146 rfl rfl, by decide +kernel⟩, fun _ => Or.inr (gt5 147 rfl rfl)⟩
set_option maxRecDepth 100000 in
theorem ec_182 : Cond.code yX11_events cX11_events 1 (some .int) ∈ GW := gt5 148 rfl rfl
set_option maxRecDepth 100000 in
theorem em_183 : EMc yX11_positionByLog cX11_positionByLog 11 3 (some .int) 3 0 := ⟨rfl, plainFor_of_name ((cls_ok (o := 11) (by decide)).1 (by decide)), (cls_ok (o := 11) (by decide)).2.1, (cls_ok (o := 11) (by decide)).2.2, fun q => absurd q (by decide), fun _ => ⟨gt7 73 rfl rfl, by decide +kernel⟩, fun _ => Or.inr (gt7 74 rfl rfl)⟩
set_option maxRecDepth 100000 in
theorem ec_183 : Cond.code yX11_positionByLog cX11_positionByLog 3 (some .int) ∈ GW := gt7 75 rfl rfl
set_option maxRecDepth 100000 in
theorem em_184 : EMc yX11_bestByLog cX11_bestByLog 11 3 (some .int) 3 0 := ⟨rfl, plainFor_of_name ((cls_ok (o := 11) (by decide)).1 (by decide)), (cls_ok (o := 11) (by decide)).2.1, (cls_ok (o := 11) (by decide)).2.2, fun q => absurd q (by decide), fun _ => ⟨gt7 80 rfl rfl, by decide +kernel⟩, fun _ => Or.inr (gt7 81 rfl rfl)⟩
set_option maxRecDepth 100000 in
theorem ec_184 : Cond.code yX11_bestByLog cX11_bestByLog 3 (some .int) ∈ GW := gt7 82 rfl rfl
set_option maxRecDepth 100000 in
theorem em_185 : EMc yX11_best cX11_best 11 3 (some .int) 3 0 := ⟨rfl, plainFor_of_name ((cls_ok (o := 11) (by decide)).1 (by decide)), (cls_ok (o := 11) (by decide)).2.1, (cls_ok (o := 11) (by decide)).2.2, fun q => absurd q (by decide), fun _ => ⟨gt7 88 rfl rfl, by decide +kernel⟩, fun _ => Or.inr (gt7 89 rfl rfl)⟩
set_option maxRecDepth 100000 in
theorem ec_185 : Cond.code yX11_best cX11_best 3 (some .int) ∈ GW := gt7 90 rfl rfl
set_option maxRecDepth 100000 in
theorem em_186 : EMc yX11_shown cX11_shown 11 4 (some .int) 4 0 := ⟨rfl, plainFor_of_name ((cls_ok (o := 11) (by decide)).1 (by decide)), (cls_ok (o := 11) (by decide)).2.1, (cls_ok (o := 11) (by decide)).2.2, fun q => absurd q (by decide), fun _ => ⟨gt7 95 rfl rfl, by decide +kernel⟩, fun _ => Or.inr (gt7 96 rfl rfl)⟩
set_option maxRecDepth 100000 in
theorem ec_186 : Cond.code yX11_shown cX11_shown 4 (some .int) ∈ GW := gt7 97 rfl rfl
set_option maxRecDepth 100000 in
theorem em_187 : EMc yX11_stateOf cX11_stateOf 11 3 (some .int) 2 0 := ⟨rfl, plainFor_of_name ((cls_ok (o := 11) (by decide)).1 (by decide)), (cls_ok (o := 11) (by decide)).2.1, (cls_ok (o := 11) (by decide)).2.2, fun q => absurd q (by decide), fun _ => ⟨gt5 150 rfl rfl, by decide +kernel⟩, fun _ => Or.inr (gt5 151 rfl rfl)⟩
set_option maxRecDepth 100000 in
theorem ec_187 : Cond.code yX11_stateOf cX11_stateOf 3 (some .int) ∈ GW := gt5 152 rfl rfl
set_option maxRecDepth 100000 in
theorem em_188 : EMc yX11_rest cX11_rest 11 3 (some .int) 2 0 := ⟨rfl, plainFor_of_name ((cls_ok (o := 11) (by decide)).1 (by decide)), (cls_ok (o := 11) (by decide)).2.1, (cls_ok (o := 11) (by decide)).2.2, fun q => absurd q (by decide), fun _ => ⟨gt7 106 rfl rfl, by decide +kernel⟩, fun _ => Or.inr (gt7 107 rfl rfl)⟩
set_option maxRecDepth 100000 in
theorem ec_188 : Cond.code yX11_rest cX11_rest 3 (some .int) ∈ GW := gt7 108 rfl rfl
set_option maxRecDepth 100000 in
theorem em_189 : EMc yX11_priceOf cX11_priceOf 11 3 (some .int) 2 0 := ⟨rfl, plainFor_of_name ((cls_ok (o := 11) (by decide)).1 (by decide)), (cls_ok (o := 11) (by decide)).2.1, (cls_ok (o := 11) (by decide)).2.2, fun q => absurd q (by decide), fun _ => ⟨gt7 113 rfl rfl, by decide +kernel⟩, fun _ => Or.inr (gt7 114 rfl rfl)⟩
set_option maxRecDepth 100000 in
theorem ec_189 : Cond.code yX11_priceOf cX11_priceOf 3 (some .int) ∈ GW := gt7 115 rfl rfl
set_option maxRecDepth 100000 in
theorem em_190 : EMc yX11_last cX11_last 11 4 (some .int) 3 0 := ⟨rfl, plainFor_of_name ((cls_ok (o := 11) (by decide)).1 (by decide)), (cls_ok (o := 11) (by decide)).2.1, (cls_ok (o := 11) (by decide)).2.2, fun q => absurd q (by decide), fun _ => ⟨gt7 120 rfl rfl, by decide +kernel⟩, fun _ => Or.inr (gt7 121 rfl rfl)⟩
set_option maxRecDepth 100000 in
theorem ec_190 : Cond.code yX11_last cX11_last 4 (some .int) ∈ GW := gt7 122 rfl rfl
set_option maxRecDepth 100000 in
theorem em_191 : EMc yX11_endOf cX11_endOf 11 3 (some .int) 2 0 := ⟨rfl, plainFor_of_name ((cls_ok (o := 11) (by decide)).1 (by decide)), (cls_ok (o := 11) (by decide)).2.1, (cls_ok (o := 11) (by decide)).2.2, fun q => absurd q (by decide), fun _ => ⟨gt7 127 rfl rfl, by decide +kernel⟩, fun _ => Or.inr (gt7 128 rfl rfl)⟩
set_option maxRecDepth 100000 in
theorem ec_191 : Cond.code yX11_endOf cX11_endOf 3 (some .int) ∈ GW := gt7 129 rfl rfl
set_option maxRecDepth 100000 in
theorem em_192 : EMc yX11_indicated cX11_indicated 11 5 (some .int) 3 0 := ⟨rfl, plainFor_of_name ((cls_ok (o := 11) (by decide)).1 (by decide)), (cls_ok (o := 11) (by decide)).2.1, (cls_ok (o := 11) (by decide)).2.2, fun q => absurd q (by decide), fun _ => ⟨gt7 134 rfl rfl, by decide +kernel⟩, fun _ => Or.inr (gt7 135 rfl rfl)⟩
set_option maxRecDepth 100000 in
theorem ec_192 : Cond.code yX11_indicated cX11_indicated 5 (some .int) ∈ GW := gt7 136 rfl rfl
set_option maxRecDepth 100000 in
theorem em_193 : EMc yX11_trades cX11_trades 11 1 (some .int) 1 0 := ⟨rfl, plainFor_of_name ((cls_ok (o := 11) (by decide)).1 (by decide)), (cls_ok (o := 11) (by decide)).2.1, (cls_ok (o := 11) (by decide)).2.2, fun q => absurd q (by decide), fun _ => ⟨gt5 155 rfl rfl, by decide +kernel⟩, fun _ => Or.inr (gt5 156 rfl rfl)⟩
set_option maxRecDepth 100000 in
theorem ec_193 : Cond.code yX11_trades cX11_trades 1 (some .int) ∈ GW := gt5 157 rfl rfl
set_option maxRecDepth 100000 in
theorem em_194 : EMc yX11_trade cX11_trade 11 4 (some .int) 3 0 := ⟨rfl, plainFor_of_name ((cls_ok (o := 11) (by decide)).1 (by decide)), (cls_ok (o := 11) (by decide)).2.1, (cls_ok (o := 11) (by decide)).2.2, fun q => absurd q (by decide), fun _ => ⟨gt7 143 rfl rfl, by decide +kernel⟩, fun _ => Or.inr (gt7 144 rfl rfl)⟩
set_option maxRecDepth 100000 in
theorem ec_194 : Cond.code yX11_trade cX11_trade 4 (some .int) ∈ GW := gt7 145 rfl rfl
set_option maxRecDepth 100000 in
theorem em_195 : EMc yX11_position cX11_position 11 3 (some .int) 3 0 := ⟨rfl, plainFor_of_name ((cls_ok (o := 11) (by decide)).1 (by decide)), (cls_ok (o := 11) (by decide)).2.1, (cls_ok (o := 11) (by decide)).2.2, fun q => absurd q (by decide), fun _ => ⟨gt7 154 rfl rfl, by decide +kernel⟩, fun _ => Or.inr (gt7 155 rfl rfl)⟩
set_option maxRecDepth 100000 in
theorem ec_195 : Cond.code yX11_position cX11_position 3 (some .int) ∈ GW := gt7 156 rfl rfl
set_option maxRecDepth 100000 in
theorem em_196 : EMc yX11_cash cX11_cash 11 2 (some .long) 2 0 := ⟨rfl, plainFor_of_name ((cls_ok (o := 11) (by decide)).1 (by decide)), (cls_ok (o := 11) (by decide)).2.1, (cls_ok (o := 11) (by decide)).2.2, fun q => absurd q (by decide), fun _ => ⟨gt7 161 rfl rfl, by decide +kernel⟩, fun _ => Or.inr (gt7 162 rfl rfl)⟩
set_option maxRecDepth 100000 in
theorem ec_196 : Cond.code yX11_cash cX11_cash 2 (some .long) ∈ GW := gt7 163 rfl rfl
set_option maxRecDepth 100000 in
theorem em_197 : EMc yX11_quoted cX11_quoted 11 2 (some .int) 2 0 := ⟨rfl, plainFor_of_name ((cls_ok (o := 11) (by decide)).1 (by decide)), (cls_ok (o := 11) (by decide)).2.1, (cls_ok (o := 11) (by decide)).2.2, fun q => absurd q (by decide), fun _ => ⟨gt7 168 rfl rfl, by decide +kernel⟩, fun _ => Or.inr (gt7 169 rfl rfl)⟩
set_option maxRecDepth 100000 in
theorem ec_197 : Cond.code yX11_quoted cX11_quoted 2 (some .int) ∈ GW := gt7 170 rfl rfl
set_option maxRecDepth 100000 in
theorem em_198 : EMc yX11_member cX11_member 11 3 (some .long) 3 0 := ⟨rfl, plainFor_of_name ((cls_ok (o := 11) (by decide)).1 (by decide)), (cls_ok (o := 11) (by decide)).2.1, (cls_ok (o := 11) (by decide)).2.2, fun q => absurd q (by decide), fun _ => ⟨gt7 175 rfl rfl, by decide +kernel⟩, fun _ => Or.inr (gt7 176 rfl rfl)⟩
set_option maxRecDepth 100000 in
theorem ec_198 : Cond.code yX11_member cX11_member 3 (some .long) ∈ GW := gt7 177 rfl rfl
set_option maxRecDepth 100000 in
theorem em_199 : EMc yX11_stake cX11_stake 11 1 (some .int) 1 0 := ⟨rfl, plainFor_of_name ((cls_ok (o := 11) (by decide)).1 (by decide)), (cls_ok (o := 11) (by decide)).2.1, (cls_ok (o := 11) (by decide)).2.2, fun q => absurd q (by decide), fun _ => ⟨gt5 159 rfl rfl, by decide +kernel⟩, fun _ => Or.inr (gt5 160 rfl rfl)⟩
set_option maxRecDepth 100000 in
theorem ec_199 : Cond.code yX11_stake cX11_stake 1 (some .int) ∈ GW := gt5 161 rfl rfl
set_option maxRecDepth 100000 in
theorem em_200 : EMc yX11_needPlace cX11_needPlace 11 1 (none) 1 1 := ⟨rfl, plainFor_of_name ((cls_ok (o := 11) (by decide)).1 (by decide)), (cls_ok (o := 11) (by decide)).2.1, (cls_ok (o := 11) (by decide)).2.2, fun _ => ⟨gt5 182 rfl rfl, by decide +kernel⟩, fun q => absurd q (by decide), fun q => absurd q (by decide)⟩
set_option maxRecDepth 100000 in
theorem ec_200 : Cond.code yX11_needPlace cX11_needPlace 1 (none) ∈ GW := gt5 183 rfl rfl
set_option maxRecDepth 100000 in
theorem em_201 : EMc yX11_needRange cX11_needRange 11 1 (none) 1 1 := ⟨rfl, plainFor_of_name ((cls_ok (o := 11) (by decide)).1 (by decide)), (cls_ok (o := 11) (by decide)).2.1, (cls_ok (o := 11) (by decide)).2.2, fun _ => ⟨gt6 19 rfl rfl, by decide +kernel⟩, fun q => absurd q (by decide), fun q => absurd q (by decide)⟩
set_option maxRecDepth 100000 in
theorem ec_201 : Cond.code yX11_needRange cX11_needRange 1 (none) ∈ GW := gt6 20 rfl rfl
set_option maxRecDepth 100000 in
theorem em_202 : EMc yX11_needState cX11_needState 11 1 (none) 1 1 := ⟨rfl, plainFor_of_name ((cls_ok (o := 11) (by decide)).1 (by decide)), (cls_ok (o := 11) (by decide)).2.1, (cls_ok (o := 11) (by decide)).2.2, fun _ => ⟨gt6 63 rfl rfl, by decide +kernel⟩, fun q => absurd q (by decide), fun q => absurd q (by decide)⟩
set_option maxRecDepth 100000 in
theorem ec_202 : Cond.code yX11_needState cX11_needState 1 (none) ∈ GW := gt6 64 rfl rfl
set_option maxRecDepth 100000 in
theorem em_203 : EMc yX11_isWithin cX11_isWithin 11 3 (some .boolean) 3 1 := ⟨rfl, plainFor_of_name ((cls_ok (o := 11) (by decide)).1 (by decide)), (cls_ok (o := 11) (by decide)).2.1, (cls_ok (o := 11) (by decide)).2.2, fun _ => ⟨gt5 176 rfl rfl, by decide +kernel⟩, fun q => absurd q (by decide), fun q => absurd q (by decide)⟩
set_option maxRecDepth 100000 in
theorem ec_203 : Cond.code yX11_isWithin cX11_isWithin 3 (some .boolean) ∈ GW := gt5 177 rfl rfl
set_option maxRecDepth 100000 in
theorem em_204 : EMc yX11_isTrader cX11_isTrader 11 1 (some .boolean) 1 1 := ⟨rfl, plainFor_of_name ((cls_ok (o := 11) (by decide)).1 (by decide)), (cls_ok (o := 11) (by decide)).2.1, (cls_ok (o := 11) (by decide)).2.2, fun _ => ⟨gt5 173 rfl rfl, by decide +kernel⟩, fun q => absurd q (by decide), fun q => absurd q (by decide)⟩
set_option maxRecDepth 100000 in
theorem ec_204 : Cond.code yX11_isTrader cX11_isTrader 1 (some .boolean) ∈ GW := gt5 174 rfl rfl
set_option maxRecDepth 100000 in
theorem em_205 : EMc yX11_isBook cX11_isBook 11 1 (some .boolean) 1 1 := ⟨rfl, plainFor_of_name ((cls_ok (o := 11) (by decide)).1 (by decide)), (cls_ok (o := 11) (by decide)).2.1, (cls_ok (o := 11) (by decide)).2.2, fun _ => ⟨gt5 179 rfl rfl, by decide +kernel⟩, fun q => absurd q (by decide), fun q => absurd q (by decide)⟩
set_option maxRecDepth 100000 in
theorem ec_205 : Cond.code yX11_isBook cX11_isBook 1 (some .boolean) ∈ GW := gt5 180 rfl rfl
set_option maxRecDepth 100000 in
theorem em_206 : EMc yX11_isContract cX11_isContract 11 1 (some .boolean) 1 1 := ⟨rfl, plainFor_of_name ((cls_ok (o := 11) (by decide)).1 (by decide)), (cls_ok (o := 11) (by decide)).2.1, (cls_ok (o := 11) (by decide)).2.2, fun _ => ⟨gt6 114 rfl rfl, by decide +kernel⟩, fun q => absurd q (by decide), fun q => absurd q (by decide)⟩
set_option maxRecDepth 100000 in
theorem ec_206 : Cond.code yX11_isContract cX11_isContract 1 (some .boolean) ∈ GW := gt6 115 rfl rfl
set_option maxRecDepth 100000 in
theorem em_207 : EMc yX11_isMember cX11_isMember 11 1 (some .boolean) 1 1 := ⟨rfl, plainFor_of_name ((cls_ok (o := 11) (by decide)).1 (by decide)), (cls_ok (o := 11) (by decide)).2.1, (cls_ok (o := 11) (by decide)).2.2, fun _ => ⟨gt7 30 rfl rfl, by decide +kernel⟩, fun q => absurd q (by decide), fun q => absurd q (by decide)⟩
set_option maxRecDepth 100000 in
theorem ec_207 : Cond.code yX11_isMember cX11_isMember 1 (some .boolean) ∈ GW := gt7 31 rfl rfl
set_option maxRecDepth 100000 in
theorem em_208 : EMc yX11_isQuantity cX11_isQuantity 11 1 (some .boolean) 1 1 := ⟨rfl, plainFor_of_name ((cls_ok (o := 11) (by decide)).1 (by decide)), (cls_ok (o := 11) (by decide)).2.1, (cls_ok (o := 11) (by decide)).2.2, fun _ => ⟨gt6 14 rfl rfl, by decide +kernel⟩, fun q => absurd q (by decide), fun q => absurd q (by decide)⟩
set_option maxRecDepth 100000 in
theorem ec_208 : Cond.code yX11_isQuantity cX11_isQuantity 1 (some .boolean) ∈ GW := gt6 15 rfl rfl
set_option maxRecDepth 100000 in
theorem em_209 : EMc yX11_keptDeal cX11_keptDeal 11 3 (some (.object "Openbook$Deal")) 2 0 := ⟨rfl, plainFor_of_name ((cls_ok (o := 11) (by decide)).1 (by decide)), (cls_ok (o := 11) (by decide)).2.1, (cls_ok (o := 11) (by decide)).2.2, fun q => absurd q (by decide), fun _ => ⟨gt6 198 rfl rfl, by decide +kernel⟩, fun _ => Or.inr (gp2 5 rfl)⟩
set_option maxRecDepth 100000 in
theorem ec_209 : Cond.code yX11_keptDeal cX11_keptDeal 3 (some (.object "Openbook$Deal")) ∈ GW := gt6 199 rfl rfl
set_option maxRecDepth 100000 in
theorem em_210 : EMc yX11_enter cX11_enter 11 9 (some .int) 8 0 := ⟨rfl, plainFor_of_name ((cls_ok (o := 11) (by decide)).1 (by decide)), (cls_ok (o := 11) (by decide)).2.1, (cls_ok (o := 11) (by decide)).2.2, fun q => absurd q (by decide), fun _ => ⟨gt6 83 rfl rfl, by decide +kernel⟩, fun _ => Or.inr (gp2 4 rfl)⟩
set_option maxRecDepth 100000 in
theorem ec_210 : Cond.code yX11_enter cX11_enter 9 (some .int) ∈ GW := gt6 84 rfl rfl
set_option maxRecDepth 100000 in
theorem em_211 : EMc yX11_play cX11_play 11 11 (some .int) 3 0 := ⟨rfl, plainFor_of_name ((cls_ok (o := 11) (by decide)).1 (by decide)), (cls_ok (o := 11) (by decide)).2.1, (cls_ok (o := 11) (by decide)).2.2, fun q => absurd q (by decide), fun _ => ⟨gt3 87 rfl rfl, by decide +kernel⟩, fun _ => Or.inr (gp0 0 rfl)⟩
set_option maxRecDepth 100000 in
theorem ec_211 : Cond.code yX11_play cX11_play 11 (some .int) ∈ GW := gt3 88 rfl rfl
set_option maxRecDepth 100000 in
theorem em_212 : EMc yX12_init cX12_init 12 1 (none) 1 0 := ⟨rfl, plainFor_of_name ((cls_ok (o := 12) (by decide)).1 (by decide)), (cls_ok (o := 12) (by decide)).2.1, (cls_ok (o := 12) (by decide)).2.2, fun q => absurd q (by decide), fun _ => ⟨gt7 185 rfl rfl, by decide +kernel⟩, fun _ => Or.inl rfl⟩
set_option maxRecDepth 100000 in
theorem ec_212 : Cond.code yX12_init cX12_init 1 (none) ∈ GW := gt7 186 rfl rfl
set_option maxRecDepth 100000 in
theorem em_213 : EMc yX12_thrown cX12_thrown 12 1 (some .int) 1 0 := ⟨rfl, plainFor_of_name ((cls_ok (o := 12) (by decide)).1 (by decide)), (cls_ok (o := 12) (by decide)).2.1, (cls_ok (o := 12) (by decide)).2.2, fun q => absurd q (by decide), fun _ => ⟨gt8 167 rfl rfl, by decide +kernel⟩, fun _ => Or.inr (gt8 168 rfl rfl)⟩
set_option maxRecDepth 100000 in
theorem ec_213 : Cond.code yX12_thrown cX12_thrown 1 (some .int) ∈ GW := gt8 169 rfl rfl
set_option maxRecDepth 100000 in
theorem em_214 : EMc yX12_resets cX12_resets 12 2 (none) 1 0 := ⟨rfl, plainFor_of_name ((cls_ok (o := 12) (by decide)).1 (by decide)), (cls_ok (o := 12) (by decide)).2.1, (cls_ok (o := 12) (by decide)).2.2, fun q => absurd q (by decide), fun _ => ⟨gt7 190 rfl rfl, by decide +kernel⟩, fun _ => Or.inr (gp2 6 rfl)⟩
set_option maxRecDepth 100000 in
theorem ec_214 : Cond.code yX12_resets cX12_resets 2 (none) ∈ GW := gt7 191 rfl rfl
set_option maxRecDepth 100000 in
theorem em_215 : EMc yX12_in cX12_in 12 3 (some .boolean) 3 1 := ⟨rfl, plainFor_of_name ((cls_ok (o := 12) (by decide)).1 (by decide)), (cls_ok (o := 12) (by decide)).2.1, (cls_ok (o := 12) (by decide)).2.2, fun _ => ⟨gt8 190 rfl rfl, by decide +kernel⟩, fun q => absurd q (by decide), fun q => absurd q (by decide)⟩
set_option maxRecDepth 100000 in
theorem ec_215 : Cond.code yX12_in cX12_in 3 (some .boolean) ∈ GW := gt8 191 rfl rfl
set_option maxRecDepth 100000 in
theorem em_216 : EMc yX12_abs cX12_abs 12 1 (some .int) 1 1 := ⟨rfl, plainFor_of_name ((cls_ok (o := 12) (by decide)).1 (by decide)), (cls_ok (o := 12) (by decide)).2.1, (cls_ok (o := 12) (by decide)).2.2, fun _ => ⟨gt8 200 rfl rfl, by decide +kernel⟩, fun q => absurd q (by decide), fun q => absurd q (by decide)⟩
set_option maxRecDepth 100000 in
theorem ec_216 : Cond.code yX12_abs cX12_abs 1 (some .int) ∈ GW := gt8 201 rfl rfl
set_option maxRecDepth 100000 in
theorem em_217 : EMc yX12_floor cX12_floor 12 4 (some .long) 2 1 := ⟨rfl, plainFor_of_name ((cls_ok (o := 12) (by decide)).1 (by decide)), (cls_ok (o := 12) (by decide)).2.1, (cls_ok (o := 12) (by decide)).2.2, fun _ => ⟨gt10 25 rfl rfl, by decide +kernel⟩, fun q => absurd q (by decide), fun q => absurd q (by decide)⟩
set_option maxRecDepth 100000 in
theorem ec_217 : Cond.code yX12_floor cX12_floor 4 (some .long) ∈ GW := gt10 26 rfl rfl
set_option maxRecDepth 100000 in
theorem em_218 : EMc yX12_isOpen cX12_isOpen 12 2 (some .boolean) 2 0 := ⟨rfl, plainFor_of_name ((cls_ok (o := 12) (by decide)).1 (by decide)), (cls_ok (o := 12) (by decide)).2.1, (cls_ok (o := 12) (by decide)).2.2, fun q => absurd q (by decide), fun _ => ⟨gt8 227 rfl rfl, by decide +kernel⟩, fun _ => Or.inr (gp3 0 rfl)⟩
set_option maxRecDepth 100000 in
theorem ec_218 : Cond.code yX12_isOpen cX12_isOpen 2 (some .boolean) ∈ GW := gt8 228 rfl rfl
set_option maxRecDepth 100000 in
theorem em_219 : EMc yX12_isPrice cX12_isPrice 12 2 (some .boolean) 2 1 := ⟨rfl, plainFor_of_name ((cls_ok (o := 12) (by decide)).1 (by decide)), (cls_ok (o := 12) (by decide)).2.1, (cls_ok (o := 12) (by decide)).2.2, fun _ => ⟨gt8 193 rfl rfl, by decide +kernel⟩, fun q => absurd q (by decide), fun q => absurd q (by decide)⟩
set_option maxRecDepth 100000 in
theorem ec_219 : Cond.code yX12_isPrice cX12_isPrice 2 (some .boolean) ∈ GW := gt8 194 rfl rfl
set_option maxRecDepth 100000 in
theorem em_220 : EMc yX12_isNear cX12_isNear 12 3 (some .boolean) 3 0 := ⟨rfl, plainFor_of_name ((cls_ok (o := 12) (by decide)).1 (by decide)), (cls_ok (o := 12) (by decide)).2.1, (cls_ok (o := 12) (by decide)).2.2, fun q => absurd q (by decide), fun _ => ⟨gt9 2 rfl rfl, by decide +kernel⟩, fun _ => Or.inr (gp3 3 rfl)⟩
set_option maxRecDepth 100000 in
theorem ec_220 : Cond.code yX12_isNear cX12_isNear 3 (some .boolean) ∈ GW := gt9 3 rfl rfl
set_option maxRecDepth 100000 in
theorem em_221 : EMc yX12_contractOf cX12_contractOf 12 2 (some .int) 2 1 := ⟨rfl, plainFor_of_name ((cls_ok (o := 12) (by decide)).1 (by decide)), (cls_ok (o := 12) (by decide)).2.1, (cls_ok (o := 12) (by decide)).2.2, fun _ => ⟨gt8 215 rfl rfl, by decide +kernel⟩, fun q => absurd q (by decide), fun q => absurd q (by decide)⟩
set_option maxRecDepth 100000 in
theorem ec_221 : Cond.code yX12_contractOf cX12_contractOf 2 (some .int) ∈ GW := gt8 216 rfl rfl
set_option maxRecDepth 100000 in
theorem em_222 : EMc yX12_live cX12_live 12 3 (some .int) 1 0 := ⟨rfl, plainFor_of_name ((cls_ok (o := 12) (by decide)).1 (by decide)), (cls_ok (o := 12) (by decide)).2.1, (cls_ok (o := 12) (by decide)).2.2, fun q => absurd q (by decide), fun _ => ⟨gt8 208 rfl rfl, by decide +kernel⟩, fun _ => Or.inr (gp2 12 rfl)⟩
set_option maxRecDepth 100000 in
theorem ec_222 : Cond.code yX12_live cX12_live 3 (some .int) ∈ GW := gt8 209 rfl rfl
set_option maxRecDepth 100000 in
theorem em_223 : EMc yX12_placeOf cX12_placeOf 12 4 (some .int) 2 0 := ⟨rfl, plainFor_of_name ((cls_ok (o := 12) (by decide)).1 (by decide)), (cls_ok (o := 12) (by decide)).2.1, (cls_ok (o := 12) (by decide)).2.2, fun q => absurd q (by decide), fun _ => ⟨gt9 138 rfl rfl, by decide +kernel⟩, fun _ => Or.inr (gp5 5 rfl)⟩
set_option maxRecDepth 100000 in
theorem ec_223 : Cond.code yX12_placeOf cX12_placeOf 4 (some .int) ∈ GW := gt9 139 rfl rfl
set_option maxRecDepth 100000 in
theorem em_224 : EMc yX12_newOrder cX12_newOrder 12 9 (some .int) 8 0 := ⟨rfl, plainFor_of_name ((cls_ok (o := 12) (by decide)).1 (by decide)), (cls_ok (o := 12) (by decide)).2.1, (cls_ok (o := 12) (by decide)).2.2, fun q => absurd q (by decide), fun _ => ⟨gt9 6 rfl rfl, by decide +kernel⟩, fun _ => Or.inr (gp3 4 rfl)⟩
set_option maxRecDepth 100000 in
theorem ec_224 : Cond.code yX12_newOrder cX12_newOrder 9 (some .int) ∈ GW := gt9 7 rfl rfl
set_option maxRecDepth 100000 in
theorem em_225 : EMc yX12_newTurn cX12_newTurn 12 2 (none) 2 0 := ⟨rfl, plainFor_of_name ((cls_ok (o := 12) (by decide)).1 (by decide)), (cls_ok (o := 12) (by decide)).2.1, (cls_ok (o := 12) (by decide)).2.2, fun q => absurd q (by decide), fun _ => ⟨gt9 102 rfl rfl, by decide +kernel⟩, fun _ => Or.inr (gp4 12 rfl)⟩
set_option maxRecDepth 100000 in
theorem ec_225 : Cond.code yX12_newTurn cX12_newTurn 2 (none) ∈ GW := gt9 103 rfl rfl
set_option maxRecDepth 100000 in
theorem em_226 : EMc yX12_showsNow cX12_showsNow 12 2 (some .int) 2 0 := ⟨rfl, plainFor_of_name ((cls_ok (o := 12) (by decide)).1 (by decide)), (cls_ok (o := 12) (by decide)).2.1, (cls_ok (o := 12) (by decide)).2.2, fun q => absurd q (by decide), fun _ => ⟨gt9 50 rfl rfl, by decide +kernel⟩, fun _ => Or.inr (gp3 15 rfl)⟩
set_option maxRecDepth 100000 in
theorem ec_226 : Cond.code yX12_showsNow cX12_showsNow 2 (some .int) ∈ GW := gt9 51 rfl rfl
set_option maxRecDepth 100000 in
theorem em_227 : EMc yX12_showsAnew cX12_showsAnew 12 2 (none) 2 0 := ⟨rfl, plainFor_of_name ((cls_ok (o := 12) (by decide)).1 (by decide)), (cls_ok (o := 12) (by decide)).2.1, (cls_ok (o := 12) (by decide)).2.2, fun q => absurd q (by decide), fun _ => ⟨gt9 98 rfl rfl, by decide +kernel⟩, fun _ => Or.inr (gp4 11 rfl)⟩
set_option maxRecDepth 100000 in
theorem ec_227 : Cond.code yX12_showsAnew cX12_showsAnew 2 (none) ∈ GW := gt9 99 rfl rfl
set_option maxRecDepth 100000 in
theorem em_228 : EMc yX12_comes cX12_comes 12 2 (none) 2 0 := ⟨rfl, plainFor_of_name ((cls_ok (o := 12) (by decide)).1 (by decide)), (cls_ok (o := 12) (by decide)).2.1, (cls_ok (o := 12) (by decide)).2.2, fun q => absurd q (by decide), fun _ => ⟨gt9 110 rfl rfl, by decide +kernel⟩, fun _ => Or.inr (gp4 14 rfl)⟩
set_option maxRecDepth 100000 in
theorem ec_228 : Cond.code yX12_comes cX12_comes 2 (none) ∈ GW := gt9 111 rfl rfl
set_option maxRecDepth 100000 in
theorem em_229 : EMc yX12_restsOf cX12_restsOf 12 8 (some .int) 4 0 := ⟨rfl, plainFor_of_name ((cls_ok (o := 12) (by decide)).1 (by decide)), (cls_ok (o := 12) (by decide)).2.1, (cls_ok (o := 12) (by decide)).2.2, fun q => absurd q (by decide), fun _ => ⟨gt8 223 rfl rfl, by decide +kernel⟩, fun _ => Or.inr (gp2 15 rfl)⟩
set_option maxRecDepth 100000 in
theorem ec_229 : Cond.code yX12_restsOf cX12_restsOf 8 (some .int) ∈ GW := gt8 224 rfl rfl
set_option maxRecDepth 100000 in
theorem em_230 : EMc yX12_isOver cX12_isOver 12 9 (some .boolean) 5 0 := ⟨rfl, plainFor_of_name ((cls_ok (o := 12) (by decide)).1 (by decide)), (cls_ok (o := 12) (by decide)).2.1, (cls_ok (o := 12) (by decide)).2.2, fun q => absurd q (by decide), fun _ => ⟨gt8 219 rfl rfl, by decide +kernel⟩, fun _ => Or.inr (gp2 14 rfl)⟩
set_option maxRecDepth 100000 in
theorem ec_230 : Cond.code yX12_isOver cX12_isOver 9 (some .boolean) ∈ GW := gt8 220 rfl rfl
set_option maxRecDepth 100000 in
theorem em_231 : EMc yX12_isRefused cX12_isRefused 12 6 (some .boolean) 4 0 := ⟨rfl, plainFor_of_name ((cls_ok (o := 12) (by decide)).1 (by decide)), (cls_ok (o := 12) (by decide)).2.1, (cls_ok (o := 12) (by decide)).2.2, fun q => absurd q (by decide), fun _ => ⟨gt8 212 rfl rfl, by decide +kernel⟩, fun _ => Or.inr (gp2 13 rfl)⟩
set_option maxRecDepth 100000 in
theorem ec_231 : Cond.code yX12_isRefused cX12_isRefused 6 (some .boolean) ∈ GW := gt8 213 rfl rfl
set_option maxRecDepth 100000 in
theorem em_232 : EMc yX12_holds cX12_holds 12 5 (none) 5 0 := ⟨rfl, plainFor_of_name ((cls_ok (o := 12) (by decide)).1 (by decide)), (cls_ok (o := 12) (by decide)).2.1, (cls_ok (o := 12) (by decide)).2.2, fun q => absurd q (by decide), fun _ => ⟨gt9 90 rfl rfl, by decide +kernel⟩, fun _ => Or.inr (gp4 9 rfl)⟩
set_option maxRecDepth 100000 in
theorem ec_232 : Cond.code yX12_holds cX12_holds 5 (none) ∈ GW := gt9 91 rfl rfl
set_option maxRecDepth 100000 in
theorem em_233 : EMc yX12_deals cX12_deals 12 7 (none) 6 0 := ⟨rfl, plainFor_of_name ((cls_ok (o := 12) (by decide)).1 (by decide)), (cls_ok (o := 12) (by decide)).2.1, (cls_ok (o := 12) (by decide)).2.2, fun q => absurd q (by decide), fun _ => ⟨gt9 86 rfl rfl, by decide +kernel⟩, fun _ => Or.inr (gp4 8 rfl)⟩
set_option maxRecDepth 100000 in
theorem ec_233 : Cond.code yX12_deals cX12_deals 7 (none) ∈ GW := gt9 87 rfl rfl
set_option maxRecDepth 100000 in
theorem em_234 : EMc yX12_isKept cX12_isKept 12 2 (some .boolean) 2 0 := ⟨rfl, plainFor_of_name ((cls_ok (o := 12) (by decide)).1 (by decide)), (cls_ok (o := 12) (by decide)).2.1, (cls_ok (o := 12) (by decide)).2.2, fun q => absurd q (by decide), fun _ => ⟨gt9 198 rfl rfl, by decide +kernel⟩, fun _ => Or.inr (gp6 4 rfl)⟩
set_option maxRecDepth 100000 in
theorem ec_234 : Cond.code yX12_isKept cX12_isKept 2 (some .boolean) ∈ GW := gt9 199 rfl rfl
set_option maxRecDepth 100000 in
theorem em_235 : EMc yX12_latest cX12_latest 12 4 (some .int) 2 0 := ⟨rfl, plainFor_of_name ((cls_ok (o := 12) (by decide)).1 (by decide)), (cls_ok (o := 12) (by decide)).2.1, (cls_ok (o := 12) (by decide)).2.2, fun q => absurd q (by decide), fun _ => ⟨gt9 194 rfl rfl, by decide +kernel⟩, fun _ => Or.inr (gp6 3 rfl)⟩
set_option maxRecDepth 100000 in
theorem ec_235 : Cond.code yX12_latest cX12_latest 4 (some .int) ∈ GW := gt9 195 rfl rfl
set_option maxRecDepth 100000 in
theorem em_236 : EMc yX12_falls cX12_falls 12 4 (none) 4 0 := ⟨rfl, plainFor_of_name ((cls_ok (o := 12) (by decide)).1 (by decide)), (cls_ok (o := 12) (by decide)).2.1, (cls_ok (o := 12) (by decide)).2.2, fun q => absurd q (by decide), fun _ => ⟨gt9 94 rfl rfl, by decide +kernel⟩, fun _ => Or.inr (gp4 10 rfl)⟩
set_option maxRecDepth 100000 in
theorem ec_236 : Cond.code yX12_falls cX12_falls 4 (none) ∈ GW := gt9 95 rfl rfl
set_option maxRecDepth 100000 in
theorem em_237 : EMc yX12_guards cX12_guards 12 4 (none) 2 0 := ⟨rfl, plainFor_of_name ((cls_ok (o := 12) (by decide)).1 (by decide)), (cls_ok (o := 12) (by decide)).2.1, (cls_ok (o := 12) (by decide)).2.2, fun q => absurd q (by decide), fun _ => ⟨gt9 106 rfl rfl, by decide +kernel⟩, fun _ => Or.inr (gp4 13 rfl)⟩
set_option maxRecDepth 100000 in
theorem ec_237 : Cond.code yX12_guards cX12_guards 4 (none) ∈ GW := gt9 107 rfl rfl
set_option maxRecDepth 100000 in
theorem em_238 : EMc yX12_isThere cX12_isThere 12 4 (some .boolean) 4 0 := ⟨rfl, plainFor_of_name ((cls_ok (o := 12) (by decide)).1 (by decide)), (cls_ok (o := 12) (by decide)).2.1, (cls_ok (o := 12) (by decide)).2.2, fun q => absurd q (by decide), fun _ => ⟨gt8 235 rfl rfl, by decide +kernel⟩, fun _ => Or.inr (gp3 2 rfl)⟩
set_option maxRecDepth 100000 in
theorem ec_238 : Cond.code yX12_isThere cX12_isThere 4 (some .boolean) ∈ GW := gt8 236 rfl rfl
set_option maxRecDepth 100000 in
theorem em_239 : EMc yX12_isBetter cX12_isBetter 12 3 (some .boolean) 3 1 := ⟨rfl, plainFor_of_name ((cls_ok (o := 12) (by decide)).1 (by decide)), (cls_ok (o := 12) (by decide)).2.1, (cls_ok (o := 12) (by decide)).2.2, fun _ => ⟨gt8 238 rfl rfl, by decide +kernel⟩, fun q => absurd q (by decide), fun q => absurd q (by decide)⟩
set_option maxRecDepth 100000 in
theorem ec_239 : Cond.code yX12_isBetter cX12_isBetter 3 (some .boolean) ∈ GW := gt8 239 rfl rfl
set_option maxRecDepth 100000 in
theorem em_240 : EMc yX12_bestOf cX12_bestOf 12 6 (some .int) 4 0 := ⟨rfl, plainFor_of_name ((cls_ok (o := 12) (by decide)).1 (by decide)), (cls_ok (o := 12) (by decide)).2.1, (cls_ok (o := 12) (by decide)).2.2, fun q => absurd q (by decide), fun _ => ⟨gt9 22 rfl rfl, by decide +kernel⟩, fun _ => Or.inr (gp3 8 rfl)⟩
set_option maxRecDepth 100000 in
theorem ec_240 : Cond.code yX12_bestOf cX12_bestOf 6 (some .int) ∈ GW := gt9 23 rfl rfl
set_option maxRecDepth 100000 in
theorem em_241 : EMc yX12_isAt cX12_isAt 12 5 (some .boolean) 5 0 := ⟨rfl, plainFor_of_name ((cls_ok (o := 12) (by decide)).1 (by decide)), (cls_ok (o := 12) (by decide)).2.1, (cls_ok (o := 12) (by decide)).2.2, fun q => absurd q (by decide), fun _ => ⟨gt9 34 rfl rfl, by decide +kernel⟩, fun _ => Or.inr (gp3 11 rfl)⟩
set_option maxRecDepth 100000 in
theorem ec_241 : Cond.code yX12_isAt cX12_isAt 5 (some .boolean) ∈ GW := gt9 35 rfl rfl
set_option maxRecDepth 100000 in
theorem em_242 : EMc yX12_behindTurn cX12_behindTurn 12 8 (some .int) 5 0 := ⟨rfl, plainFor_of_name ((cls_ok (o := 12) (by decide)).1 (by decide)), (cls_ok (o := 12) (by decide)).2.1, (cls_ok (o := 12) (by decide)).2.2, fun q => absurd q (by decide), fun _ => ⟨gt9 58 rfl rfl, by decide +kernel⟩, fun _ => Or.inr (gp4 1 rfl)⟩
set_option maxRecDepth 100000 in
theorem ec_242 : Cond.code yX12_behindTurn cX12_behindTurn 8 (some .int) ∈ GW := gt9 59 rfl rfl
set_option maxRecDepth 100000 in
theorem em_243 : EMc yX12_clearsGets cX12_clearsGets 12 2 (none) 1 0 := ⟨rfl, plainFor_of_name ((cls_ok (o := 12) (by decide)).1 (by decide)), (cls_ok (o := 12) (by decide)).2.1, (cls_ok (o := 12) (by decide)).2.2, fun q => absurd q (by decide), fun _ => ⟨gt9 46 rfl rfl, by decide +kernel⟩, fun _ => Or.inr (gp3 14 rfl)⟩
set_option maxRecDepth 100000 in
theorem ec_243 : Cond.code yX12_clearsGets cX12_clearsGets 2 (none) ∈ GW := gt9 47 rfl rfl
set_option maxRecDepth 100000 in
theorem em_244 : EMc yX12_least cX12_least 12 3 (some .int) 3 0 := ⟨rfl, plainFor_of_name ((cls_ok (o := 12) (by decide)).1 (by decide)), (cls_ok (o := 12) (by decide)).2.1, (cls_ok (o := 12) (by decide)).2.2, fun q => absurd q (by decide), fun _ => ⟨gt9 62 rfl rfl, by decide +kernel⟩, fun _ => Or.inr (gp4 2 rfl)⟩
set_option maxRecDepth 100000 in
theorem ec_244 : Cond.code yX12_least cX12_least 3 (some .int) ∈ GW := gt9 63 rfl rfl
set_option maxRecDepth 100000 in
theorem em_245 : EMc yX12_sharesByTurns cX12_sharesByTurns 12 7 (none) 5 0 := ⟨rfl, plainFor_of_name ((cls_ok (o := 12) (by decide)).1 (by decide)), (cls_ok (o := 12) (by decide)).2.1, (cls_ok (o := 12) (by decide)).2.2, fun q => absurd q (by decide), fun _ => ⟨gt9 54 rfl rfl, by decide +kernel⟩, fun _ => Or.inr (gp4 0 rfl)⟩
set_option maxRecDepth 100000 in
theorem ec_245 : Cond.code yX12_sharesByTurns cX12_sharesByTurns 7 (none) ∈ GW := gt9 55 rfl rfl
set_option maxRecDepth 100000 in
theorem em_246 : EMc yX12_sharesBySize cX12_sharesBySize 12 7 (none) 5 0 := ⟨rfl, plainFor_of_name ((cls_ok (o := 12) (by decide)).1 (by decide)), (cls_ok (o := 12) (by decide)).2.1, (cls_ok (o := 12) (by decide)).2.2, fun q => absurd q (by decide), fun _ => ⟨gt9 66 rfl rfl, by decide +kernel⟩, fun _ => Or.inr (gp4 3 rfl)⟩
set_option maxRecDepth 100000 in
theorem ec_246 : Cond.code yX12_sharesBySize cX12_sharesBySize 7 (none) ∈ GW := gt9 67 rfl rfl
set_option maxRecDepth 100000 in
theorem em_247 : EMc yX12_nextBySize cX12_nextBySize 12 10 (some .int) 6 0 := ⟨rfl, plainFor_of_name ((cls_ok (o := 12) (by decide)).1 (by decide)), (cls_ok (o := 12) (by decide)).2.1, (cls_ok (o := 12) (by decide)).2.2, fun q => absurd q (by decide), fun _ => ⟨gt9 70 rfl rfl, by decide +kernel⟩, fun _ => Or.inr (gp4 4 rfl)⟩
set_option maxRecDepth 100000 in
theorem ec_247 : Cond.code yX12_nextBySize cX12_nextBySize 10 (some .int) ∈ GW := gt9 71 rfl rfl
set_option maxRecDepth 100000 in
theorem em_248 : EMc yX12_sharesOut cX12_sharesOut 12 12 (none) 5 0 := ⟨rfl, plainFor_of_name ((cls_ok (o := 12) (by decide)).1 (by decide)), (cls_ok (o := 12) (by decide)).2.1, (cls_ok (o := 12) (by decide)).2.2, fun q => absurd q (by decide), fun _ => ⟨gt9 74 rfl rfl, by decide +kernel⟩, fun _ => Or.inr (gp4 5 rfl)⟩
set_option maxRecDepth 100000 in
theorem ec_248 : Cond.code yX12_sharesOut cX12_sharesOut 12 (none) ∈ GW := gt9 75 rfl rfl
set_option maxRecDepth 100000 in
theorem em_249 : EMc yX12_tradesWith cX12_tradesWith 12 7 (none) 4 0 := ⟨rfl, plainFor_of_name ((cls_ok (o := 12) (by decide)).1 (by decide)), (cls_ok (o := 12) (by decide)).2.1, (cls_ok (o := 12) (by decide)).2.2, fun q => absurd q (by decide), fun _ => ⟨gt9 82 rfl rfl, by decide +kernel⟩, fun _ => Or.inr (gp4 7 rfl)⟩
set_option maxRecDepth 100000 in
theorem ec_249 : Cond.code yX12_tradesWith cX12_tradesWith 7 (none) ∈ GW := gt9 83 rfl rfl
set_option maxRecDepth 100000 in
theorem em_250 : EMc yX12_served cX12_served 12 9 (some .int) 4 0 := ⟨rfl, plainFor_of_name ((cls_ok (o := 12) (by decide)).1 (by decide)), (cls_ok (o := 12) (by decide)).2.1, (cls_ok (o := 12) (by decide)).2.2, fun q => absurd q (by decide), fun _ => ⟨gt9 78 rfl rfl, by decide +kernel⟩, fun _ => Or.inr (gp4 6 rfl)⟩
set_option maxRecDepth 100000 in
theorem ec_250 : Cond.code yX12_served cX12_served 9 (some .int) ∈ GW := gt9 79 rfl rfl
set_option maxRecDepth 100000 in
theorem em_251 : EMc yX12_servesAll cX12_servesAll 12 6 (none) 3 0 := ⟨rfl, plainFor_of_name ((cls_ok (o := 12) (by decide)).1 (by decide)), (cls_ok (o := 12) (by decide)).2.1, (cls_ok (o := 12) (by decide)).2.2, fun q => absurd q (by decide), fun _ => ⟨gt9 42 rfl rfl, by decide +kernel⟩, fun _ => Or.inr (gp3 13 rfl)⟩
set_option maxRecDepth 100000 in
theorem ec_251 : Cond.code yX12_servesAll cX12_servesAll 6 (none) ∈ GW := gt9 43 rfl rfl
set_option maxRecDepth 100000 in
theorem em_252 : EMc yX12_hasOwn cX12_hasOwn 12 5 (some .boolean) 3 0 := ⟨rfl, plainFor_of_name ((cls_ok (o := 12) (by decide)).1 (by decide)), (cls_ok (o := 12) (by decide)).2.1, (cls_ok (o := 12) (by decide)).2.2, fun q => absurd q (by decide), fun _ => ⟨gt9 30 rfl rfl, by decide +kernel⟩, fun _ => Or.inr (gp3 10 rfl)⟩
set_option maxRecDepth 100000 in
theorem ec_252 : Cond.code yX12_hasOwn cX12_hasOwn 5 (some .boolean) ∈ GW := gt9 31 rfl rfl
set_option maxRecDepth 100000 in
theorem em_253 : EMc yX12_removesOwn cX12_removesOwn 12 4 (none) 3 0 := ⟨rfl, plainFor_of_name ((cls_ok (o := 12) (by decide)).1 (by decide)), (cls_ok (o := 12) (by decide)).2.1, (cls_ok (o := 12) (by decide)).2.2, fun q => absurd q (by decide), fun _ => ⟨gt9 38 rfl rfl, by decide +kernel⟩, fun _ => Or.inr (gp3 12 rfl)⟩
set_option maxRecDepth 100000 in
theorem ec_253 : Cond.code yX12_removesOwn cX12_removesOwn 4 (none) ∈ GW := gt9 39 rfl rfl
set_option maxRecDepth 100000 in
theorem em_254 : EMc yX12_beginsAuction cX12_beginsAuction 12 4 (none) 4 0 := ⟨rfl, plainFor_of_name ((cls_ok (o := 12) (by decide)).1 (by decide)), (cls_ok (o := 12) (by decide)).2.1, (cls_ok (o := 12) (by decide)).2.2, fun q => absurd q (by decide), fun _ => ⟨gt9 26 rfl rfl, by decide +kernel⟩, fun _ => Or.inr (gp3 9 rfl)⟩
set_option maxRecDepth 100000 in
theorem ec_254 : Cond.code yX12_beginsAuction cX12_beginsAuction 4 (none) ∈ GW := gt9 27 rfl rfl
set_option maxRecDepth 100000 in
theorem em_255 : EMc yX12_looks cX12_looks 12 4 (some .boolean) 2 0 := ⟨rfl, plainFor_of_name ((cls_ok (o := 12) (by decide)).1 (by decide)), (cls_ok (o := 12) (by decide)).2.1, (cls_ok (o := 12) (by decide)).2.2, fun q => absurd q (by decide), fun _ => ⟨gt9 18 rfl rfl, by decide +kernel⟩, fun _ => Or.inr (gp3 7 rfl)⟩
set_option maxRecDepth 100000 in
theorem ec_255 : Cond.code yX12_looks cX12_looks 4 (some .boolean) ∈ GW := gt9 19 rfl rfl
set_option maxRecDepth 100000 in
theorem em_256 : EMc yX12_matches cX12_matches 12 3 (none) 2 0 := ⟨rfl, plainFor_of_name ((cls_ok (o := 12) (by decide)).1 (by decide)), (cls_ok (o := 12) (by decide)).2.1, (cls_ok (o := 12) (by decide)).2.2, fun q => absurd q (by decide), fun _ => ⟨gt9 14 rfl rfl, by decide +kernel⟩, fun _ => Or.inr (gp3 6 rfl)⟩
set_option maxRecDepth 100000 in
theorem ec_256 : Cond.code yX12_matches cX12_matches 3 (none) ∈ GW := gt9 15 rfl rfl
set_option maxRecDepth 100000 in
theorem em_257 : EMc yX12_enters cX12_enters 12 2 (none) 2 0 := ⟨rfl, plainFor_of_name ((cls_ok (o := 12) (by decide)).1 (by decide)), (cls_ok (o := 12) (by decide)).2.1, (cls_ok (o := 12) (by decide)).2.2, fun q => absurd q (by decide), fun _ => ⟨gt9 10 rfl rfl, by decide +kernel⟩, fun _ => Or.inr (gp3 5 rfl)⟩
set_option maxRecDepth 100000 in
theorem ec_257 : Cond.code yX12_enters cX12_enters 2 (none) ∈ GW := gt9 11 rfl rfl
set_option maxRecDepth 100000 in
theorem em_258 : EMc yX12_readyStop cX12_readyStop 12 4 (some .int) 1 0 := ⟨rfl, plainFor_of_name ((cls_ok (o := 12) (by decide)).1 (by decide)), (cls_ok (o := 12) (by decide)).2.1, (cls_ok (o := 12) (by decide)).2.2, fun q => absurd q (by decide), fun _ => ⟨gt9 190 rfl rfl, by decide +kernel⟩, fun _ => Or.inr (gp6 2 rfl)⟩
set_option maxRecDepth 100000 in
theorem ec_258 : Cond.code yX12_readyStop cX12_readyStop 4 (some .int) ∈ GW := gt9 191 rfl rfl
set_option maxRecDepth 100000 in
theorem em_259 : EMc yX12_firstOf cX12_firstOf 12 7 (some .int) 3 0 := ⟨rfl, plainFor_of_name ((cls_ok (o := 12) (by decide)).1 (by decide)), (cls_ok (o := 12) (by decide)).2.1, (cls_ok (o := 12) (by decide)).2.2, fun q => absurd q (by decide), fun _ => ⟨gt9 210 rfl rfl, by decide +kernel⟩, fun _ => Or.inr (gp6 7 rfl)⟩
set_option maxRecDepth 100000 in
theorem ec_259 : Cond.code yX12_firstOf cX12_firstOf 7 (some .int) ∈ GW := gt9 211 rfl rfl
set_option maxRecDepth 100000 in
theorem em_260 : EMc yX12_canDeal cX12_canDeal 12 5 (some .boolean) 5 0 := ⟨rfl, plainFor_of_name ((cls_ok (o := 12) (by decide)).1 (by decide)), (cls_ok (o := 12) (by decide)).2.1, (cls_ok (o := 12) (by decide)).2.2, fun q => absurd q (by decide), fun _ => ⟨gt9 214 rfl rfl, by decide +kernel⟩, fun _ => Or.inr (gp6 8 rfl)⟩
set_option maxRecDepth 100000 in
theorem ec_260 : Cond.code yX12_canDeal cX12_canDeal 5 (some .boolean) ∈ GW := gt9 215 rfl rfl
set_option maxRecDepth 100000 in
theorem em_261 : EMc yX12_falls1 cX12_falls1 12 3 (none) 3 0 := ⟨rfl, plainFor_of_name ((cls_ok (o := 12) (by decide)).1 (by decide)), (cls_ok (o := 12) (by decide)).2.1, (cls_ok (o := 12) (by decide)).2.2, fun q => absurd q (by decide), fun _ => ⟨gt9 218 rfl rfl, by decide +kernel⟩, fun _ => Or.inr (gp6 9 rfl)⟩
set_option maxRecDepth 100000 in
theorem ec_261 : Cond.code yX12_falls1 cX12_falls1 3 (none) ∈ GW := gt9 219 rfl rfl
set_option maxRecDepth 100000 in
theorem em_262 : EMc yX12_joins cX12_joins 12 12 (some .boolean) 3 0 := ⟨rfl, plainFor_of_name ((cls_ok (o := 12) (by decide)).1 (by decide)), (cls_ok (o := 12) (by decide)).2.1, (cls_ok (o := 12) (by decide)).2.2, fun q => absurd q (by decide), fun _ => ⟨gt9 206 rfl rfl, by decide +kernel⟩, fun _ => Or.inr (gp6 6 rfl)⟩
set_option maxRecDepth 100000 in
theorem ec_262 : Cond.code yX12_joins cX12_joins 12 (some .boolean) ∈ GW := gt9 207 rfl rfl
set_option maxRecDepth 100000 in
theorem em_263 : EMc yX12_chains cX12_chains 12 11 (some .boolean) 2 0 := ⟨rfl, plainFor_of_name ((cls_ok (o := 12) (by decide)).1 (by decide)), (cls_ok (o := 12) (by decide)).2.1, (cls_ok (o := 12) (by decide)).2.2, fun q => absurd q (by decide), fun _ => ⟨gt9 222 rfl rfl, by decide +kernel⟩, fun _ => Or.inr (gp6 10 rfl)⟩
set_option maxRecDepth 100000 in
theorem ec_263 : Cond.code yX12_chains cX12_chains 11 (some .boolean) ∈ GW := gt9 223 rfl rfl
set_option maxRecDepth 100000 in
theorem em_264 : EMc yX12_combines cX12_combines 12 1 (some .boolean) 1 0 := ⟨rfl, plainFor_of_name ((cls_ok (o := 12) (by decide)).1 (by decide)), (cls_ok (o := 12) (by decide)).2.1, (cls_ok (o := 12) (by decide)).2.2, fun q => absurd q (by decide), fun _ => ⟨gt9 202 rfl rfl, by decide +kernel⟩, fun _ => Or.inr (gp6 5 rfl)⟩
set_option maxRecDepth 100000 in
theorem ec_264 : Cond.code yX12_combines cX12_combines 1 (some .boolean) ∈ GW := gt9 203 rfl rfl
set_option maxRecDepth 100000 in
theorem em_265 : EMc yX12_pegs cX12_pegs 12 5 (none) 2 0 := ⟨rfl, plainFor_of_name ((cls_ok (o := 12) (by decide)).1 (by decide)), (cls_ok (o := 12) (by decide)).2.1, (cls_ok (o := 12) (by decide)).2.2, fun q => absurd q (by decide), fun _ => ⟨gt9 230 rfl rfl, by decide +kernel⟩, fun _ => Or.inr (gp6 12 rfl)⟩
set_option maxRecDepth 100000 in
theorem ec_265 : Cond.code yX12_pegs cX12_pegs 5 (none) ∈ GW := gt9 231 rfl rfl
set_option maxRecDepth 100000 in
theorem em_266 : EMc yX12_pegsAll cX12_pegsAll 12 5 (none) 1 0 := ⟨rfl, plainFor_of_name ((cls_ok (o := 12) (by decide)).1 (by decide)), (cls_ok (o := 12) (by decide)).2.1, (cls_ok (o := 12) (by decide)).2.2, fun q => absurd q (by decide), fun _ => ⟨gt9 226 rfl rfl, by decide +kernel⟩, fun _ => Or.inr (gp6 11 rfl)⟩
set_option maxRecDepth 100000 in
theorem ec_266 : Cond.code yX12_pegsAll cX12_pegsAll 5 (none) ∈ GW := gt9 227 rfl rfl
set_option maxRecDepth 100000 in
theorem em_267 : EMc yX12_works cX12_works 12 3 (none) 1 0 := ⟨rfl, plainFor_of_name ((cls_ok (o := 12) (by decide)).1 (by decide)), (cls_ok (o := 12) (by decide)).2.1, (cls_ok (o := 12) (by decide)).2.2, fun q => absurd q (by decide), fun _ => ⟨gt9 186 rfl rfl, by decide +kernel⟩, fun _ => Or.inr (gp6 1 rfl)⟩
set_option maxRecDepth 100000 in
theorem ec_267 : Cond.code yX12_works cX12_works 3 (none) ∈ GW := gt9 187 rfl rfl
set_option maxRecDepth 100000 in
theorem em_268 : EMc yX12_wants cX12_wants 12 6 (some .int) 4 0 := ⟨rfl, plainFor_of_name ((cls_ok (o := 12) (by decide)).1 (by decide)), (cls_ok (o := 12) (by decide)).2.1, (cls_ok (o := 12) (by decide)).2.2, fun q => absurd q (by decide), fun _ => ⟨gt9 174 rfl rfl, by decide +kernel⟩, fun _ => Or.inr (gp5 14 rfl)⟩
set_option maxRecDepth 100000 in
theorem ec_268 : Cond.code yX12_wants cX12_wants 6 (some .int) ∈ GW := gt9 175 rfl rfl
set_option maxRecDepth 100000 in
theorem em_269 : EMc yX12_finds cX12_finds 12 11 (none) 2 0 := ⟨rfl, plainFor_of_name ((cls_ok (o := 12) (by decide)).1 (by decide)), (cls_ok (o := 12) (by decide)).2.1, (cls_ok (o := 12) (by decide)).2.2, fun q => absurd q (by decide), fun _ => ⟨gt9 170 rfl rfl, by decide +kernel⟩, fun _ => Or.inr (gp5 13 rfl)⟩
set_option maxRecDepth 100000 in
theorem ec_269 : Cond.code yX12_finds cX12_finds 11 (none) ∈ GW := gt9 171 rfl rfl
set_option maxRecDepth 100000 in
theorem em_270 : EMc yX12_firstIn cX12_firstIn 12 8 (some .int) 4 0 := ⟨rfl, plainFor_of_name ((cls_ok (o := 12) (by decide)).1 (by decide)), (cls_ok (o := 12) (by decide)).2.1, (cls_ok (o := 12) (by decide)).2.2, fun q => absurd q (by decide), fun _ => ⟨gt9 182 rfl rfl, by decide +kernel⟩, fun _ => Or.inr (gp6 0 rfl)⟩
set_option maxRecDepth 100000 in
theorem ec_270 : Cond.code yX12_firstIn cX12_firstIn 8 (some .int) ∈ GW := gt9 183 rfl rfl
set_option maxRecDepth 100000 in
theorem em_271 : EMc yX12_tradesAll cX12_tradesAll 12 6 (none) 3 0 := ⟨rfl, plainFor_of_name ((cls_ok (o := 12) (by decide)).1 (by decide)), (cls_ok (o := 12) (by decide)).2.1, (cls_ok (o := 12) (by decide)).2.2, fun q => absurd q (by decide), fun _ => ⟨gt9 178 rfl rfl, by decide +kernel⟩, fun _ => Or.inr (gp5 15 rfl)⟩
set_option maxRecDepth 100000 in
theorem ec_271 : Cond.code yX12_tradesAll cX12_tradesAll 6 (none) ∈ GW := gt9 179 rfl rfl
set_option maxRecDepth 100000 in
theorem em_272 : EMc yX12_endsAuction cX12_endsAuction 12 3 (none) 2 0 := ⟨rfl, plainFor_of_name ((cls_ok (o := 12) (by decide)).1 (by decide)), (cls_ok (o := 12) (by decide)).2.1, (cls_ok (o := 12) (by decide)).2.2, fun q => absurd q (by decide), fun _ => ⟨gt9 166 rfl rfl, by decide +kernel⟩, fun _ => Or.inr (gp5 12 rfl)⟩
set_option maxRecDepth 100000 in
theorem ec_272 : Cond.code yX12_endsAuction cX12_endsAuction 3 (none) ∈ GW := gt9 167 rfl rfl
set_option maxRecDepth 100000 in
theorem em_273 : EMc yX12_hasQuote cX12_hasQuote 12 6 (some .boolean) 4 0 := ⟨rfl, plainFor_of_name ((cls_ok (o := 12) (by decide)).1 (by decide)), (cls_ok (o := 12) (by decide)).2.1, (cls_ok (o := 12) (by decide)).2.2, fun q => absurd q (by decide), fun _ => ⟨gt9 162 rfl rfl, by decide +kernel⟩, fun _ => Or.inr (gp5 11 rfl)⟩
set_option maxRecDepth 100000 in
theorem ec_273 : Cond.code yX12_hasQuote cX12_hasQuote 6 (some .boolean) ∈ GW := gt9 163 rfl rfl
set_option maxRecDepth 100000 in
theorem em_274 : EMc yX12_passes cX12_passes 12 5 (none) 2 0 := ⟨rfl, plainFor_of_name ((cls_ok (o := 12) (by decide)).1 (by decide)), (cls_ok (o := 12) (by decide)).2.1, (cls_ok (o := 12) (by decide)).2.2, fun q => absurd q (by decide), fun _ => ⟨gt9 158 rfl rfl, by decide +kernel⟩, fun _ => Or.inr (gp5 10 rfl)⟩
set_option maxRecDepth 100000 in
theorem ec_274 : Cond.code yX12_passes cX12_passes 5 (none) ∈ GW := gt9 159 rfl rfl
set_option maxRecDepth 100000 in
theorem em_275 : EMc yX12_net cX12_net 12 3 (some .long) 3 0 := ⟨rfl, plainFor_of_name ((cls_ok (o := 12) (by decide)).1 (by decide)), (cls_ok (o := 12) (by decide)).2.1, (cls_ok (o := 12) (by decide)).2.2, fun q => absurd q (by decide), fun _ => ⟨gt10 61 rfl rfl, by decide +kernel⟩, fun _ => Or.inr (gp7 11 rfl)⟩
set_option maxRecDepth 100000 in
theorem ec_275 : Cond.code yX12_net cX12_net 3 (some .long) ∈ GW := gt10 62 rfl rfl
set_option maxRecDepth 100000 in
theorem em_276 : EMc yX12_risk cX12_risk 12 8 (some .long) 2 0 := ⟨rfl, plainFor_of_name ((cls_ok (o := 12) (by decide)).1 (by decide)), (cls_ok (o := 12) (by decide)).2.1, (cls_ok (o := 12) (by decide)).2.2, fun q => absurd q (by decide), fun _ => ⟨gt10 57 rfl rfl, by decide +kernel⟩, fun _ => Or.inr (gp7 10 rfl)⟩
set_option maxRecDepth 100000 in
theorem ec_276 : Cond.code yX12_risk cX12_risk 8 (some .long) ∈ GW := gt10 58 rfl rfl
set_option maxRecDepth 100000 in
theorem em_277 : EMc yX12_worth cX12_worth 12 5 (some .long) 2 0 := ⟨rfl, plainFor_of_name ((cls_ok (o := 12) (by decide)).1 (by decide)), (cls_ok (o := 12) (by decide)).2.1, (cls_ok (o := 12) (by decide)).2.2, fun q => absurd q (by decide), fun _ => ⟨gt10 71 rfl rfl, by decide +kernel⟩, fun _ => Or.inr (gp7 13 rfl)⟩
set_option maxRecDepth 100000 in
theorem ec_277 : Cond.code yX12_worth cX12_worth 5 (some .long) ∈ GW := gt10 72 rfl rfl
set_option maxRecDepth 100000 in
theorem em_278 : EMc yX12_value cX12_value 12 2 (some .long) 2 0 := ⟨rfl, plainFor_of_name ((cls_ok (o := 12) (by decide)).1 (by decide)), (cls_ok (o := 12) (by decide)).2.1, (cls_ok (o := 12) (by decide)).2.2, fun q => absurd q (by decide), fun _ => ⟨gt10 67 rfl rfl, by decide +kernel⟩, fun _ => Or.inr (gp7 12 rfl)⟩
set_option maxRecDepth 100000 in
theorem ec_278 : Cond.code yX12_value cX12_value 2 (some .long) ∈ GW := gt10 68 rfl rfl
set_option maxRecDepth 100000 in
theorem em_279 : EMc yX12_call cX12_call 12 9 (some .long) 4 0 := ⟨rfl, plainFor_of_name ((cls_ok (o := 12) (by decide)).1 (by decide)), (cls_ok (o := 12) (by decide)).2.1, (cls_ok (o := 12) (by decide)).2.2, fun q => absurd q (by decide), fun _ => ⟨gt10 53 rfl rfl, by decide +kernel⟩, fun _ => Or.inr (gp7 9 rfl)⟩
set_option maxRecDepth 100000 in
theorem ec_279 : Cond.code yX12_call cX12_call 9 (some .long) ∈ GW := gt10 54 rfl rfl
set_option maxRecDepth 100000 in
theorem em_280 : EMc yX12_isAccount cX12_isAccount 12 1 (some .boolean) 1 1 := ⟨rfl, plainFor_of_name ((cls_ok (o := 12) (by decide)).1 (by decide)), (cls_ok (o := 12) (by decide)).2.1, (cls_ok (o := 12) (by decide)).2.2, fun _ => ⟨gt8 187 rfl rfl, by decide +kernel⟩, fun q => absurd q (by decide), fun q => absurd q (by decide)⟩
set_option maxRecDepth 100000 in
theorem ec_280 : Cond.code yX12_isAccount cX12_isAccount 1 (some .boolean) ∈ GW := gt8 188 rfl rfl
set_option maxRecDepth 100000 in
theorem em_281 : EMc yX12_isQuantity cX12_isQuantity 12 2 (some .boolean) 2 0 := ⟨rfl, plainFor_of_name ((cls_ok (o := 12) (by decide)).1 (by decide)), (cls_ok (o := 12) (by decide)).2.1, (cls_ok (o := 12) (by decide)).2.2, fun q => absurd q (by decide), fun _ => ⟨gt8 197 rfl rfl, by decide +kernel⟩, fun _ => Or.inr (gp2 10 rfl)⟩
set_option maxRecDepth 100000 in
theorem ec_281 : Cond.code yX12_isQuantity cX12_isQuantity 2 (some .boolean) ∈ GW := gt8 198 rfl rfl
set_option maxRecDepth 100000 in
theorem em_282 : EMc yX12_isShut cX12_isShut 12 4 (some .boolean) 4 0 := ⟨rfl, plainFor_of_name ((cls_ok (o := 12) (by decide)).1 (by decide)), (cls_ok (o := 12) (by decide)).2.1, (cls_ok (o := 12) (by decide)).2.2, fun q => absurd q (by decide), fun _ => ⟨gt8 204 rfl rfl, by decide +kernel⟩, fun _ => Or.inr (gp2 11 rfl)⟩
set_option maxRecDepth 100000 in
theorem ec_282 : Cond.code yX12_isShut cX12_isShut 4 (some .boolean) ∈ GW := gt8 205 rfl rfl
set_option maxRecDepth 100000 in
theorem em_283 : EMc yX12_isEnough cX12_isEnough 12 9 (some .boolean) 6 0 := ⟨rfl, plainFor_of_name ((cls_ok (o := 12) (by decide)).1 (by decide)), (cls_ok (o := 12) (by decide)).2.1, (cls_ok (o := 12) (by decide)).2.2, fun q => absurd q (by decide), fun _ => ⟨gt8 231 rfl rfl, by decide +kernel⟩, fun _ => Or.inr (gp3 1 rfl)⟩
set_option maxRecDepth 100000 in
theorem ec_283 : Cond.code yX12_isEnough cX12_isEnough 9 (some .boolean) ∈ GW := gt8 232 rfl rfl
set_option maxRecDepth 100000 in
theorem em_284 : EMc yX12_doLimit cX12_doLimit 12 10 (some .int) 7 0 := ⟨rfl, plainFor_of_name ((cls_ok (o := 12) (by decide)).1 (by decide)), (cls_ok (o := 12) (by decide)).2.1, (cls_ok (o := 12) (by decide)).2.2, fun q => absurd q (by decide), fun _ => ⟨gt8 184 rfl rfl, by decide +kernel⟩, fun _ => Or.inr (gp2 9 rfl)⟩
set_option maxRecDepth 100000 in
theorem ec_284 : Cond.code yX12_doLimit cX12_doLimit 10 (some .int) ∈ GW := gt8 185 rfl rfl
set_option maxRecDepth 100000 in
theorem em_285 : EMc yX12_doMarket cX12_doMarket 12 5 (some .int) 4 0 := ⟨rfl, plainFor_of_name ((cls_ok (o := 12) (by decide)).1 (by decide)), (cls_ok (o := 12) (by decide)).2.1, (cls_ok (o := 12) (by decide)).2.2, fun q => absurd q (by decide), fun _ => ⟨gt9 114 rfl rfl, by decide +kernel⟩, fun _ => Or.inr (gp4 15 rfl)⟩
set_option maxRecDepth 100000 in
theorem ec_285 : Cond.code yX12_doMarket cX12_doMarket 5 (some .int) ∈ GW := gt9 115 rfl rfl
set_option maxRecDepth 100000 in
theorem em_286 : EMc yX12_doIceberg cX12_doIceberg 12 7 (some .int) 6 0 := ⟨rfl, plainFor_of_name ((cls_ok (o := 12) (by decide)).1 (by decide)), (cls_ok (o := 12) (by decide)).2.1, (cls_ok (o := 12) (by decide)).2.2, fun q => absurd q (by decide), fun _ => ⟨gt9 118 rfl rfl, by decide +kernel⟩, fun _ => Or.inr (gp5 0 rfl)⟩
set_option maxRecDepth 100000 in
theorem ec_286 : Cond.code yX12_doIceberg cX12_doIceberg 7 (some .int) ∈ GW := gt9 119 rfl rfl
set_option maxRecDepth 100000 in
theorem em_287 : EMc yX12_doPeg cX12_doPeg 12 7 (some .int) 6 0 := ⟨rfl, plainFor_of_name ((cls_ok (o := 12) (by decide)).1 (by decide)), (cls_ok (o := 12) (by decide)).2.1, (cls_ok (o := 12) (by decide)).2.2, fun q => absurd q (by decide), fun _ => ⟨gt9 122 rfl rfl, by decide +kernel⟩, fun _ => Or.inr (gp5 1 rfl)⟩
set_option maxRecDepth 100000 in
theorem ec_287 : Cond.code yX12_doPeg cX12_doPeg 7 (some .int) ∈ GW := gt9 123 rfl rfl
set_option maxRecDepth 100000 in
theorem em_288 : EMc yX12_doStop cX12_doStop 12 7 (some .int) 6 0 := ⟨rfl, plainFor_of_name ((cls_ok (o := 12) (by decide)).1 (by decide)), (cls_ok (o := 12) (by decide)).2.1, (cls_ok (o := 12) (by decide)).2.2, fun q => absurd q (by decide), fun _ => ⟨gt9 126 rfl rfl, by decide +kernel⟩, fun _ => Or.inr (gp5 2 rfl)⟩
set_option maxRecDepth 100000 in
theorem ec_288 : Cond.code yX12_doStop cX12_doStop 7 (some .int) ∈ GW := gt9 127 rfl rfl
set_option maxRecDepth 100000 in
theorem em_289 : EMc yX12_doQuote cX12_doQuote 12 7 (some .int) 6 0 := ⟨rfl, plainFor_of_name ((cls_ok (o := 12) (by decide)).1 (by decide)), (cls_ok (o := 12) (by decide)).2.1, (cls_ok (o := 12) (by decide)).2.2, fun q => absurd q (by decide), fun _ => ⟨gt9 130 rfl rfl, by decide +kernel⟩, fun _ => Or.inr (gp5 3 rfl)⟩
set_option maxRecDepth 100000 in
theorem ec_289 : Cond.code yX12_doQuote cX12_doQuote 7 (some .int) ∈ GW := gt9 131 rfl rfl
set_option maxRecDepth 100000 in
theorem em_290 : EMc yX12_doCancel cX12_doCancel 12 3 (some .int) 2 0 := ⟨rfl, plainFor_of_name ((cls_ok (o := 12) (by decide)).1 (by decide)), (cls_ok (o := 12) (by decide)).2.1, (cls_ok (o := 12) (by decide)).2.2, fun q => absurd q (by decide), fun _ => ⟨gt9 134 rfl rfl, by decide +kernel⟩, fun _ => Or.inr (gp5 4 rfl)⟩
set_option maxRecDepth 100000 in
theorem ec_290 : Cond.code yX12_doCancel cX12_doCancel 3 (some .int) ∈ GW := gt9 135 rfl rfl
set_option maxRecDepth 100000 in
theorem em_291 : EMc yX12_doRule cX12_doRule 12 6 (some .int) 5 0 := ⟨rfl, plainFor_of_name ((cls_ok (o := 12) (by decide)).1 (by decide)), (cls_ok (o := 12) (by decide)).2.1, (cls_ok (o := 12) (by decide)).2.2, fun q => absurd q (by decide), fun _ => ⟨gt9 142 rfl rfl, by decide +kernel⟩, fun _ => Or.inr (gp5 6 rfl)⟩
set_option maxRecDepth 100000 in
theorem ec_291 : Cond.code yX12_doRule cX12_doRule 6 (some .int) ∈ GW := gt9 143 rfl rfl
set_option maxRecDepth 100000 in
theorem em_292 : EMc yX12_puts cX12_puts 12 7 (some .int) 6 0 := ⟨rfl, plainFor_of_name ((cls_ok (o := 12) (by decide)).1 (by decide)), (cls_ok (o := 12) (by decide)).2.1, (cls_ok (o := 12) (by decide)).2.2, fun q => absurd q (by decide), fun _ => ⟨gt9 146 rfl rfl, by decide +kernel⟩, fun _ => Or.inr (gp5 7 rfl)⟩
set_option maxRecDepth 100000 in
theorem ec_292 : Cond.code yX12_puts cX12_puts 7 (some .int) ∈ GW := gt9 147 rfl rfl
set_option maxRecDepth 100000 in
theorem em_293 : EMc yX12_doAuction cX12_doAuction 12 5 (some .int) 5 0 := ⟨rfl, plainFor_of_name ((cls_ok (o := 12) (by decide)).1 (by decide)), (cls_ok (o := 12) (by decide)).2.1, (cls_ok (o := 12) (by decide)).2.2, fun q => absurd q (by decide), fun _ => ⟨gt9 150 rfl rfl, by decide +kernel⟩, fun _ => Or.inr (gp5 8 rfl)⟩
set_option maxRecDepth 100000 in
theorem ec_293 : Cond.code yX12_doAuction cX12_doAuction 5 (some .int) ∈ GW := gt9 151 rfl rfl
set_option maxRecDepth 100000 in
theorem em_294 : EMc yX12_doPass cX12_doPass 12 2 (some .int) 2 0 := ⟨rfl, plainFor_of_name ((cls_ok (o := 12) (by decide)).1 (by decide)), (cls_ok (o := 12) (by decide)).2.1, (cls_ok (o := 12) (by decide)).2.2, fun q => absurd q (by decide), fun _ => ⟨gt9 154 rfl rfl, by decide +kernel⟩, fun _ => Or.inr (gp5 9 rfl)⟩
set_option maxRecDepth 100000 in
theorem ec_294 : Cond.code yX12_doPass cX12_doPass 2 (some .int) ∈ GW := gt9 155 rfl rfl
set_option maxRecDepth 100000 in
theorem em_295 : EMc yX12_doEndDay cX12_doEndDay 12 4 (some .int) 1 0 := ⟨rfl, plainFor_of_name ((cls_ok (o := 12) (by decide)).1 (by decide)), (cls_ok (o := 12) (by decide)).2.1, (cls_ok (o := 12) (by decide)).2.2, fun q => absurd q (by decide), fun _ => ⟨gt9 234 rfl rfl, by decide +kernel⟩, fun _ => Or.inr (gp6 13 rfl)⟩
set_option maxRecDepth 100000 in
theorem ec_295 : Cond.code yX12_doEndDay cX12_doEndDay 4 (some .int) ∈ GW := gt9 235 rfl rfl
set_option maxRecDepth 100000 in
theorem em_296 : EMc yX12_undoes cX12_undoes 12 4 (none) 4 0 := ⟨rfl, plainFor_of_name ((cls_ok (o := 12) (by decide)).1 (by decide)), (cls_ok (o := 12) (by decide)).2.1, (cls_ok (o := 12) (by decide)).2.2, fun q => absurd q (by decide), fun _ => ⟨gt10 2 rfl rfl, by decide +kernel⟩, fun _ => Or.inr (gp6 15 rfl)⟩
set_option maxRecDepth 100000 in
theorem ec_296 : Cond.code yX12_undoes cX12_undoes 4 (none) ∈ GW := gt10 3 rfl rfl
set_option maxRecDepth 100000 in
theorem em_297 : EMc yX12_doBust cX12_doBust 12 6 (some .int) 2 0 := ⟨rfl, plainFor_of_name ((cls_ok (o := 12) (by decide)).1 (by decide)), (cls_ok (o := 12) (by decide)).2.1, (cls_ok (o := 12) (by decide)).2.2, fun q => absurd q (by decide), fun _ => ⟨gt9 238 rfl rfl, by decide +kernel⟩, fun _ => Or.inr (gp6 14 rfl)⟩
set_option maxRecDepth 100000 in
theorem ec_297 : Cond.code yX12_doBust cX12_doBust 6 (some .int) ∈ GW := gt9 239 rfl rfl
set_option maxRecDepth 100000 in
theorem em_298 : EMc yX12_doAdjust cX12_doAdjust 12 5 (some .int) 3 0 := ⟨rfl, plainFor_of_name ((cls_ok (o := 12) (by decide)).1 (by decide)), (cls_ok (o := 12) (by decide)).2.1, (cls_ok (o := 12) (by decide)).2.2, fun q => absurd q (by decide), fun _ => ⟨gt10 6 rfl rfl, by decide +kernel⟩, fun _ => Or.inr (gp7 0 rfl)⟩
set_option maxRecDepth 100000 in
theorem ec_298 : Cond.code yX12_doAdjust cX12_doAdjust 5 (some .int) ∈ GW := gt10 7 rfl rfl
set_option maxRecDepth 100000 in
theorem em_299 : EMc yX12_doGiveUp cX12_doGiveUp 12 7 (some .int) 4 0 := ⟨rfl, plainFor_of_name ((cls_ok (o := 12) (by decide)).1 (by decide)), (cls_ok (o := 12) (by decide)).2.1, (cls_ok (o := 12) (by decide)).2.2, fun q => absurd q (by decide), fun _ => ⟨gt10 10 rfl rfl, by decide +kernel⟩, fun _ => Or.inr (gp7 1 rfl)⟩
set_option maxRecDepth 100000 in
theorem ec_299 : Cond.code yX12_doGiveUp cX12_doGiveUp 7 (some .int) ∈ GW := gt10 11 rfl rfl
set_option maxRecDepth 100000 in
theorem em_300 : EMc yX12_average cX12_average 12 10 (some .int) 4 0 := ⟨rfl, plainFor_of_name ((cls_ok (o := 12) (by decide)).1 (by decide)), (cls_ok (o := 12) (by decide)).2.1, (cls_ok (o := 12) (by decide)).2.2, fun q => absurd q (by decide), fun _ => ⟨gt10 22 rfl rfl, by decide +kernel⟩, fun _ => Or.inr (gp7 4 rfl)⟩
set_option maxRecDepth 100000 in
theorem ec_300 : Cond.code yX12_average cX12_average 10 (some .int) ∈ GW := gt10 23 rfl rfl
set_option maxRecDepth 100000 in
theorem em_301 : EMc yX12_doAllot cX12_doAllot 12 6 (some .int) 5 0 := ⟨rfl, plainFor_of_name ((cls_ok (o := 12) (by decide)).1 (by decide)), (cls_ok (o := 12) (by decide)).2.1, (cls_ok (o := 12) (by decide)).2.2, fun q => absurd q (by decide), fun _ => ⟨gt10 18 rfl rfl, by decide +kernel⟩, fun _ => Or.inr (gp7 3 rfl)⟩
set_option maxRecDepth 100000 in
theorem ec_301 : Cond.code yX12_doAllot cX12_doAllot 6 (some .int) ∈ GW := gt10 19 rfl rfl
set_option maxRecDepth 100000 in
theorem em_302 : EMc yX12_doExercise cX12_doExercise 12 7 (some .int) 4 0 := ⟨rfl, plainFor_of_name ((cls_ok (o := 12) (by decide)).1 (by decide)), (cls_ok (o := 12) (by decide)).2.1, (cls_ok (o := 12) (by decide)).2.2, fun q => absurd q (by decide), fun _ => ⟨gt10 29 rfl rfl, by decide +kernel⟩, fun _ => Or.inr (gp7 5 rfl)⟩
set_option maxRecDepth 100000 in
theorem ec_302 : Cond.code yX12_doExercise cX12_doExercise 7 (some .int) ∈ GW := gt10 30 rfl rfl
set_option maxRecDepth 100000 in
theorem em_303 : EMc yX12_drawn cX12_drawn 12 6 (some .int) 2 0 := ⟨rfl, plainFor_of_name ((cls_ok (o := 12) (by decide)).1 (by decide)), (cls_ok (o := 12) (by decide)).2.1, (cls_ok (o := 12) (by decide)).2.2, fun q => absurd q (by decide), fun _ => ⟨gt10 33 rfl rfl, by decide +kernel⟩, fun _ => Or.inr (gp7 6 rfl)⟩
set_option maxRecDepth 100000 in
theorem ec_303 : Cond.code yX12_drawn cX12_drawn 6 (some .int) ∈ GW := gt10 34 rfl rfl
set_option maxRecDepth 100000 in
theorem em_304 : EMc yX12_hasContract cX12_hasContract 12 2 (some .boolean) 2 1 := ⟨rfl, plainFor_of_name ((cls_ok (o := 12) (by decide)).1 (by decide)), (cls_ok (o := 12) (by decide)).2.1, (cls_ok (o := 12) (by decide)).2.2, fun _ => ⟨gt10 42 rfl rfl, by decide +kernel⟩, fun q => absurd q (by decide), fun q => absurd q (by decide)⟩
set_option maxRecDepth 100000 in
theorem ec_304 : Cond.code yX12_hasContract cX12_hasContract 2 (some .boolean) ∈ GW := gt10 43 rfl rfl
set_option maxRecDepth 100000 in
theorem em_305 : EMc yX12_doConvert cX12_doConvert 12 14 (some .int) 4 0 := ⟨rfl, plainFor_of_name ((cls_ok (o := 12) (by decide)).1 (by decide)), (cls_ok (o := 12) (by decide)).2.1, (cls_ok (o := 12) (by decide)).2.2, fun q => absurd q (by decide), fun _ => ⟨gt10 37 rfl rfl, by decide +kernel⟩, fun _ => Or.inr (gp7 7 rfl)⟩
set_option maxRecDepth 100000 in
theorem ec_305 : Cond.code yX12_doConvert cX12_doConvert 14 (some .int) ∈ GW := gt10 38 rfl rfl
set_option maxRecDepth 100000 in
theorem em_306 : EMc yX12_converted cX12_converted 12 4 (some .int) 3 1 := ⟨rfl, plainFor_of_name ((cls_ok (o := 12) (by decide)).1 (by decide)), (cls_ok (o := 12) (by decide)).2.1, (cls_ok (o := 12) (by decide)).2.2, fun _ => ⟨gt10 45 rfl rfl, by decide +kernel⟩, fun q => absurd q (by decide), fun q => absurd q (by decide)⟩
set_option maxRecDepth 100000 in
theorem ec_306 : Cond.code yX12_converted cX12_converted 4 (some .int) ∈ GW := gt10 46 rfl rfl
set_option maxRecDepth 100000 in
theorem em_307 : EMc yX12_callOf cX12_callOf 12 2 (some .long) 2 0 := ⟨rfl, plainFor_of_name ((cls_ok (o := 12) (by decide)).1 (by decide)), (cls_ok (o := 12) (by decide)).2.1, (cls_ok (o := 12) (by decide)).2.2, fun q => absurd q (by decide), fun _ => ⟨gt10 76 rfl rfl, by decide +kernel⟩, fun _ => Or.inr (gp7 14 rfl)⟩
set_option maxRecDepth 100000 in
theorem ec_307 : Cond.code yX12_callOf cX12_callOf 2 (some .long) ∈ GW := gt10 77 rfl rfl
set_option maxRecDepth 100000 in
theorem em_308 : EMc yX12_doPay cX12_doPay 12 4 (some .long) 4 0 := ⟨rfl, plainFor_of_name ((cls_ok (o := 12) (by decide)).1 (by decide)), (cls_ok (o := 12) (by decide)).2.1, (cls_ok (o := 12) (by decide)).2.2, fun q => absurd q (by decide), fun _ => ⟨gt10 49 rfl rfl, by decide +kernel⟩, fun _ => Or.inr (gp7 8 rfl)⟩
set_option maxRecDepth 100000 in
theorem ec_308 : Cond.code yX12_doPay cX12_doPay 4 (some .long) ∈ GW := gt10 50 rfl rfl
set_option maxRecDepth 100000 in
theorem em_309 : EMc yX12_doFund cX12_doFund 12 4 (some .int) 3 0 := ⟨rfl, plainFor_of_name ((cls_ok (o := 12) (by decide)).1 (by decide)), (cls_ok (o := 12) (by decide)).2.1, (cls_ok (o := 12) (by decide)).2.2, fun q => absurd q (by decide), fun _ => ⟨gt10 80 rfl rfl, by decide +kernel⟩, fun _ => Or.inr (gp7 15 rfl)⟩
set_option maxRecDepth 100000 in
theorem ec_309 : Cond.code yX12_doFund cX12_doFund 4 (some .int) ∈ GW := gt10 81 rfl rfl
set_option maxRecDepth 100000 in
theorem em_310 : EMc yX12_doFail cX12_doFail 12 4 (some .int) 2 0 := ⟨rfl, plainFor_of_name ((cls_ok (o := 12) (by decide)).1 (by decide)), (cls_ok (o := 12) (by decide)).2.1, (cls_ok (o := 12) (by decide)).2.2, fun q => absurd q (by decide), fun _ => ⟨gt10 84 rfl rfl, by decide +kernel⟩, fun _ => Or.inr (gp8 0 rfl)⟩
set_option maxRecDepth 100000 in
theorem ec_310 : Cond.code yX12_doFail cX12_doFail 4 (some .int) ∈ GW := gt10 85 rfl rfl
set_option maxRecDepth 100000 in
theorem em_311 : EMc yX12_doBid cX12_doBid 12 5 (some .int) 3 0 := ⟨rfl, plainFor_of_name ((cls_ok (o := 12) (by decide)).1 (by decide)), (cls_ok (o := 12) (by decide)).2.1, (cls_ok (o := 12) (by decide)).2.2, fun q => absurd q (by decide), fun _ => ⟨gt10 88 rfl rfl, by decide +kernel⟩, fun _ => Or.inr (gp8 1 rfl)⟩
set_option maxRecDepth 100000 in
theorem ec_311 : Cond.code yX12_doBid cX12_doBid 5 (some .int) ∈ GW := gt10 89 rfl rfl
set_option maxRecDepth 100000 in
theorem em_312 : EMc yX12_shares cX12_shares 12 12 (some .long) 2 0 := ⟨rfl, plainFor_of_name ((cls_ok (o := 12) (by decide)).1 (by decide)), (cls_ok (o := 12) (by decide)).2.1, (cls_ok (o := 12) (by decide)).2.2, fun q => absurd q (by decide), fun _ => ⟨gt10 116 rfl rfl, by decide +kernel⟩, fun _ => Or.inr (gp8 8 rfl)⟩
set_option maxRecDepth 100000 in
theorem ec_312 : Cond.code yX12_shares cX12_shares 12 (some .long) ∈ GW := gt10 117 rfl rfl
set_option maxRecDepth 100000 in
theorem em_313 : EMc yX12_winner cX12_winner 12 3 (some .int) 1 0 := ⟨rfl, plainFor_of_name ((cls_ok (o := 12) (by decide)).1 (by decide)), (cls_ok (o := 12) (by decide)).2.1, (cls_ok (o := 12) (by decide)).2.2, fun q => absurd q (by decide), fun _ => ⟨gt10 96 rfl rfl, by decide +kernel⟩, fun _ => Or.inr (gp8 3 rfl)⟩
set_option maxRecDepth 100000 in
theorem ec_313 : Cond.code yX12_winner cX12_winner 3 (some .int) ∈ GW := gt10 97 rfl rfl
set_option maxRecDepth 100000 in
theorem em_314 : EMc yX12_covers cX12_covers 12 5 (none) 4 0 := ⟨rfl, plainFor_of_name ((cls_ok (o := 12) (by decide)).1 (by decide)), (cls_ok (o := 12) (by decide)).2.1, (cls_ok (o := 12) (by decide)).2.2, fun q => absurd q (by decide), fun _ => ⟨gt10 108 rfl rfl, by decide +kernel⟩, fun _ => Or.inr (gp8 6 rfl)⟩
set_option maxRecDepth 100000 in
theorem ec_314 : Cond.code yX12_covers cX12_covers 5 (none) ∈ GW := gt10 109 rfl rfl
set_option maxRecDepth 100000 in
theorem em_315 : EMc yX12_upTo cX12_upTo 12 3 (some .long) 2 0 := ⟨rfl, plainFor_of_name ((cls_ok (o := 12) (by decide)).1 (by decide)), (cls_ok (o := 12) (by decide)).2.1, (cls_ok (o := 12) (by decide)).2.2, fun q => absurd q (by decide), fun _ => ⟨gt10 104 rfl rfl, by decide +kernel⟩, fun _ => Or.inr (gp8 5 rfl)⟩
set_option maxRecDepth 100000 in
theorem ec_315 : Cond.code yX12_upTo cX12_upTo 3 (some .long) ∈ GW := gt10 105 rfl rfl
set_option maxRecDepth 100000 in
theorem em_316 : EMc yX12_doCloseOut cX12_doCloseOut 12 7 (some .int) 1 0 := ⟨rfl, plainFor_of_name ((cls_ok (o := 12) (by decide)).1 (by decide)), (cls_ok (o := 12) (by decide)).2.1, (cls_ok (o := 12) (by decide)).2.2, fun q => absurd q (by decide), fun _ => ⟨gt10 92 rfl rfl, by decide +kernel⟩, fun _ => Or.inr (gp8 2 rfl)⟩
set_option maxRecDepth 100000 in
theorem ec_316 : Cond.code yX12_doCloseOut cX12_doCloseOut 7 (some .int) ∈ GW := gt10 93 rfl rfl
set_option maxRecDepth 100000 in
theorem em_317 : EMc yX12_coversAll cX12_coversAll 12 16 (none) 3 0 := ⟨rfl, plainFor_of_name ((cls_ok (o := 12) (by decide)).1 (by decide)), (cls_ok (o := 12) (by decide)).2.1, (cls_ok (o := 12) (by decide)).2.2, fun q => absurd q (by decide), fun _ => ⟨gt10 100 rfl rfl, by decide +kernel⟩, fun _ => Or.inr (gp8 4 rfl)⟩
set_option maxRecDepth 100000 in
theorem ec_317 : Cond.code yX12_coversAll cX12_coversAll 16 (none) ∈ GW := gt10 101 rfl rfl
set_option maxRecDepth 100000 in
theorem em_318 : EMc yX12_coversByFunds cX12_coversByFunds 12 7 (none) 4 0 := ⟨rfl, plainFor_of_name ((cls_ok (o := 12) (by decide)).1 (by decide)), (cls_ok (o := 12) (by decide)).2.1, (cls_ok (o := 12) (by decide)).2.2, fun q => absurd q (by decide), fun _ => ⟨gt10 112 rfl rfl, by decide +kernel⟩, fun _ => Or.inr (gp8 7 rfl)⟩
set_option maxRecDepth 100000 in
theorem ec_318 : Cond.code yX12_coversByFunds cX12_coversByFunds 7 (none) ∈ GW := gt10 113 rfl rfl
set_option maxRecDepth 100000 in
theorem em_319 : EMc yX12_does cX12_does 12 8 (some .long) 8 0 := ⟨rfl, plainFor_of_name ((cls_ok (o := 12) (by decide)).1 (by decide)), (cls_ok (o := 12) (by decide)).2.1, (cls_ok (o := 12) (by decide)).2.2, fun q => absurd q (by decide), fun _ => ⟨gt8 180 rfl rfl, by decide +kernel⟩, fun _ => Or.inr (gp2 8 rfl)⟩
set_option maxRecDepth 100000 in
theorem ec_319 : Cond.code yX12_does cX12_does 8 (some .long) ∈ GW := gt8 181 rfl rfl
set_option maxRecDepth 100000 in
theorem em_320 : EMc yX12_doesMore cX12_doesMore 12 7 (some .long) 6 0 := ⟨rfl, plainFor_of_name ((cls_ok (o := 12) (by decide)).1 (by decide)), (cls_ok (o := 12) (by decide)).2.1, (cls_ok (o := 12) (by decide)).2.2, fun q => absurd q (by decide), fun _ => ⟨gt10 14 rfl rfl, by decide +kernel⟩, fun _ => Or.inr (gp7 2 rfl)⟩
set_option maxRecDepth 100000 in
theorem ec_320 : Cond.code yX12_doesMore cX12_doesMore 7 (some .long) ∈ GW := gt10 15 rfl rfl
set_option maxRecDepth 100000 in
theorem em_321 : EMc yX12_act cX12_act 12 11 (some .int) 8 0 := ⟨rfl, plainFor_of_name ((cls_ok (o := 12) (by decide)).1 (by decide)), (cls_ok (o := 12) (by decide)).2.1, (cls_ok (o := 12) (by decide)).2.2, fun q => absurd q (by decide), fun _ => ⟨gt8 176 rfl rfl, by decide +kernel⟩, fun _ => Or.inr (gp2 7 rfl)⟩
set_option maxRecDepth 100000 in
theorem ec_321 : Cond.code yX12_act cX12_act 11 (some .int) ∈ GW := gt8 177 rfl rfl
set_option maxRecDepth 100000 in
theorem em_322 : EMc yX12_limit cX12_limit 12 7 (some .int) 7 0 := ⟨rfl, plainFor_of_name ((cls_ok (o := 12) (by decide)).1 (by decide)), (cls_ok (o := 12) (by decide)).2.1, (cls_ok (o := 12) (by decide)).2.2, fun q => absurd q (by decide), fun _ => ⟨gt8 171 rfl rfl, by decide +kernel⟩, fun _ => Or.inr (gt8 172 rfl rfl)⟩
set_option maxRecDepth 100000 in
theorem ec_322 : Cond.code yX12_limit cX12_limit 7 (some .int) ∈ GW := gt8 173 rfl rfl
set_option maxRecDepth 100000 in
theorem em_323 : EMc yX12_market cX12_market 12 4 (some .int) 4 0 := ⟨rfl, plainFor_of_name ((cls_ok (o := 12) (by decide)).1 (by decide)), (cls_ok (o := 12) (by decide)).2.1, (cls_ok (o := 12) (by decide)).2.2, fun q => absurd q (by decide), fun _ => ⟨gt10 119 rfl rfl, by decide +kernel⟩, fun _ => Or.inr (gt10 120 rfl rfl)⟩
set_option maxRecDepth 100000 in
theorem ec_323 : Cond.code yX12_market cX12_market 4 (some .int) ∈ GW := gt10 121 rfl rfl
set_option maxRecDepth 100000 in
theorem em_324 : EMc yX12_iceberg cX12_iceberg 12 6 (some .int) 6 0 := ⟨rfl, plainFor_of_name ((cls_ok (o := 12) (by decide)).1 (by decide)), (cls_ok (o := 12) (by decide)).2.1, (cls_ok (o := 12) (by decide)).2.2, fun q => absurd q (by decide), fun _ => ⟨gt10 123 rfl rfl, by decide +kernel⟩, fun _ => Or.inr (gt10 124 rfl rfl)⟩
set_option maxRecDepth 100000 in
theorem ec_324 : Cond.code yX12_iceberg cX12_iceberg 6 (some .int) ∈ GW := gt10 125 rfl rfl
set_option maxRecDepth 100000 in
theorem em_325 : EMc yX12_peg cX12_peg 12 6 (some .int) 6 0 := ⟨rfl, plainFor_of_name ((cls_ok (o := 12) (by decide)).1 (by decide)), (cls_ok (o := 12) (by decide)).2.1, (cls_ok (o := 12) (by decide)).2.2, fun q => absurd q (by decide), fun _ => ⟨gt10 127 rfl rfl, by decide +kernel⟩, fun _ => Or.inr (gt10 128 rfl rfl)⟩
set_option maxRecDepth 100000 in
theorem ec_325 : Cond.code yX12_peg cX12_peg 6 (some .int) ∈ GW := gt10 129 rfl rfl
set_option maxRecDepth 100000 in
theorem em_326 : EMc yX12_stop cX12_stop 12 6 (some .int) 6 0 := ⟨rfl, plainFor_of_name ((cls_ok (o := 12) (by decide)).1 (by decide)), (cls_ok (o := 12) (by decide)).2.1, (cls_ok (o := 12) (by decide)).2.2, fun q => absurd q (by decide), fun _ => ⟨gt10 131 rfl rfl, by decide +kernel⟩, fun _ => Or.inr (gt10 132 rfl rfl)⟩
set_option maxRecDepth 100000 in
theorem ec_326 : Cond.code yX12_stop cX12_stop 6 (some .int) ∈ GW := gt10 133 rfl rfl
set_option maxRecDepth 100000 in
theorem em_327 : EMc yX12_quote cX12_quote 12 6 (some .int) 6 0 := ⟨rfl, plainFor_of_name ((cls_ok (o := 12) (by decide)).1 (by decide)), (cls_ok (o := 12) (by decide)).2.1, (cls_ok (o := 12) (by decide)).2.2, fun q => absurd q (by decide), fun _ => ⟨gt10 135 rfl rfl, by decide +kernel⟩, fun _ => Or.inr (gt10 136 rfl rfl)⟩
set_option maxRecDepth 100000 in
theorem ec_327 : Cond.code yX12_quote cX12_quote 6 (some .int) ∈ GW := gt10 137 rfl rfl
set_option maxRecDepth 100000 in
theorem em_328 : EMc yX12_cancel cX12_cancel 12 2 (some .int) 2 0 := ⟨rfl, plainFor_of_name ((cls_ok (o := 12) (by decide)).1 (by decide)), (cls_ok (o := 12) (by decide)).2.1, (cls_ok (o := 12) (by decide)).2.2, fun q => absurd q (by decide), fun _ => ⟨gt10 139 rfl rfl, by decide +kernel⟩, fun _ => Or.inr (gt10 140 rfl rfl)⟩
set_option maxRecDepth 100000 in
theorem ec_328 : Cond.code yX12_cancel cX12_cancel 2 (some .int) ∈ GW := gt10 141 rfl rfl
set_option maxRecDepth 100000 in
theorem em_329 : EMc yX12_setRule cX12_setRule 12 5 (some .int) 5 0 := ⟨rfl, plainFor_of_name ((cls_ok (o := 12) (by decide)).1 (by decide)), (cls_ok (o := 12) (by decide)).2.1, (cls_ok (o := 12) (by decide)).2.2, fun q => absurd q (by decide), fun _ => ⟨gt10 143 rfl rfl, by decide +kernel⟩, fun _ => Or.inr (gt10 144 rfl rfl)⟩
set_option maxRecDepth 100000 in
theorem ec_329 : Cond.code yX12_setRule cX12_setRule 5 (some .int) ∈ GW := gt10 145 rfl rfl
set_option maxRecDepth 100000 in
theorem em_330 : EMc yX12_setBand cX12_setBand 12 3 (some .int) 3 0 := ⟨rfl, plainFor_of_name ((cls_ok (o := 12) (by decide)).1 (by decide)), (cls_ok (o := 12) (by decide)).2.1, (cls_ok (o := 12) (by decide)).2.2, fun q => absurd q (by decide), fun _ => ⟨gt10 147 rfl rfl, by decide +kernel⟩, fun _ => Or.inr (gt10 148 rfl rfl)⟩
set_option maxRecDepth 100000 in
theorem ec_330 : Cond.code yX12_setBand cX12_setBand 3 (some .int) ∈ GW := gt10 149 rfl rfl
set_option maxRecDepth 100000 in
theorem em_331 : EMc yX12_setProtection cX12_setProtection 12 3 (some .int) 3 0 := ⟨rfl, plainFor_of_name ((cls_ok (o := 12) (by decide)).1 (by decide)), (cls_ok (o := 12) (by decide)).2.1, (cls_ok (o := 12) (by decide)).2.2, fun q => absurd q (by decide), fun _ => ⟨gt10 151 rfl rfl, by decide +kernel⟩, fun _ => Or.inr (gt10 152 rfl rfl)⟩
set_option maxRecDepth 100000 in
theorem ec_331 : Cond.code yX12_setProtection cX12_setProtection 3 (some .int) ∈ GW := gt10 153 rfl rfl
set_option maxRecDepth 100000 in
theorem em_332 : EMc yX12_setLimit cX12_setLimit 12 4 (some .int) 4 0 := ⟨rfl, plainFor_of_name ((cls_ok (o := 12) (by decide)).1 (by decide)), (cls_ok (o := 12) (by decide)).2.1, (cls_ok (o := 12) (by decide)).2.2, fun q => absurd q (by decide), fun _ => ⟨gt10 155 rfl rfl, by decide +kernel⟩, fun _ => Or.inr (gt10 156 rfl rfl)⟩
set_option maxRecDepth 100000 in
theorem ec_332 : Cond.code yX12_setLimit cX12_setLimit 4 (some .int) ∈ GW := gt10 157 rfl rfl
set_option maxRecDepth 100000 in
theorem em_333 : EMc yX12_auction cX12_auction 12 5 (some .int) 5 0 := ⟨rfl, plainFor_of_name ((cls_ok (o := 12) (by decide)).1 (by decide)), (cls_ok (o := 12) (by decide)).2.1, (cls_ok (o := 12) (by decide)).2.2, fun q => absurd q (by decide), fun _ => ⟨gt10 159 rfl rfl, by decide +kernel⟩, fun _ => Or.inr (gt10 160 rfl rfl)⟩
set_option maxRecDepth 100000 in
theorem ec_333 : Cond.code yX12_auction cX12_auction 5 (some .int) ∈ GW := gt10 161 rfl rfl
set_option maxRecDepth 100000 in
theorem em_334 : EMc yX12_pass cX12_pass 12 2 (some .int) 2 0 := ⟨rfl, plainFor_of_name ((cls_ok (o := 12) (by decide)).1 (by decide)), (cls_ok (o := 12) (by decide)).2.1, (cls_ok (o := 12) (by decide)).2.2, fun q => absurd q (by decide), fun _ => ⟨gt10 163 rfl rfl, by decide +kernel⟩, fun _ => Or.inr (gt10 164 rfl rfl)⟩
set_option maxRecDepth 100000 in
theorem ec_334 : Cond.code yX12_pass cX12_pass 2 (some .int) ∈ GW := gt10 165 rfl rfl
set_option maxRecDepth 100000 in
theorem em_335 : EMc yX12_endDay cX12_endDay 12 1 (some .int) 1 0 := ⟨rfl, plainFor_of_name ((cls_ok (o := 12) (by decide)).1 (by decide)), (cls_ok (o := 12) (by decide)).2.1, (cls_ok (o := 12) (by decide)).2.2, fun q => absurd q (by decide), fun _ => ⟨gt10 167 rfl rfl, by decide +kernel⟩, fun _ => Or.inr (gt10 168 rfl rfl)⟩
set_option maxRecDepth 100000 in
theorem ec_335 : Cond.code yX12_endDay cX12_endDay 1 (some .int) ∈ GW := gt10 169 rfl rfl
set_option maxRecDepth 100000 in
theorem em_336 : EMc yX12_bust cX12_bust 12 2 (some .int) 2 0 := ⟨rfl, plainFor_of_name ((cls_ok (o := 12) (by decide)).1 (by decide)), (cls_ok (o := 12) (by decide)).2.1, (cls_ok (o := 12) (by decide)).2.2, fun q => absurd q (by decide), fun _ => ⟨gt10 171 rfl rfl, by decide +kernel⟩, fun _ => Or.inr (gt10 172 rfl rfl)⟩
set_option maxRecDepth 100000 in
theorem ec_336 : Cond.code yX12_bust cX12_bust 2 (some .int) ∈ GW := gt10 173 rfl rfl
set_option maxRecDepth 100000 in
theorem em_337 : EMc yX12_adjust cX12_adjust 12 3 (some .int) 3 0 := ⟨rfl, plainFor_of_name ((cls_ok (o := 12) (by decide)).1 (by decide)), (cls_ok (o := 12) (by decide)).2.1, (cls_ok (o := 12) (by decide)).2.2, fun q => absurd q (by decide), fun _ => ⟨gt10 175 rfl rfl, by decide +kernel⟩, fun _ => Or.inr (gt10 176 rfl rfl)⟩
set_option maxRecDepth 100000 in
theorem ec_337 : Cond.code yX12_adjust cX12_adjust 3 (some .int) ∈ GW := gt10 177 rfl rfl
set_option maxRecDepth 100000 in
theorem em_338 : EMc yX12_giveUp cX12_giveUp 12 4 (some .int) 4 0 := ⟨rfl, plainFor_of_name ((cls_ok (o := 12) (by decide)).1 (by decide)), (cls_ok (o := 12) (by decide)).2.1, (cls_ok (o := 12) (by decide)).2.2, fun q => absurd q (by decide), fun _ => ⟨gt10 179 rfl rfl, by decide +kernel⟩, fun _ => Or.inr (gt10 180 rfl rfl)⟩
set_option maxRecDepth 100000 in
theorem ec_338 : Cond.code yX12_giveUp cX12_giveUp 4 (some .int) ∈ GW := gt10 181 rfl rfl
set_option maxRecDepth 100000 in
theorem em_339 : EMc yX12_allot cX12_allot 12 5 (some .int) 5 0 := ⟨rfl, plainFor_of_name ((cls_ok (o := 12) (by decide)).1 (by decide)), (cls_ok (o := 12) (by decide)).2.1, (cls_ok (o := 12) (by decide)).2.2, fun q => absurd q (by decide), fun _ => ⟨gt10 183 rfl rfl, by decide +kernel⟩, fun _ => Or.inr (gt10 184 rfl rfl)⟩
set_option maxRecDepth 100000 in
theorem ec_339 : Cond.code yX12_allot cX12_allot 5 (some .int) ∈ GW := gt10 185 rfl rfl
set_option maxRecDepth 100000 in
theorem em_340 : EMc yX12_exercise cX12_exercise 12 4 (some .int) 4 0 := ⟨rfl, plainFor_of_name ((cls_ok (o := 12) (by decide)).1 (by decide)), (cls_ok (o := 12) (by decide)).2.1, (cls_ok (o := 12) (by decide)).2.2, fun q => absurd q (by decide), fun _ => ⟨gt10 187 rfl rfl, by decide +kernel⟩, fun _ => Or.inr (gt10 188 rfl rfl)⟩
set_option maxRecDepth 100000 in
theorem ec_340 : Cond.code yX12_exercise cX12_exercise 4 (some .int) ∈ GW := gt10 189 rfl rfl
set_option maxRecDepth 100000 in
theorem em_341 : EMc yX12_convert cX12_convert 12 4 (some .int) 4 0 := ⟨rfl, plainFor_of_name ((cls_ok (o := 12) (by decide)).1 (by decide)), (cls_ok (o := 12) (by decide)).2.1, (cls_ok (o := 12) (by decide)).2.2, fun q => absurd q (by decide), fun _ => ⟨gt10 191 rfl rfl, by decide +kernel⟩, fun _ => Or.inr (gt10 192 rfl rfl)⟩
set_option maxRecDepth 100000 in
theorem ec_341 : Cond.code yX12_convert cX12_convert 4 (some .int) ∈ GW := gt10 193 rfl rfl
set_option maxRecDepth 100000 in
theorem em_342 : EMc yX12_setMove cX12_setMove 12 4 (some .int) 4 0 := ⟨rfl, plainFor_of_name ((cls_ok (o := 12) (by decide)).1 (by decide)), (cls_ok (o := 12) (by decide)).2.1, (cls_ok (o := 12) (by decide)).2.2, fun q => absurd q (by decide), fun _ => ⟨gt10 195 rfl rfl, by decide +kernel⟩, fun _ => Or.inr (gt10 196 rfl rfl)⟩
set_option maxRecDepth 100000 in
theorem ec_342 : Cond.code yX12_setMove cX12_setMove 4 (some .int) ∈ GW := gt10 197 rfl rfl
set_option maxRecDepth 100000 in
theorem em_343 : EMc yX12_setHaircut cX12_setHaircut 12 2 (some .int) 2 0 := ⟨rfl, plainFor_of_name ((cls_ok (o := 12) (by decide)).1 (by decide)), (cls_ok (o := 12) (by decide)).2.1, (cls_ok (o := 12) (by decide)).2.2, fun q => absurd q (by decide), fun _ => ⟨gt10 199 rfl rfl, by decide +kernel⟩, fun _ => Or.inr (gt10 200 rfl rfl)⟩
set_option maxRecDepth 100000 in
theorem ec_343 : Cond.code yX12_setHaircut cX12_setHaircut 2 (some .int) ∈ GW := gt10 201 rfl rfl
set_option maxRecDepth 100000 in
theorem em_344 : EMc yX12_pay cX12_pay 12 4 (some .int) 4 0 := ⟨rfl, plainFor_of_name ((cls_ok (o := 12) (by decide)).1 (by decide)), (cls_ok (o := 12) (by decide)).2.1, (cls_ok (o := 12) (by decide)).2.2, fun q => absurd q (by decide), fun _ => ⟨gt10 203 rfl rfl, by decide +kernel⟩, fun _ => Or.inr (gt10 204 rfl rfl)⟩
set_option maxRecDepth 100000 in
theorem ec_344 : Cond.code yX12_pay cX12_pay 4 (some .int) ∈ GW := gt10 205 rfl rfl
set_option maxRecDepth 100000 in
theorem em_345 : EMc yX12_setFund cX12_setFund 12 3 (some .int) 3 0 := ⟨rfl, plainFor_of_name ((cls_ok (o := 12) (by decide)).1 (by decide)), (cls_ok (o := 12) (by decide)).2.1, (cls_ok (o := 12) (by decide)).2.2, fun q => absurd q (by decide), fun _ => ⟨gt10 207 rfl rfl, by decide +kernel⟩, fun _ => Or.inr (gt10 208 rfl rfl)⟩
set_option maxRecDepth 100000 in
theorem ec_345 : Cond.code yX12_setFund cX12_setFund 3 (some .int) ∈ GW := gt10 209 rfl rfl
set_option maxRecDepth 100000 in
theorem em_346 : EMc yX12_fail cX12_fail 12 2 (some .int) 2 0 := ⟨rfl, plainFor_of_name ((cls_ok (o := 12) (by decide)).1 (by decide)), (cls_ok (o := 12) (by decide)).2.1, (cls_ok (o := 12) (by decide)).2.2, fun q => absurd q (by decide), fun _ => ⟨gt10 211 rfl rfl, by decide +kernel⟩, fun _ => Or.inr (gt10 212 rfl rfl)⟩
set_option maxRecDepth 100000 in
theorem ec_346 : Cond.code yX12_fail cX12_fail 2 (some .int) ∈ GW := gt10 213 rfl rfl
set_option maxRecDepth 100000 in
theorem em_347 : EMc yX12_bid cX12_bid 12 3 (some .int) 3 0 := ⟨rfl, plainFor_of_name ((cls_ok (o := 12) (by decide)).1 (by decide)), (cls_ok (o := 12) (by decide)).2.1, (cls_ok (o := 12) (by decide)).2.2, fun q => absurd q (by decide), fun _ => ⟨gt10 215 rfl rfl, by decide +kernel⟩, fun _ => Or.inr (gt10 216 rfl rfl)⟩
set_option maxRecDepth 100000 in
theorem ec_347 : Cond.code yX12_bid cX12_bid 3 (some .int) ∈ GW := gt10 217 rfl rfl
set_option maxRecDepth 100000 in
theorem em_348 : EMc yX12_closeOut cX12_closeOut 12 1 (some .int) 1 0 := ⟨rfl, plainFor_of_name ((cls_ok (o := 12) (by decide)).1 (by decide)), (cls_ok (o := 12) (by decide)).2.1, (cls_ok (o := 12) (by decide)).2.2, fun q => absurd q (by decide), fun _ => ⟨gt10 219 rfl rfl, by decide +kernel⟩, fun _ => Or.inr (gt10 220 rfl rfl)⟩
set_option maxRecDepth 100000 in
theorem ec_348 : Cond.code yX12_closeOut cX12_closeOut 1 (some .int) ∈ GW := gt10 221 rfl rfl
set_option maxRecDepth 100000 in
theorem em_349 : EMc yX12_keep cX12_keep 12 1 (some .int) 1 0 := ⟨rfl, plainFor_of_name ((cls_ok (o := 12) (by decide)).1 (by decide)), (cls_ok (o := 12) (by decide)).2.1, (cls_ok (o := 12) (by decide)).2.2, fun q => absurd q (by decide), fun _ => ⟨gt10 223 rfl rfl, by decide +kernel⟩, fun _ => Or.inr (gt10 224 rfl rfl)⟩
set_option maxRecDepth 100000 in
theorem ec_349 : Cond.code yX12_keep cX12_keep 1 (some .int) ∈ GW := gt10 225 rfl rfl
set_option maxRecDepth 100000 in
theorem em_350 : EMc yX12_failOver cX12_failOver 12 6 (some .int) 1 0 := ⟨rfl, plainFor_of_name ((cls_ok (o := 12) (by decide)).1 (by decide)), (cls_ok (o := 12) (by decide)).2.1, (cls_ok (o := 12) (by decide)).2.2, fun q => absurd q (by decide), fun _ => ⟨gt10 227 rfl rfl, by decide +kernel⟩, fun _ => Or.inr (gt10 228 rfl rfl)⟩
set_option maxRecDepth 100000 in
theorem ec_350 : Cond.code yX12_failOver cX12_failOver 6 (some .int) ∈ GW := gt10 229 rfl rfl
set_option maxRecDepth 100000 in
theorem em_351 : EMc yX12_events cX12_events 12 1 (some .int) 1 0 := ⟨rfl, plainFor_of_name ((cls_ok (o := 12) (by decide)).1 (by decide)), (cls_ok (o := 12) (by decide)).2.1, (cls_ok (o := 12) (by decide)).2.2, fun q => absurd q (by decide), fun _ => ⟨gt10 231 rfl rfl, by decide +kernel⟩, fun _ => Or.inr (gt10 232 rfl rfl)⟩
set_option maxRecDepth 100000 in
theorem ec_351 : Cond.code yX12_events cX12_events 1 (some .int) ∈ GW := gt10 233 rfl rfl
set_option maxRecDepth 100000 in
theorem em_352 : EMc yX12_positionByLog cX12_positionByLog 12 3 (some .int) 3 0 := ⟨rfl, plainFor_of_name ((cls_ok (o := 12) (by decide)).1 (by decide)), (cls_ok (o := 12) (by decide)).2.1, (cls_ok (o := 12) (by decide)).2.2, fun q => absurd q (by decide), fun _ => ⟨gt10 235 rfl rfl, by decide +kernel⟩, fun _ => Or.inr (gt10 236 rfl rfl)⟩
set_option maxRecDepth 100000 in
theorem ec_352 : Cond.code yX12_positionByLog cX12_positionByLog 3 (some .int) ∈ GW := gt10 237 rfl rfl
set_option maxRecDepth 100000 in
theorem em_353 : EMc yX12_bestByLog cX12_bestByLog 12 3 (some .int) 3 0 := ⟨rfl, plainFor_of_name ((cls_ok (o := 12) (by decide)).1 (by decide)), (cls_ok (o := 12) (by decide)).2.1, (cls_ok (o := 12) (by decide)).2.2, fun q => absurd q (by decide), fun _ => ⟨gt11 3 rfl rfl, by decide +kernel⟩, fun _ => Or.inr (gt11 4 rfl rfl)⟩
set_option maxRecDepth 100000 in
theorem ec_353 : Cond.code yX12_bestByLog cX12_bestByLog 3 (some .int) ∈ GW := gt11 5 rfl rfl
set_option maxRecDepth 100000 in
theorem em_354 : EMc yX12_isBook cX12_isBook 12 2 (some .boolean) 2 0 := ⟨rfl, plainFor_of_name ((cls_ok (o := 12) (by decide)).1 (by decide)), (cls_ok (o := 12) (by decide)).2.1, (cls_ok (o := 12) (by decide)).2.2, fun q => absurd q (by decide), fun _ => ⟨gt11 12 rfl rfl, by decide +kernel⟩, fun _ => Or.inr (gp8 9 rfl)⟩
set_option maxRecDepth 100000 in
theorem ec_354 : Cond.code yX12_isBook cX12_isBook 2 (some .boolean) ∈ GW := gt11 13 rfl rfl
set_option maxRecDepth 100000 in
theorem em_355 : EMc yX12_best cX12_best 12 3 (some .int) 3 0 := ⟨rfl, plainFor_of_name ((cls_ok (o := 12) (by decide)).1 (by decide)), (cls_ok (o := 12) (by decide)).2.1, (cls_ok (o := 12) (by decide)).2.2, fun q => absurd q (by decide), fun _ => ⟨gt11 7 rfl rfl, by decide +kernel⟩, fun _ => Or.inr (gt11 8 rfl rfl)⟩
set_option maxRecDepth 100000 in
theorem ec_355 : Cond.code yX12_best cX12_best 3 (some .int) ∈ GW := gt11 9 rfl rfl
set_option maxRecDepth 100000 in
theorem em_356 : EMc yX12_shown cX12_shown 12 6 (some .int) 4 0 := ⟨rfl, plainFor_of_name ((cls_ok (o := 12) (by decide)).1 (by decide)), (cls_ok (o := 12) (by decide)).2.1, (cls_ok (o := 12) (by decide)).2.2, fun q => absurd q (by decide), fun _ => ⟨gt11 16 rfl rfl, by decide +kernel⟩, fun _ => Or.inr (gt11 17 rfl rfl)⟩
set_option maxRecDepth 100000 in
theorem ec_356 : Cond.code yX12_shown cX12_shown 6 (some .int) ∈ GW := gt11 18 rfl rfl
set_option maxRecDepth 100000 in
theorem em_357 : EMc yX12_stateOf cX12_stateOf 12 3 (some .int) 2 0 := ⟨rfl, plainFor_of_name ((cls_ok (o := 12) (by decide)).1 (by decide)), (cls_ok (o := 12) (by decide)).2.1, (cls_ok (o := 12) (by decide)).2.2, fun q => absurd q (by decide), fun _ => ⟨gt11 20 rfl rfl, by decide +kernel⟩, fun _ => Or.inr (gt11 21 rfl rfl)⟩
set_option maxRecDepth 100000 in
theorem ec_357 : Cond.code yX12_stateOf cX12_stateOf 3 (some .int) ∈ GW := gt11 22 rfl rfl
set_option maxRecDepth 100000 in
theorem em_358 : EMc yX12_rest cX12_rest 12 3 (some .int) 2 0 := ⟨rfl, plainFor_of_name ((cls_ok (o := 12) (by decide)).1 (by decide)), (cls_ok (o := 12) (by decide)).2.1, (cls_ok (o := 12) (by decide)).2.2, fun q => absurd q (by decide), fun _ => ⟨gt11 24 rfl rfl, by decide +kernel⟩, fun _ => Or.inr (gt11 25 rfl rfl)⟩
set_option maxRecDepth 100000 in
theorem ec_358 : Cond.code yX12_rest cX12_rest 3 (some .int) ∈ GW := gt11 26 rfl rfl
set_option maxRecDepth 100000 in
theorem em_359 : EMc yX12_priceOf cX12_priceOf 12 3 (some .int) 2 0 := ⟨rfl, plainFor_of_name ((cls_ok (o := 12) (by decide)).1 (by decide)), (cls_ok (o := 12) (by decide)).2.1, (cls_ok (o := 12) (by decide)).2.2, fun q => absurd q (by decide), fun _ => ⟨gt11 28 rfl rfl, by decide +kernel⟩, fun _ => Or.inr (gt11 29 rfl rfl)⟩
set_option maxRecDepth 100000 in
theorem ec_359 : Cond.code yX12_priceOf cX12_priceOf 3 (some .int) ∈ GW := gt11 30 rfl rfl
set_option maxRecDepth 100000 in
theorem em_360 : EMc yX12_last cX12_last 12 3 (some .int) 3 0 := ⟨rfl, plainFor_of_name ((cls_ok (o := 12) (by decide)).1 (by decide)), (cls_ok (o := 12) (by decide)).2.1, (cls_ok (o := 12) (by decide)).2.2, fun q => absurd q (by decide), fun _ => ⟨gt11 32 rfl rfl, by decide +kernel⟩, fun _ => Or.inr (gt11 33 rfl rfl)⟩
set_option maxRecDepth 100000 in
theorem ec_360 : Cond.code yX12_last cX12_last 3 (some .int) ∈ GW := gt11 34 rfl rfl
set_option maxRecDepth 100000 in
theorem em_361 : EMc yX12_endOf cX12_endOf 12 2 (some .int) 2 0 := ⟨rfl, plainFor_of_name ((cls_ok (o := 12) (by decide)).1 (by decide)), (cls_ok (o := 12) (by decide)).2.1, (cls_ok (o := 12) (by decide)).2.2, fun q => absurd q (by decide), fun _ => ⟨gt11 36 rfl rfl, by decide +kernel⟩, fun _ => Or.inr (gt11 37 rfl rfl)⟩
set_option maxRecDepth 100000 in
theorem ec_361 : Cond.code yX12_endOf cX12_endOf 2 (some .int) ∈ GW := gt11 38 rfl rfl
set_option maxRecDepth 100000 in
theorem em_362 : EMc yX12_indicated cX12_indicated 12 3 (some .int) 3 0 := ⟨rfl, plainFor_of_name ((cls_ok (o := 12) (by decide)).1 (by decide)), (cls_ok (o := 12) (by decide)).2.1, (cls_ok (o := 12) (by decide)).2.2, fun q => absurd q (by decide), fun _ => ⟨gt11 40 rfl rfl, by decide +kernel⟩, fun _ => Or.inr (gt11 41 rfl rfl)⟩
set_option maxRecDepth 100000 in
theorem ec_362 : Cond.code yX12_indicated cX12_indicated 3 (some .int) ∈ GW := gt11 42 rfl rfl
set_option maxRecDepth 100000 in
theorem em_363 : EMc yX12_trades cX12_trades 12 1 (some .int) 1 0 := ⟨rfl, plainFor_of_name ((cls_ok (o := 12) (by decide)).1 (by decide)), (cls_ok (o := 12) (by decide)).2.1, (cls_ok (o := 12) (by decide)).2.2, fun q => absurd q (by decide), fun _ => ⟨gt11 44 rfl rfl, by decide +kernel⟩, fun _ => Or.inr (gt11 45 rfl rfl)⟩
set_option maxRecDepth 100000 in
theorem ec_363 : Cond.code yX12_trades cX12_trades 1 (some .int) ∈ GW := gt11 46 rfl rfl
set_option maxRecDepth 100000 in
theorem em_364 : EMc yX12_trade cX12_trade 12 4 (some .int) 3 0 := ⟨rfl, plainFor_of_name ((cls_ok (o := 12) (by decide)).1 (by decide)), (cls_ok (o := 12) (by decide)).2.1, (cls_ok (o := 12) (by decide)).2.2, fun q => absurd q (by decide), fun _ => ⟨gt11 48 rfl rfl, by decide +kernel⟩, fun _ => Or.inr (gt11 49 rfl rfl)⟩
set_option maxRecDepth 100000 in
theorem ec_364 : Cond.code yX12_trade cX12_trade 4 (some .int) ∈ GW := gt11 50 rfl rfl
set_option maxRecDepth 100000 in
theorem em_365 : EMc yX12_position cX12_position 12 3 (some .int) 3 0 := ⟨rfl, plainFor_of_name ((cls_ok (o := 12) (by decide)).1 (by decide)), (cls_ok (o := 12) (by decide)).2.1, (cls_ok (o := 12) (by decide)).2.2, fun q => absurd q (by decide), fun _ => ⟨gt10 239 rfl rfl, by decide +kernel⟩, fun _ => Or.inr (gt11 0 rfl rfl)⟩
set_option maxRecDepth 100000 in
theorem ec_365 : Cond.code yX12_position cX12_position 3 (some .int) ∈ GW := gt11 1 rfl rfl
set_option maxRecDepth 100000 in
theorem em_366 : EMc yX12_cash cX12_cash 12 2 (some .long) 2 0 := ⟨rfl, plainFor_of_name ((cls_ok (o := 12) (by decide)).1 (by decide)), (cls_ok (o := 12) (by decide)).2.1, (cls_ok (o := 12) (by decide)).2.2, fun q => absurd q (by decide), fun _ => ⟨gt11 53 rfl rfl, by decide +kernel⟩, fun _ => Or.inr (gt11 54 rfl rfl)⟩
set_option maxRecDepth 100000 in
theorem ec_366 : Cond.code yX12_cash cX12_cash 2 (some .long) ∈ GW := gt11 55 rfl rfl
set_option maxRecDepth 100000 in
theorem em_367 : EMc yX12_quoted cX12_quoted 12 2 (some .int) 2 0 := ⟨rfl, plainFor_of_name ((cls_ok (o := 12) (by decide)).1 (by decide)), (cls_ok (o := 12) (by decide)).2.1, (cls_ok (o := 12) (by decide)).2.2, fun q => absurd q (by decide), fun _ => ⟨gt11 57 rfl rfl, by decide +kernel⟩, fun _ => Or.inr (gt11 58 rfl rfl)⟩
set_option maxRecDepth 100000 in
theorem ec_367 : Cond.code yX12_quoted cX12_quoted 2 (some .int) ∈ GW := gt11 59 rfl rfl
set_option maxRecDepth 100000 in
theorem em_368 : EMc yX12_member cX12_member 12 3 (some .long) 3 0 := ⟨rfl, plainFor_of_name ((cls_ok (o := 12) (by decide)).1 (by decide)), (cls_ok (o := 12) (by decide)).2.1, (cls_ok (o := 12) (by decide)).2.2, fun q => absurd q (by decide), fun _ => ⟨gt11 61 rfl rfl, by decide +kernel⟩, fun _ => Or.inr (gt11 62 rfl rfl)⟩
set_option maxRecDepth 100000 in
theorem ec_368 : Cond.code yX12_member cX12_member 3 (some .long) ∈ GW := gt11 63 rfl rfl
set_option maxRecDepth 100000 in
theorem em_369 : EMc yX12_stake cX12_stake 12 1 (some .int) 1 0 := ⟨rfl, plainFor_of_name ((cls_ok (o := 12) (by decide)).1 (by decide)), (cls_ok (o := 12) (by decide)).2.1, (cls_ok (o := 12) (by decide)).2.2, fun q => absurd q (by decide), fun _ => ⟨gt11 65 rfl rfl, by decide +kernel⟩, fun _ => Or.inr (gt11 66 rfl rfl)⟩
set_option maxRecDepth 100000 in
theorem ec_369 : Cond.code yX12_stake cX12_stake 1 (some .int) ∈ GW := gt11 67 rfl rfl
set_option maxRecDepth 100000 in
theorem em_370 : EMc yJ9_floorDiv_b2ac5 cJ9_floorDiv_b2ac5 14 3 (some .long) 2 1 := ⟨rfl, math_ok _ (List.mem_of_getElem? (i := 0) rfl), (cls_ok (o := 14) (by decide)).2.1, (cls_ok (o := 14) (by decide)).2.2, fun _ => ⟨gt5 19 rfl rfl, by decide +kernel⟩, fun q => absurd q (by decide), fun q => absurd q (by decide)⟩
set_option maxRecDepth 100000 in
theorem ec_370 : Cond.code yJ9_floorDiv_b2ac5 cJ9_floorDiv_b2ac5 3 (some .long) ∈ GW := gt5 20 rfl rfl
set_option maxRecDepth 100000 in
theorem em_371 : EMc yJ9_floorDiv_f86c9 cJ9_floorDiv_f86c9 14 6 (some .long) 2 1 := ⟨rfl, math_ok _ (List.mem_of_getElem? (i := 1) rfl), (cls_ok (o := 14) (by decide)).2.1, (cls_ok (o := 14) (by decide)).2.2, fun _ => ⟨gt4 207 rfl rfl, by decide +kernel⟩, fun q => absurd q (by decide), fun q => absurd q (by decide)⟩
set_option maxRecDepth 100000 in
theorem ec_371 : Cond.code yJ9_floorDiv_f86c9 cJ9_floorDiv_f86c9 6 (some .long) ∈ GW := gt4 208 rfl rfl
set_option maxRecDepth 100000 in
theorem em_372 : EMc yJ9_floorMod_7cf53 cJ9_floorMod_7cf53 14 3 (some .int) 2 1 := ⟨rfl, math_ok _ (List.mem_of_getElem? (i := 2) rfl), (cls_ok (o := 14) (by decide)).2.1, (cls_ok (o := 14) (by decide)).2.2, fun _ => ⟨gt4 223 rfl rfl, by decide +kernel⟩, fun q => absurd q (by decide), fun q => absurd q (by decide)⟩
set_option maxRecDepth 100000 in
theorem ec_372 : Cond.code yJ9_floorMod_7cf53 cJ9_floorMod_7cf53 3 (some .int) ∈ GW := gt4 224 rfl rfl
set_option maxRecDepth 100000 in
theorem em_373 : EMc yJ9_abs_0f7a4 cJ9_abs_0f7a4 14 1 (some .int) 1 1 := ⟨rfl, math_ok _ (List.mem_of_getElem? (i := 3) rfl), (cls_ok (o := 14) (by decide)).2.1, (cls_ok (o := 14) (by decide)).2.2, fun _ => ⟨gt3 108 rfl rfl, by decide +kernel⟩, fun q => absurd q (by decide), fun q => absurd q (by decide)⟩
set_option maxRecDepth 100000 in
theorem ec_373 : Cond.code yJ9_abs_0f7a4 cJ9_abs_0f7a4 1 (some .int) ∈ GW := gt3 109 rfl rfl
set_option maxRecDepth 100000 in
theorem em_374 : EMc yJ9_abs_067f4 cJ9_abs_067f4 14 2 (some .long) 1 1 := ⟨rfl, math_ok _ (List.mem_of_getElem? (i := 4) rfl), (cls_ok (o := 14) (by decide)).2.1, (cls_ok (o := 14) (by decide)).2.2, fun _ => ⟨gt5 64 rfl rfl, by decide +kernel⟩, fun q => absurd q (by decide), fun q => absurd q (by decide)⟩
set_option maxRecDepth 100000 in
theorem ec_374 : Cond.code yJ9_abs_067f4 cJ9_abs_067f4 2 (some .long) ∈ GW := gt5 65 rfl rfl
set_option maxRecDepth 100000 in
theorem em_375 : EMc yJ9_max_7cf53 cJ9_max_7cf53 14 2 (some .int) 2 1 := ⟨rfl, math_ok _ (List.mem_of_getElem? (i := 5) rfl), (cls_ok (o := 14) (by decide)).2.1, (cls_ok (o := 14) (by decide)).2.2, fun _ => ⟨gt4 102 rfl rfl, by decide +kernel⟩, fun q => absurd q (by decide), fun q => absurd q (by decide)⟩
set_option maxRecDepth 100000 in
theorem ec_375 : Cond.code yJ9_max_7cf53 cJ9_max_7cf53 2 (some .int) ∈ GW := gt4 103 rfl rfl
set_option maxRecDepth 100000 in
theorem em_376 : EMc yJ9_max_f86c9 cJ9_max_f86c9 14 4 (some .long) 2 1 := ⟨rfl, math_ok _ (List.mem_of_getElem? (i := 6) rfl), (cls_ok (o := 14) (by decide)).2.1, (cls_ok (o := 14) (by decide)).2.2, fun _ => ⟨gt5 60 rfl rfl, by decide +kernel⟩, fun q => absurd q (by decide), fun q => absurd q (by decide)⟩
set_option maxRecDepth 100000 in
theorem ec_376 : Cond.code yJ9_max_f86c9 cJ9_max_f86c9 4 (some .long) ∈ GW := gt5 61 rfl rfl
set_option maxRecDepth 100000 in
theorem em_377 : EMc yJ9_min_7cf53 cJ9_min_7cf53 14 2 (some .int) 2 1 := ⟨rfl, math_ok _ (List.mem_of_getElem? (i := 7) rfl), (cls_ok (o := 14) (by decide)).2.1, (cls_ok (o := 14) (by decide)).2.2, fun _ => ⟨gt3 140 rfl rfl, by decide +kernel⟩, fun q => absurd q (by decide), fun q => absurd q (by decide)⟩
set_option maxRecDepth 100000 in
theorem ec_377 : Cond.code yJ9_min_7cf53 cJ9_min_7cf53 2 (some .int) ∈ GW := gt3 141 rfl rfl
set_option maxRecDepth 100000 in
theorem em_378 : EMc yJ9_min_f86c9 cJ9_min_f86c9 14 4 (some .long) 2 1 := ⟨rfl, math_ok _ (List.mem_of_getElem? (i := 8) rfl), (cls_ok (o := 14) (by decide)).2.1, (cls_ok (o := 14) (by decide)).2.2, fun _ => ⟨gt5 125 rfl rfl, by decide +kernel⟩, fun q => absurd q (by decide), fun q => absurd q (by decide)⟩
set_option maxRecDepth 100000 in
theorem ec_378 : Cond.code yJ9_min_f86c9 cJ9_min_f86c9 4 (some .long) ∈ GW := gt5 126 rfl rfl
set_option maxRecDepth 100000 in
theorem em_379 : EMc yL_limit cL_limit 13 9 (some .int) 8 1 := ⟨rfl, plainFor_of_name ((cls_ok (o := 13) (by decide)).1 (by decide)), (cls_ok (o := 13) (by decide)).2.1, (cls_ok (o := 13) (by decide)).2.2, fun _ => ⟨gt5 163 rfl rfl, by decide +kernel⟩, fun q => absurd q (by decide), fun q => absurd q (by decide)⟩
set_option maxRecDepth 100000 in
theorem ec_379 : Cond.codeWith yL_limit cL_limit 9 (some .int) [(0, 18, 21, 13), (0, 18, 25, 15), (0, 18, 29, 17)] ∈ GW := gt5 164 rfl rfl
set_option maxRecDepth 100000 in
theorem em_380 : EMc yL_market cL_market 13 6 (some .int) 5 1 := ⟨rfl, plainFor_of_name ((cls_ok (o := 13) (by decide)).1 (by decide)), (cls_ok (o := 13) (by decide)).2.1, (cls_ok (o := 13) (by decide)).2.2, fun _ => ⟨gt6 86 rfl rfl, by decide +kernel⟩, fun q => absurd q (by decide), fun q => absurd q (by decide)⟩
set_option maxRecDepth 100000 in
theorem ec_380 : Cond.codeWith yL_market cL_market 6 (some .int) [(0, 12, 15, 13), (0, 12, 19, 15), (0, 12, 23, 17)] ∈ GW := gt6 87 rfl rfl
set_option maxRecDepth 100000 in
theorem em_381 : EMc yL_iceberg cL_iceberg 13 8 (some .int) 7 1 := ⟨rfl, plainFor_of_name ((cls_ok (o := 13) (by decide)).1 (by decide)), (cls_ok (o := 13) (by decide)).2.1, (cls_ok (o := 13) (by decide)).2.2, fun _ => ⟨gt6 93 rfl rfl, by decide +kernel⟩, fun q => absurd q (by decide), fun q => absurd q (by decide)⟩
set_option maxRecDepth 100000 in
theorem ec_381 : Cond.codeWith yL_iceberg cL_iceberg 8 (some .int) [(0, 16, 19, 13), (0, 16, 23, 15), (0, 16, 27, 17)] ∈ GW := gt6 94 rfl rfl
set_option maxRecDepth 100000 in
theorem em_382 : EMc yL_peg cL_peg 13 8 (some .int) 7 1 := ⟨rfl, plainFor_of_name ((cls_ok (o := 13) (by decide)).1 (by decide)), (cls_ok (o := 13) (by decide)).2.1, (cls_ok (o := 13) (by decide)).2.2, fun _ => ⟨gt6 100 rfl rfl, by decide +kernel⟩, fun q => absurd q (by decide), fun q => absurd q (by decide)⟩
set_option maxRecDepth 100000 in
theorem ec_382 : Cond.codeWith yL_peg cL_peg 8 (some .int) [(0, 16, 19, 13), (0, 16, 23, 15), (0, 16, 27, 17)] ∈ GW := gt6 101 rfl rfl
set_option maxRecDepth 100000 in
theorem em_383 : EMc yL_stop cL_stop 13 8 (some .int) 7 1 := ⟨rfl, plainFor_of_name ((cls_ok (o := 13) (by decide)).1 (by decide)), (cls_ok (o := 13) (by decide)).2.1, (cls_ok (o := 13) (by decide)).2.2, fun _ => ⟨gt6 107 rfl rfl, by decide +kernel⟩, fun q => absurd q (by decide), fun q => absurd q (by decide)⟩
set_option maxRecDepth 100000 in
theorem ec_383 : Cond.codeWith yL_stop cL_stop 8 (some .int) [(0, 16, 19, 13), (0, 16, 23, 15), (0, 16, 27, 17)] ∈ GW := gt6 108 rfl rfl
set_option maxRecDepth 100000 in
theorem em_384 : EMc yL_quote cL_quote 13 8 (some .int) 7 1 := ⟨rfl, plainFor_of_name ((cls_ok (o := 13) (by decide)).1 (by decide)), (cls_ok (o := 13) (by decide)).2.1, (cls_ok (o := 13) (by decide)).2.2, fun _ => ⟨gt6 117 rfl rfl, by decide +kernel⟩, fun q => absurd q (by decide), fun q => absurd q (by decide)⟩
set_option maxRecDepth 100000 in
theorem ec_384 : Cond.codeWith yL_quote cL_quote 8 (some .int) [(0, 16, 19, 13), (0, 16, 23, 15), (0, 16, 27, 17)] ∈ GW := gt6 118 rfl rfl
set_option maxRecDepth 100000 in
theorem em_385 : EMc yL_cancel cL_cancel 13 4 (some .int) 3 1 := ⟨rfl, plainFor_of_name ((cls_ok (o := 13) (by decide)).1 (by decide)), (cls_ok (o := 13) (by decide)).2.1, (cls_ok (o := 13) (by decide)).2.2, fun _ => ⟨gt6 125 rfl rfl, by decide +kernel⟩, fun q => absurd q (by decide), fun q => absurd q (by decide)⟩
set_option maxRecDepth 100000 in
theorem ec_385 : Cond.codeWith yL_cancel cL_cancel 4 (some .int) [(0, 9, 12, 13), (0, 9, 15, 17)] ∈ GW := gt6 126 rfl rfl
set_option maxRecDepth 100000 in
theorem em_386 : EMc yL_setRule cL_setRule 13 7 (some .int) 6 1 := ⟨rfl, plainFor_of_name ((cls_ok (o := 13) (by decide)).1 (by decide)), (cls_ok (o := 13) (by decide)).2.1, (cls_ok (o := 13) (by decide)).2.2, fun _ => ⟨gt6 137 rfl rfl, by decide +kernel⟩, fun q => absurd q (by decide), fun q => absurd q (by decide)⟩
set_option maxRecDepth 100000 in
theorem ec_386 : Cond.codeWith yL_setRule cL_setRule 7 (some .int) [(0, 14, 17, 13), (0, 14, 21, 15)] ∈ GW := gt6 138 rfl rfl
set_option maxRecDepth 100000 in
theorem em_387 : EMc yL_setBand cL_setBand 13 5 (some .int) 4 1 := ⟨rfl, plainFor_of_name ((cls_ok (o := 13) (by decide)).1 (by decide)), (cls_ok (o := 13) (by decide)).2.1, (cls_ok (o := 13) (by decide)).2.2, fun _ => ⟨gt6 144 rfl rfl, by decide +kernel⟩, fun q => absurd q (by decide), fun q => absurd q (by decide)⟩
set_option maxRecDepth 100000 in
theorem ec_387 : Cond.codeWith yL_setBand cL_setBand 5 (some .int) [(0, 10, 13, 13), (0, 10, 17, 15)] ∈ GW := gt6 145 rfl rfl
set_option maxRecDepth 100000 in
theorem em_388 : EMc yL_setProtection cL_setProtection 13 5 (some .int) 4 1 := ⟨rfl, plainFor_of_name ((cls_ok (o := 13) (by decide)).1 (by decide)), (cls_ok (o := 13) (by decide)).2.1, (cls_ok (o := 13) (by decide)).2.2, fun _ => ⟨gt6 151 rfl rfl, by decide +kernel⟩, fun q => absurd q (by decide), fun q => absurd q (by decide)⟩
set_option maxRecDepth 100000 in
theorem ec_388 : Cond.codeWith yL_setProtection cL_setProtection 5 (some .int) [(0, 10, 13, 13), (0, 10, 17, 15)] ∈ GW := gt6 152 rfl rfl
set_option maxRecDepth 100000 in
theorem em_389 : EMc yL_setLimit cL_setLimit 13 6 (some .int) 5 1 := ⟨rfl, plainFor_of_name ((cls_ok (o := 13) (by decide)).1 (by decide)), (cls_ok (o := 13) (by decide)).2.1, (cls_ok (o := 13) (by decide)).2.2, fun _ => ⟨gt6 158 rfl rfl, by decide +kernel⟩, fun q => absurd q (by decide), fun q => absurd q (by decide)⟩
set_option maxRecDepth 100000 in
theorem ec_389 : Cond.codeWith yL_setLimit cL_setLimit 6 (some .int) [(0, 12, 15, 13), (0, 12, 19, 15)] ∈ GW := gt6 159 rfl rfl
set_option maxRecDepth 100000 in
theorem em_390 : EMc yL_auction cL_auction 13 7 (some .int) 6 1 := ⟨rfl, plainFor_of_name ((cls_ok (o := 13) (by decide)).1 (by decide)), (cls_ok (o := 13) (by decide)).2.1, (cls_ok (o := 13) (by decide)).2.2, fun _ => ⟨gt6 165 rfl rfl, by decide +kernel⟩, fun q => absurd q (by decide), fun q => absurd q (by decide)⟩
set_option maxRecDepth 100000 in
theorem ec_390 : Cond.codeWith yL_auction cL_auction 7 (some .int) [(0, 14, 17, 13), (0, 14, 21, 15), (0, 14, 25, 17)] ∈ GW := gt6 166 rfl rfl
set_option maxRecDepth 100000 in
theorem em_391 : EMc yL_pass cL_pass 13 4 (some .int) 3 1 := ⟨rfl, plainFor_of_name ((cls_ok (o := 13) (by decide)).1 (by decide)), (cls_ok (o := 13) (by decide)).2.1, (cls_ok (o := 13) (by decide)).2.2, fun _ => ⟨gt6 172 rfl rfl, by decide +kernel⟩, fun q => absurd q (by decide), fun q => absurd q (by decide)⟩
set_option maxRecDepth 100000 in
theorem ec_391 : Cond.codeWith yL_pass cL_pass 4 (some .int) [(0, 9, 12, 15)] ∈ GW := gt6 173 rfl rfl
set_option maxRecDepth 100000 in
theorem em_392 : EMc yL_endDay cL_endDay 13 3 (some .int) 2 1 := ⟨rfl, plainFor_of_name ((cls_ok (o := 13) (by decide)).1 (by decide)), (cls_ok (o := 13) (by decide)).2.1, (cls_ok (o := 13) (by decide)).2.2, fun _ => ⟨gt6 179 rfl rfl, by decide +kernel⟩, fun q => absurd q (by decide), fun q => absurd q (by decide)⟩
set_option maxRecDepth 100000 in
theorem ec_392 : Cond.codeWith yL_endDay cL_endDay 3 (some .int) [(0, 8, 11, 17)] ∈ GW := gt6 180 rfl rfl
set_option maxRecDepth 100000 in
theorem em_393 : EMc yL_bust cL_bust 13 4 (some .int) 3 1 := ⟨rfl, plainFor_of_name ((cls_ok (o := 13) (by decide)).1 (by decide)), (cls_ok (o := 13) (by decide)).2.1, (cls_ok (o := 13) (by decide)).2.2, fun _ => ⟨gt6 190 rfl rfl, by decide +kernel⟩, fun q => absurd q (by decide), fun q => absurd q (by decide)⟩
set_option maxRecDepth 100000 in
theorem ec_393 : Cond.codeWith yL_bust cL_bust 4 (some .int) [(0, 9, 12, 13), (0, 9, 15, 17)] ∈ GW := gt6 191 rfl rfl
set_option maxRecDepth 100000 in
theorem em_394 : EMc yL_adjust cL_adjust 13 5 (some .int) 4 1 := ⟨rfl, plainFor_of_name ((cls_ok (o := 13) (by decide)).1 (by decide)), (cls_ok (o := 13) (by decide)).2.1, (cls_ok (o := 13) (by decide)).2.2, fun _ => ⟨gt6 203 rfl rfl, by decide +kernel⟩, fun q => absurd q (by decide), fun q => absurd q (by decide)⟩
set_option maxRecDepth 100000 in
theorem ec_394 : Cond.codeWith yL_adjust cL_adjust 5 (some .int) [(0, 10, 13, 13), (0, 10, 17, 15), (0, 10, 21, 17)] ∈ GW := gt6 204 rfl rfl
set_option maxRecDepth 100000 in
theorem em_395 : EMc yL_giveUp cL_giveUp 13 6 (some .int) 5 1 := ⟨rfl, plainFor_of_name ((cls_ok (o := 13) (by decide)).1 (by decide)), (cls_ok (o := 13) (by decide)).2.1, (cls_ok (o := 13) (by decide)).2.2, fun _ => ⟨gt6 210 rfl rfl, by decide +kernel⟩, fun q => absurd q (by decide), fun q => absurd q (by decide)⟩
set_option maxRecDepth 100000 in
theorem ec_395 : Cond.codeWith yL_giveUp cL_giveUp 6 (some .int) [(0, 12, 15, 13), (0, 12, 19, 17)] ∈ GW := gt6 211 rfl rfl
set_option maxRecDepth 100000 in
theorem em_396 : EMc yL_allot cL_allot 13 7 (some .int) 6 1 := ⟨rfl, plainFor_of_name ((cls_ok (o := 13) (by decide)).1 (by decide)), (cls_ok (o := 13) (by decide)).2.1, (cls_ok (o := 13) (by decide)).2.2, fun _ => ⟨gt6 217 rfl rfl, by decide +kernel⟩, fun q => absurd q (by decide), fun q => absurd q (by decide)⟩
set_option maxRecDepth 100000 in
theorem ec_396 : Cond.codeWith yL_allot cL_allot 7 (some .int) [(0, 14, 17, 13), (0, 14, 21, 15), (0, 14, 25, 17)] ∈ GW := gt6 218 rfl rfl
set_option maxRecDepth 100000 in
theorem em_397 : EMc yL_exercise cL_exercise 13 6 (some .int) 5 1 := ⟨rfl, plainFor_of_name ((cls_ok (o := 13) (by decide)).1 (by decide)), (cls_ok (o := 13) (by decide)).2.1, (cls_ok (o := 13) (by decide)).2.2, fun _ => ⟨gt6 228 rfl rfl, by decide +kernel⟩, fun q => absurd q (by decide), fun q => absurd q (by decide)⟩
set_option maxRecDepth 100000 in
theorem ec_397 : Cond.codeWith yL_exercise cL_exercise 6 (some .int) [(0, 12, 15, 13), (0, 12, 19, 15), (0, 12, 23, 17)] ∈ GW := gt6 229 rfl rfl
set_option maxRecDepth 100000 in
theorem em_398 : EMc yL_convert cL_convert 13 6 (some .int) 5 1 := ⟨rfl, plainFor_of_name ((cls_ok (o := 13) (by decide)).1 (by decide)), (cls_ok (o := 13) (by decide)).2.1, (cls_ok (o := 13) (by decide)).2.2, fun _ => ⟨gt6 236 rfl rfl, by decide +kernel⟩, fun q => absurd q (by decide), fun q => absurd q (by decide)⟩
set_option maxRecDepth 100000 in
theorem ec_398 : Cond.codeWith yL_convert cL_convert 6 (some .int) [(0, 12, 15, 13), (0, 12, 19, 15), (0, 12, 23, 17)] ∈ GW := gt6 237 rfl rfl
set_option maxRecDepth 100000 in
theorem em_399 : EMc yL_setMove cL_setMove 13 6 (some .int) 5 1 := ⟨rfl, plainFor_of_name ((cls_ok (o := 13) (by decide)).1 (by decide)), (cls_ok (o := 13) (by decide)).2.1, (cls_ok (o := 13) (by decide)).2.2, fun _ => ⟨gt7 9 rfl rfl, by decide +kernel⟩, fun q => absurd q (by decide), fun q => absurd q (by decide)⟩
set_option maxRecDepth 100000 in
theorem ec_399 : Cond.codeWith yL_setMove cL_setMove 6 (some .int) [(0, 12, 15, 13), (0, 12, 19, 15)] ∈ GW := gt7 10 rfl rfl
set_option maxRecDepth 100000 in
theorem em_400 : EMc yL_setHaircut cL_setHaircut 13 4 (some .int) 3 1 := ⟨rfl, plainFor_of_name ((cls_ok (o := 13) (by decide)).1 (by decide)), (cls_ok (o := 13) (by decide)).2.1, (cls_ok (o := 13) (by decide)).2.2, fun _ => ⟨gt7 16 rfl rfl, by decide +kernel⟩, fun q => absurd q (by decide), fun q => absurd q (by decide)⟩
set_option maxRecDepth 100000 in
theorem ec_400 : Cond.codeWith yL_setHaircut cL_setHaircut 4 (some .int) [(0, 9, 12, 15)] ∈ GW := gt7 17 rfl rfl
set_option maxRecDepth 100000 in
theorem em_401 : EMc yL_pay cL_pay 13 6 (some .int) 5 1 := ⟨rfl, plainFor_of_name ((cls_ok (o := 13) (by decide)).1 (by decide)), (cls_ok (o := 13) (by decide)).2.1, (cls_ok (o := 13) (by decide)).2.2, fun _ => ⟨gt7 23 rfl rfl, by decide +kernel⟩, fun q => absurd q (by decide), fun q => absurd q (by decide)⟩
set_option maxRecDepth 100000 in
theorem ec_401 : Cond.codeWith yL_pay cL_pay 6 (some .int) [(0, 12, 15, 13), (0, 12, 19, 15), (0, 12, 23, 17)] ∈ GW := gt7 24 rfl rfl
set_option maxRecDepth 100000 in
theorem em_402 : EMc yL_setFund cL_setFund 13 5 (some .int) 4 1 := ⟨rfl, plainFor_of_name ((cls_ok (o := 13) (by decide)).1 (by decide)), (cls_ok (o := 13) (by decide)).2.1, (cls_ok (o := 13) (by decide)).2.2, fun _ => ⟨gt7 37 rfl rfl, by decide +kernel⟩, fun q => absurd q (by decide), fun q => absurd q (by decide)⟩
set_option maxRecDepth 100000 in
theorem ec_402 : Cond.codeWith yL_setFund cL_setFund 5 (some .int) [(0, 10, 13, 13), (0, 10, 17, 15), (0, 10, 21, 17)] ∈ GW := gt7 38 rfl rfl
set_option maxRecDepth 100000 in
theorem em_403 : EMc yL_fail cL_fail 13 4 (some .int) 3 1 := ⟨rfl, plainFor_of_name ((cls_ok (o := 13) (by decide)).1 (by decide)), (cls_ok (o := 13) (by decide)).2.1, (cls_ok (o := 13) (by decide)).2.2, fun _ => ⟨gt7 45 rfl rfl, by decide +kernel⟩, fun q => absurd q (by decide), fun q => absurd q (by decide)⟩
set_option maxRecDepth 100000 in
theorem ec_403 : Cond.codeWith yL_fail cL_fail 4 (some .int) [(0, 9, 12, 13), (0, 9, 15, 17)] ∈ GW := gt7 46 rfl rfl
set_option maxRecDepth 100000 in
theorem em_404 : EMc yL_bid cL_bid 13 5 (some .int) 4 1 := ⟨rfl, plainFor_of_name ((cls_ok (o := 13) (by decide)).1 (by decide)), (cls_ok (o := 13) (by decide)).2.1, (cls_ok (o := 13) (by decide)).2.2, fun _ => ⟨gt7 56 rfl rfl, by decide +kernel⟩, fun q => absurd q (by decide), fun q => absurd q (by decide)⟩
set_option maxRecDepth 100000 in
theorem ec_404 : Cond.codeWith yL_bid cL_bid 5 (some .int) [(0, 10, 13, 13), (0, 10, 17, 15), (0, 10, 21, 17)] ∈ GW := gt7 57 rfl rfl
set_option maxRecDepth 100000 in
theorem em_405 : EMc yL_closeOut cL_closeOut 13 3 (some .int) 2 1 := ⟨rfl, plainFor_of_name ((cls_ok (o := 13) (by decide)).1 (by decide)), (cls_ok (o := 13) (by decide)).2.1, (cls_ok (o := 13) (by decide)).2.2, fun _ => ⟨gt7 63 rfl rfl, by decide +kernel⟩, fun q => absurd q (by decide), fun q => absurd q (by decide)⟩
set_option maxRecDepth 100000 in
theorem ec_405 : Cond.codeWith yL_closeOut cL_closeOut 3 (some .int) [(0, 8, 11, 17)] ∈ GW := gt7 64 rfl rfl
set_option maxRecDepth 100000 in
theorem em_406 : EMc yL_positionByLog cL_positionByLog 13 5 (some .int) 4 1 := ⟨rfl, plainFor_of_name ((cls_ok (o := 13) (by decide)).1 (by decide)), (cls_ok (o := 13) (by decide)).2.1, (cls_ok (o := 13) (by decide)).2.2, fun _ => ⟨gt7 70 rfl rfl, by decide +kernel⟩, fun q => absurd q (by decide), fun q => absurd q (by decide)⟩
set_option maxRecDepth 100000 in
theorem ec_406 : Cond.codeWith yL_positionByLog cL_positionByLog 5 (some .int) [(0, 10, 13, 13)] ∈ GW := gt7 71 rfl rfl
set_option maxRecDepth 100000 in
theorem em_407 : EMc yL_bestByLog cL_bestByLog 13 5 (some .int) 4 1 := ⟨rfl, plainFor_of_name ((cls_ok (o := 13) (by decide)).1 (by decide)), (cls_ok (o := 13) (by decide)).2.1, (cls_ok (o := 13) (by decide)).2.2, fun _ => ⟨gt7 77 rfl rfl, by decide +kernel⟩, fun q => absurd q (by decide), fun q => absurd q (by decide)⟩
set_option maxRecDepth 100000 in
theorem ec_407 : Cond.codeWith yL_bestByLog cL_bestByLog 5 (some .int) [(0, 10, 13, 13)] ∈ GW := gt7 78 rfl rfl
set_option maxRecDepth 100000 in
theorem em_408 : EMc yL_best cL_best 13 5 (some .int) 4 1 := ⟨rfl, plainFor_of_name ((cls_ok (o := 13) (by decide)).1 (by decide)), (cls_ok (o := 13) (by decide)).2.1, (cls_ok (o := 13) (by decide)).2.2, fun _ => ⟨gt7 85 rfl rfl, by decide +kernel⟩, fun q => absurd q (by decide), fun q => absurd q (by decide)⟩
set_option maxRecDepth 100000 in
theorem ec_408 : Cond.codeWith yL_best cL_best 5 (some .int) [(0, 10, 13, 13)] ∈ GW := gt7 86 rfl rfl
set_option maxRecDepth 100000 in
theorem em_409 : EMc yL_shown cL_shown 13 6 (some .int) 5 1 := ⟨rfl, plainFor_of_name ((cls_ok (o := 13) (by decide)).1 (by decide)), (cls_ok (o := 13) (by decide)).2.1, (cls_ok (o := 13) (by decide)).2.2, fun _ => ⟨gt7 92 rfl rfl, by decide +kernel⟩, fun q => absurd q (by decide), fun q => absurd q (by decide)⟩
set_option maxRecDepth 100000 in
theorem ec_409 : Cond.codeWith yL_shown cL_shown 6 (some .int) [(0, 12, 15, 13)] ∈ GW := gt7 93 rfl rfl
set_option maxRecDepth 100000 in
theorem em_410 : EMc yL_rest cL_rest 13 4 (some .int) 3 1 := ⟨rfl, plainFor_of_name ((cls_ok (o := 13) (by decide)).1 (by decide)), (cls_ok (o := 13) (by decide)).2.1, (cls_ok (o := 13) (by decide)).2.2, fun _ => ⟨gt7 103 rfl rfl, by decide +kernel⟩, fun q => absurd q (by decide), fun q => absurd q (by decide)⟩
set_option maxRecDepth 100000 in
theorem ec_410 : Cond.codeWith yL_rest cL_rest 4 (some .int) [(0, 9, 12, 13)] ∈ GW := gt7 104 rfl rfl
set_option maxRecDepth 100000 in
theorem em_411 : EMc yL_priceOf cL_priceOf 13 4 (some .int) 3 1 := ⟨rfl, plainFor_of_name ((cls_ok (o := 13) (by decide)).1 (by decide)), (cls_ok (o := 13) (by decide)).2.1, (cls_ok (o := 13) (by decide)).2.2, fun _ => ⟨gt7 110 rfl rfl, by decide +kernel⟩, fun q => absurd q (by decide), fun q => absurd q (by decide)⟩
set_option maxRecDepth 100000 in
theorem ec_411 : Cond.codeWith yL_priceOf cL_priceOf 4 (some .int) [(0, 9, 12, 13)] ∈ GW := gt7 111 rfl rfl
set_option maxRecDepth 100000 in
theorem em_412 : EMc yL_last cL_last 13 5 (some .int) 4 1 := ⟨rfl, plainFor_of_name ((cls_ok (o := 13) (by decide)).1 (by decide)), (cls_ok (o := 13) (by decide)).2.1, (cls_ok (o := 13) (by decide)).2.2, fun _ => ⟨gt7 117 rfl rfl, by decide +kernel⟩, fun q => absurd q (by decide), fun q => absurd q (by decide)⟩
set_option maxRecDepth 100000 in
theorem ec_412 : Cond.codeWith yL_last cL_last 5 (some .int) [(0, 10, 13, 13)] ∈ GW := gt7 118 rfl rfl
set_option maxRecDepth 100000 in
theorem em_413 : EMc yL_endOf cL_endOf 13 4 (some .int) 3 1 := ⟨rfl, plainFor_of_name ((cls_ok (o := 13) (by decide)).1 (by decide)), (cls_ok (o := 13) (by decide)).2.1, (cls_ok (o := 13) (by decide)).2.2, fun _ => ⟨gt7 124 rfl rfl, by decide +kernel⟩, fun q => absurd q (by decide), fun q => absurd q (by decide)⟩
set_option maxRecDepth 100000 in
theorem ec_413 : Cond.codeWith yL_endOf cL_endOf 4 (some .int) [(0, 9, 12, 13)] ∈ GW := gt7 125 rfl rfl
set_option maxRecDepth 100000 in
theorem em_414 : EMc yL_indicated cL_indicated 13 5 (some .int) 4 1 := ⟨rfl, plainFor_of_name ((cls_ok (o := 13) (by decide)).1 (by decide)), (cls_ok (o := 13) (by decide)).2.1, (cls_ok (o := 13) (by decide)).2.2, fun _ => ⟨gt7 131 rfl rfl, by decide +kernel⟩, fun q => absurd q (by decide), fun q => absurd q (by decide)⟩
set_option maxRecDepth 100000 in
theorem ec_414 : Cond.codeWith yL_indicated cL_indicated 5 (some .int) [(0, 10, 13, 13)] ∈ GW := gt7 132 rfl rfl
set_option maxRecDepth 100000 in
theorem em_415 : EMc yL_trade cL_trade 13 5 (some .int) 4 1 := ⟨rfl, plainFor_of_name ((cls_ok (o := 13) (by decide)).1 (by decide)), (cls_ok (o := 13) (by decide)).2.1, (cls_ok (o := 13) (by decide)).2.2, fun _ => ⟨gt7 140 rfl rfl, by decide +kernel⟩, fun q => absurd q (by decide), fun q => absurd q (by decide)⟩
set_option maxRecDepth 100000 in
theorem ec_415 : Cond.codeWith yL_trade cL_trade 5 (some .int) [(0, 10, 13, 13), (0, 10, 17, 15)] ∈ GW := gt7 141 rfl rfl
set_option maxRecDepth 100000 in
theorem em_416 : EMc yL_position cL_position 13 5 (some .int) 4 1 := ⟨rfl, plainFor_of_name ((cls_ok (o := 13) (by decide)).1 (by decide)), (cls_ok (o := 13) (by decide)).2.1, (cls_ok (o := 13) (by decide)).2.2, fun _ => ⟨gt7 151 rfl rfl, by decide +kernel⟩, fun q => absurd q (by decide), fun q => absurd q (by decide)⟩
set_option maxRecDepth 100000 in
theorem ec_416 : Cond.codeWith yL_position cL_position 5 (some .int) [(0, 10, 13, 13)] ∈ GW := gt7 152 rfl rfl
set_option maxRecDepth 100000 in
theorem em_417 : EMc yL_cash cL_cash 13 4 (some .int) 3 1 := ⟨rfl, plainFor_of_name ((cls_ok (o := 13) (by decide)).1 (by decide)), (cls_ok (o := 13) (by decide)).2.1, (cls_ok (o := 13) (by decide)).2.2, fun _ => ⟨gt7 158 rfl rfl, by decide +kernel⟩, fun q => absurd q (by decide), fun q => absurd q (by decide)⟩
set_option maxRecDepth 100000 in
theorem ec_417 : Cond.codeWith yL_cash cL_cash 4 (some .int) [(0, 8, 11, 13)] ∈ GW := gt7 159 rfl rfl
set_option maxRecDepth 100000 in
theorem em_418 : EMc yL_quoted cL_quoted 13 4 (some .int) 3 1 := ⟨rfl, plainFor_of_name ((cls_ok (o := 13) (by decide)).1 (by decide)), (cls_ok (o := 13) (by decide)).2.1, (cls_ok (o := 13) (by decide)).2.2, fun _ => ⟨gt7 165 rfl rfl, by decide +kernel⟩, fun q => absurd q (by decide), fun q => absurd q (by decide)⟩
set_option maxRecDepth 100000 in
theorem ec_418 : Cond.codeWith yL_quoted cL_quoted 4 (some .int) [(0, 9, 12, 13)] ∈ GW := gt7 166 rfl rfl
set_option maxRecDepth 100000 in
theorem em_419 : EMc yL_member cL_member 13 5 (some .int) 4 1 := ⟨rfl, plainFor_of_name ((cls_ok (o := 13) (by decide)).1 (by decide)), (cls_ok (o := 13) (by decide)).2.1, (cls_ok (o := 13) (by decide)).2.2, fun _ => ⟨gt7 172 rfl rfl, by decide +kernel⟩, fun q => absurd q (by decide), fun q => absurd q (by decide)⟩
set_option maxRecDepth 100000 in
theorem ec_419 : Cond.codeWith yL_member cL_member 5 (some .int) [(0, 9, 12, 13), (0, 9, 16, 15)] ∈ GW := gt7 173 rfl rfl
set_option maxRecDepth 100000 in
theorem ml_13149 : Cond.methodLink RL 149 yX11_init ∈ GW := gt1 23 rfl rfl
set_option maxRecDepth 100000 in
theorem ml_11001 : Cond.methodLink RX11 1 objectInit ∈ GW := gt1 26 rfl rfl
set_option maxRecDepth 100000 in
theorem ml_11009 : Cond.methodLink RX11 9 yX5_init ∈ GW := gt1 31 rfl rfl
set_option maxRecDepth 100000 in
theorem ml_5003 : Cond.methodLink RX5 3 objectInit ∈ GW := gt1 34 rfl rfl
set_option maxRecDepth 100000 in
theorem ml_5011 : Cond.methodLink RX5 11 yX1_init ∈ GW := gt1 38 rfl rfl
set_option maxRecDepth 100000 in
theorem ml_1003 : Cond.methodLink RX1 3 objectInit ∈ GW := gt1 41 rfl rfl
set_option maxRecDepth 100000 in
theorem ml_5016 : Cond.methodLink RX5 16 yX7_init ∈ GW := gt1 122 rfl rfl
set_option maxRecDepth 100000 in
theorem ml_7003 : Cond.methodLink RX7 3 objectInit ∈ GW := gt1 125 rfl rfl
set_option maxRecDepth 100000 in
theorem ml_7023 : Cond.methodLink RX7 23 yX0_init ∈ GW := gt1 131 rfl rfl
set_option maxRecDepth 100000 in
theorem ml_3 : Cond.methodLink RX0 3 objectInit ∈ GW := gt1 134 rfl rfl
set_option maxRecDepth 100000 in
theorem ml_7026 : Cond.methodLink RX7 26 yX4_init ∈ GW := gt1 182 rfl rfl
set_option maxRecDepth 100000 in
theorem ml_4001 : Cond.methodLink RX4 1 objectInit ∈ GW := gt1 185 rfl rfl
set_option maxRecDepth 100000 in
theorem ml_5027 : Cond.methodLink RX5 27 yX7_accountAt ∈ GW := gt1 233 rfl rfl
set_option maxRecDepth 100000 in
theorem ml_5031 : Cond.methodLink RX5 31 yX6_init ∈ GW := gt1 237 rfl rfl
set_option maxRecDepth 100000 in
theorem ml_6003 : Cond.methodLink RX6 3 objectInit ∈ GW := gt2 0 rfl rfl
set_option maxRecDepth 100000 in
theorem ml_6021 : Cond.methodLink RX6 21 yX10_init ∈ GW := gt2 4 rfl rfl
set_option maxRecDepth 100000 in
theorem ml_10003 : Cond.methodLink RX10 3 objectInit ∈ GW := gt2 7 rfl rfl
set_option maxRecDepth 100000 in
theorem ml_5040 : Cond.methodLink RX5 40 yX8_init ∈ GW := gt2 128 rfl rfl
set_option maxRecDepth 100000 in
theorem ml_8003 : Cond.methodLink RX8 3 objectInit ∈ GW := gt2 131 rfl rfl
set_option maxRecDepth 100000 in
theorem ml_5049 : Cond.methodLink RX5 49 yX3_init ∈ GW := gt2 148 rfl rfl
set_option maxRecDepth 100000 in
theorem ml_3001 : Cond.methodLink RX3 1 objectInit ∈ GW := gt2 151 rfl rfl
set_option maxRecDepth 100000 in
theorem ml_5056 : Cond.methodLink RX5 56 yX2_init ∈ GW := gt2 161 rfl rfl
set_option maxRecDepth 100000 in
theorem ml_2003 : Cond.methodLink RX2 3 objectInit ∈ GW := gt2 164 rfl rfl
set_option maxRecDepth 100000 in
theorem ml_9001 : Cond.methodLink RX9 1 objectInit ∈ GW := gt2 173 rfl rfl
set_option maxRecDepth 100000 in
theorem ml_5061 : Cond.methodLink RX5 61 yX5_restore ∈ GW := gt3 0 rfl rfl
set_option maxRecDepth 100000 in
theorem ml_5064 : Cond.methodLink RX5 64 yX6_restore ∈ GW := gt3 4 rfl rfl
set_option maxRecDepth 100000 in
theorem ml_6024 : Cond.methodLink RX6 24 yX1_restore ∈ GW := gt3 8 rfl rfl
set_option maxRecDepth 100000 in
theorem ml_1022 : Cond.methodLink RX1 22 yX1_isSpread ∈ GW := gt3 12 rfl rfl
set_option maxRecDepth 100000 in
theorem ml_5065 : Cond.methodLink RX5 65 yX7_restore ∈ GW := gt3 16 rfl rfl
set_option maxRecDepth 100000 in
theorem ml_7029 : Cond.methodLink RX7 29 yX0_restore ∈ GW := gt3 20 rfl rfl
set_option maxRecDepth 100000 in
theorem ml_5066 : Cond.methodLink RX5 66 yX2_restore ∈ GW := gt3 24 rfl rfl
set_option maxRecDepth 100000 in
theorem ml_2031 : Cond.methodLink RX2 31 yX9_restore ∈ GW := gt3 28 rfl rfl
set_option maxRecDepth 100000 in
theorem ml_9023 : Cond.methodLink RX9 23 yX9_forgetBid ∈ GW := gt3 32 rfl rfl
set_option maxRecDepth 100000 in
theorem ml_13247 : Cond.methodLink RL 247 yX11_keep ∈ GW := gt3 76 rfl rfl
set_option maxRecDepth 100000 in
theorem ml_13251 : Cond.methodLink RL 251 yX11_failOver ∈ GW := gt3 80 rfl rfl
set_option maxRecDepth 100000 in
theorem ml_11193 : Cond.methodLink RX11 193 yX5_restore ∈ GW := gt3 84 rfl rfl
set_option maxRecDepth 100000 in
theorem ml_11080 : Cond.methodLink RX11 80 yX11_play ∈ GW := gt3 85 rfl rfl
set_option maxRecDepth 100000 in
theorem ml_11274 : Cond.methodLink RX11 274 yX5_tellLimit ∈ GW := gt3 89 rfl rfl
set_option maxRecDepth 100000 in
theorem ml_5087 : Cond.methodLink RX5 87 yX6_bookAt ∈ GW := gt3 94 rfl rfl
set_option maxRecDepth 100000 in
theorem ml_5099 : Cond.methodLink RX5 99 yX6_draw ∈ GW := gt3 98 rfl rfl
set_option maxRecDepth 100000 in
theorem ml_6048 : Cond.methodLink RX6 48 yX10_begin ∈ GW := gt3 102 rfl rfl
set_option maxRecDepth 100000 in
theorem ml_10043 : Cond.methodLink RX10 43 yJ9_abs_0f7a4 ∈ GW := gt3 107 rfl rfl
set_option maxRecDepth 100000 in
theorem ml_5103 : Cond.methodLink RX5 103 yX8_reachable ∈ GW := gt3 110 rfl rfl
set_option maxRecDepth 100000 in
theorem ml_8042 : Cond.methodLink RX8 42 yX10_standsIn ∈ GW := gt3 114 rfl rfl
set_option maxRecDepth 100000 in
theorem ml_8059 : Cond.methodLink RX8 59 yX10_allows ∈ GW := gt3 118 rfl rfl
set_option maxRecDepth 100000 in
theorem ml_8063 : Cond.methodLink RX8 63 yX1_isBeyondBand ∈ GW := gt3 122 rfl rfl
set_option maxRecDepth 100000 in
theorem ml_1057 : Cond.methodLink RX1 57 yJ9_abs_0f7a4 ∈ GW := gt3 126 rfl rfl
set_option maxRecDepth 100000 in
theorem ml_5112 : Cond.methodLink RX5 112 yX5_place ∈ GW := gt3 127 rfl rfl
set_option maxRecDepth 100000 in
theorem ml_5151 : Cond.methodLink RX5 151 yX6_stand ∈ GW := gt3 131 rfl rfl
set_option maxRecDepth 100000 in
theorem ml_6058 : Cond.methodLink RX6 58 yX10_showable ∈ GW := gt3 135 rfl rfl
set_option maxRecDepth 100000 in
theorem ml_10087 : Cond.methodLink RX10 87 yJ9_min_7cf53 ∈ GW := gt3 139 rfl rfl
set_option maxRecDepth 100000 in
theorem ml_6065 : Cond.methodLink RX6 65 yX6_nextTurn ∈ GW := gt3 142 rfl rfl
set_option maxRecDepth 100000 in
theorem ml_5154 : Cond.methodLink RX5 154 yX8_match ∈ GW := gt3 146 rfl rfl
set_option maxRecDepth 100000 in
theorem ml_8075 : Cond.methodLink RX8 75 yX6_bestPrice ∈ GW := gt3 151 rfl rfl
set_option maxRecDepth 100000 in
theorem ml_6072 : Cond.methodLink RX6 72 yX10_standsIn ∈ GW := gt3 156 rfl rfl
set_option maxRecDepth 100000 in
theorem ml_6079 : Cond.methodLink RX6 79 yX10_isBetter ∈ GW := gt3 157 rfl rfl
set_option maxRecDepth 100000 in
theorem ml_8080 : Cond.methodLink RX8 80 yX6_beginAuction ∈ GW := gt3 162 rfl rfl
set_option maxRecDepth 100000 in
theorem ml_8084 : Cond.methodLink RX8 84 yX8_gather ∈ GW := gt3 166 rfl rfl
set_option maxRecDepth 100000 in
theorem ml_8091 : Cond.methodLink RX8 91 yX8_meetsOwn ∈ GW := gt3 170 rfl rfl
set_option maxRecDepth 100000 in
theorem ml_8095 : Cond.methodLink RX8 95 yX8_share ∈ GW := gt3 174 rfl rfl
set_option maxRecDepth 100000 in
theorem ml_8128 : Cond.methodLink RX8 128 yJ9_min_7cf53 ∈ GW := gt3 178 rfl rfl
set_option maxRecDepth 100000 in
theorem ml_8137 : Cond.methodLink RX8 137 yX8_giveTop ∈ GW := gt3 179 rfl rfl
set_option maxRecDepth 100000 in
theorem ml_8141 : Cond.methodLink RX8 141 yX8_giveShares ∈ GW := gt3 183 rfl rfl
set_option maxRecDepth 100000 in
theorem ml_8099 : Cond.methodLink RX8 99 yX8_strike ∈ GW := gt3 187 rfl rfl
set_option maxRecDepth 100000 in
theorem ml_8145 : Cond.methodLink RX8 145 yX7_record ∈ GW := gt3 191 rfl rfl
set_option maxRecDepth 100000 in
theorem ml_7040 : Cond.methodLink RX7 40 yX4_fill ∈ GW := gt3 195 rfl rfl
set_option maxRecDepth 100000 in
theorem ml_7049 : Cond.methodLink RX7 49 yX0_take ∈ GW := gt3 199 rfl rfl
set_option maxRecDepth 100000 in
theorem ml_8151 : Cond.methodLink RX8 151 yX10_fall ∈ GW := gt3 203 rfl rfl
set_option maxRecDepth 100000 in
theorem ml_8155 : Cond.methodLink RX8 155 yX6_guard ∈ GW := gt3 207 rfl rfl
set_option maxRecDepth 100000 in
theorem ml_8103 : Cond.methodLink RX8 103 yX6_showAnew ∈ GW := gt3 211 rfl rfl
set_option maxRecDepth 100000 in
theorem ml_8107 : Cond.methodLink RX8 107 yX8_settle ∈ GW := gt3 215 rfl rfl
set_option maxRecDepth 100000 in
theorem ml_8116 : Cond.methodLink RX8 116 yX6_stand ∈ GW := gt3 219 rfl rfl
set_option maxRecDepth 100000 in
theorem ml_11278 : Cond.methodLink RX11 278 yX5_tellMarket ∈ GW := gt3 220 rfl rfl
set_option maxRecDepth 100000 in
theorem ml_11282 : Cond.methodLink RX11 282 yX5_tellIceberg ∈ GW := gt3 224 rfl rfl
set_option maxRecDepth 100000 in
theorem ml_11286 : Cond.methodLink RX11 286 yX5_tellPeg ∈ GW := gt3 228 rfl rfl
set_option maxRecDepth 100000 in
theorem ml_11289 : Cond.methodLink RX11 289 yX5_tellStop ∈ GW := gt3 232 rfl rfl
set_option maxRecDepth 100000 in
theorem ml_11292 : Cond.methodLink RX11 292 yX5_tellQuote ∈ GW := gt3 236 rfl rfl
set_option maxRecDepth 100000 in
theorem ml_5131 : Cond.methodLink RX5 131 yX6_withdrawQuote ∈ GW := gt4 0 rfl rfl
set_option maxRecDepth 100000 in
theorem ml_11295 : Cond.methodLink RX11 295 yX6_withdraw ∈ GW := gt4 4 rfl rfl
set_option maxRecDepth 100000 in
theorem ml_6126 : Cond.methodLink RX6 126 yX6_find ∈ GW := gt4 8 rfl rfl
set_option maxRecDepth 100000 in
theorem ml_11038 : Cond.methodLink RX11 38 yX6_bookAt ∈ GW := gt4 12 rfl rfl
set_option maxRecDepth 100000 in
theorem ml_11298 : Cond.methodLink RX11 298 yX1_changeRule ∈ GW := gt4 13 rfl rfl
set_option maxRecDepth 100000 in
theorem ml_11301 : Cond.methodLink RX11 301 yX1_changeBand ∈ GW := gt4 17 rfl rfl
set_option maxRecDepth 100000 in
theorem ml_11150 : Cond.methodLink RX11 150 yX7_accountAt ∈ GW := gt4 21 rfl rfl
set_option maxRecDepth 100000 in
theorem ml_11304 : Cond.methodLink RX11 304 yX0_changeProtection ∈ GW := gt4 22 rfl rfl
set_option maxRecDepth 100000 in
theorem ml_11307 : Cond.methodLink RX11 307 yX0_changeLimit ∈ GW := gt4 26 rfl rfl
set_option maxRecDepth 100000 in
theorem ml_50 : Cond.methodLink RX0 50 yX0_limitOf ∈ GW := gt4 30 rfl rfl
set_option maxRecDepth 100000 in
theorem ml_11311 : Cond.methodLink RX11 311 yX6_beginAuction ∈ GW := gt4 34 rfl rfl
set_option maxRecDepth 100000 in
theorem ml_11315 : Cond.methodLink RX11 315 yX5_letPass ∈ GW := gt4 35 rfl rfl
set_option maxRecDepth 100000 in
theorem ml_5160 : Cond.methodLink RX5 160 yX6_countQuotes ∈ GW := gt4 39 rfl rfl
set_option maxRecDepth 100000 in
theorem ml_6157 : Cond.methodLink RX6 157 yX6_hasOtherSide ∈ GW := gt4 43 rfl rfl
set_option maxRecDepth 100000 in
theorem ml_5170 : Cond.methodLink RX5 170 yX8_endAuction ∈ GW := gt4 47 rfl rfl
set_option maxRecDepth 100000 in
theorem ml_8159 : Cond.methodLink RX8 159 yX8_findPrice ∈ GW := gt4 51 rfl rfl
set_option maxRecDepth 100000 in
theorem ml_8195 : Cond.methodLink RX8 195 yX8_volumeAt ∈ GW := gt4 55 rfl rfl
set_option maxRecDepth 100000 in
theorem ml_8199 : Cond.methodLink RX8 199 yX8_sumAt ∈ GW := gt4 59 rfl rfl
set_option maxRecDepth 100000 in
theorem ml_8203 : Cond.methodLink RX8 203 yJ9_abs_0f7a4 ∈ GW := gt4 63 rfl rfl
set_option maxRecDepth 100000 in
theorem ml_8207 : Cond.methodLink RX8 207 yX8_isNearer ∈ GW := gt4 64 rfl rfl
set_option maxRecDepth 100000 in
theorem ml_8172 : Cond.methodLink RX8 172 yX8_tradeAll ∈ GW := gt4 67 rfl rfl
set_option maxRecDepth 100000 in
theorem ml_8183 : Cond.methodLink RX8 183 yX8_firstAt ∈ GW := gt4 71 rfl rfl
set_option maxRecDepth 100000 in
theorem ml_8187 : Cond.methodLink RX8 187 yX8_comesBefore ∈ GW := gt4 75 rfl rfl
set_option maxRecDepth 100000 in
theorem ml_8191 : Cond.methodLink RX8 191 yX10_isBetter ∈ GW := gt4 79 rfl rfl
set_option maxRecDepth 100000 in
theorem ml_8179 : Cond.methodLink RX8 179 yX6_openBook ∈ GW := gt4 80 rfl rfl
set_option maxRecDepth 100000 in
theorem ml_5174 : Cond.methodLink RX5 174 yX5_work ∈ GW := gt4 84 rfl rfl
set_option maxRecDepth 100000 in
theorem ml_5228 : Cond.methodLink RX5 228 yX6_dueStop ∈ GW := gt4 89 rfl rfl
set_option maxRecDepth 100000 in
theorem ml_6182 : Cond.methodLink RX6 182 yX10_isDue ∈ GW := gt4 93 rfl rfl
set_option maxRecDepth 100000 in
theorem ml_5232 : Cond.methodLink RX5 232 yX7_latestOf ∈ GW := gt4 97 rfl rfl
set_option maxRecDepth 100000 in
theorem ml_7053 : Cond.methodLink RX7 53 yJ9_max_7cf53 ∈ GW := gt4 101 rfl rfl
set_option maxRecDepth 100000 in
theorem ml_7059 : Cond.methodLink RX7 59 yX7_find ∈ GW := gt4 104 rfl rfl
set_option maxRecDepth 100000 in
theorem ml_5239 : Cond.methodLink RX5 239 yX3_makePair ∈ GW := gt4 109 rfl rfl
set_option maxRecDepth 100000 in
theorem ml_3017 : Cond.methodLink RX3 17 yX6_bookAt ∈ GW := gt4 113 rfl rfl
set_option maxRecDepth 100000 in
theorem ml_3036 : Cond.methodLink RX3 36 yX6_firstOf ∈ GW := gt4 114 rfl rfl
set_option maxRecDepth 100000 in
theorem ml_6083 : Cond.methodLink RX6 83 yX6_bestPrice ∈ GW := gt4 118 rfl rfl
set_option maxRecDepth 100000 in
theorem ml_3045 : Cond.methodLink RX3 45 yX3_isBarred ∈ GW := gt4 119 rfl rfl
set_option maxRecDepth 100000 in
theorem ml_3066 : Cond.methodLink RX3 66 yX1_hasPrice ∈ GW := gt4 122 rfl rfl
set_option maxRecDepth 100000 in
theorem ml_3070 : Cond.methodLink RX3 70 yX1_isBeyondBand ∈ GW := gt4 126 rfl rfl
set_option maxRecDepth 100000 in
theorem ml_3052 : Cond.methodLink RX3 52 yJ9_min_7cf53 ∈ GW := gt4 127 rfl rfl
set_option maxRecDepth 100000 in
theorem ml_3058 : Cond.methodLink RX3 58 yX3_record ∈ GW := gt4 128 rfl rfl
set_option maxRecDepth 100000 in
theorem ml_3085 : Cond.methodLink RX3 85 yX7_record ∈ GW := gt4 132 rfl rfl
set_option maxRecDepth 100000 in
theorem ml_3062 : Cond.methodLink RX3 62 yX3_fallTogether ∈ GW := gt4 133 rfl rfl
set_option maxRecDepth 100000 in
theorem ml_3090 : Cond.methodLink RX3 90 yX10_fall ∈ GW := gt4 137 rfl rfl
set_option maxRecDepth 100000 in
theorem ml_3094 : Cond.methodLink RX3 94 yX6_guard ∈ GW := gt4 138 rfl rfl
set_option maxRecDepth 100000 in
theorem ml_3098 : Cond.methodLink RX3 98 yX6_showAnew ∈ GW := gt4 139 rfl rfl
set_option maxRecDepth 100000 in
theorem ml_5243 : Cond.methodLink RX5 243 yX3_makeChain ∈ GW := gt4 140 rfl rfl
set_option maxRecDepth 100000 in
theorem ml_5247 : Cond.methodLink RX5 247 yX6_pricePegs ∈ GW := gt4 144 rfl rfl
set_option maxRecDepth 100000 in
theorem ml_6194 : Cond.methodLink RX6 194 yX6_nextPeg ∈ GW := gt4 148 rfl rfl
set_option maxRecDepth 100000 in
theorem ml_6197 : Cond.methodLink RX6 197 yX6_pegPrice ∈ GW := gt4 152 rfl rfl
set_option maxRecDepth 100000 in
theorem ml_6208 : Cond.methodLink RX6 208 yJ9_min_7cf53 ∈ GW := gt4 156 rfl rfl
set_option maxRecDepth 100000 in
theorem ml_6212 : Cond.methodLink RX6 212 yJ9_max_7cf53 ∈ GW := gt4 157 rfl rfl
set_option maxRecDepth 100000 in
theorem ml_6215 : Cond.methodLink RX6 215 yX1_hasPrice ∈ GW := gt4 158 rfl rfl
set_option maxRecDepth 100000 in
theorem ml_6201 : Cond.methodLink RX6 201 yX6_movePeg ∈ GW := gt4 159 rfl rfl
set_option maxRecDepth 100000 in
theorem ml_6191 : Cond.methodLink RX6 191 yX10_hold ∈ GW := gt4 163 rfl rfl
set_option maxRecDepth 100000 in
theorem ml_11318 : Cond.methodLink RX11 318 yX6_turnDay ∈ GW := gt4 167 rfl rfl
set_option maxRecDepth 100000 in
theorem ml_11321 : Cond.methodLink RX11 321 yX5_undo ∈ GW := gt4 171 rfl rfl
set_option maxRecDepth 100000 in
theorem ml_5177 : Cond.methodLink RX5 177 yX7_reverse ∈ GW := gt4 175 rfl rfl
set_option maxRecDepth 100000 in
theorem ml_7071 : Cond.methodLink RX7 71 yX7_latestOf ∈ GW := gt4 179 rfl rfl
set_option maxRecDepth 100000 in
theorem ml_5181 : Cond.methodLink RX5 181 yX7_find ∈ GW := gt4 180 rfl rfl
set_option maxRecDepth 100000 in
theorem ml_5188 : Cond.methodLink RX5 188 yX6_holdStops ∈ GW := gt4 181 rfl rfl
set_option maxRecDepth 100000 in
theorem ml_11324 : Cond.methodLink RX11 324 yX7_reprice ∈ GW := gt4 185 rfl rfl
set_option maxRecDepth 100000 in
theorem ml_11327 : Cond.methodLink RX11 327 yX7_replaceSide ∈ GW := gt4 189 rfl rfl
set_option maxRecDepth 100000 in
theorem ml_7095 : Cond.methodLink RX7 95 yX7_accountAt ∈ GW := gt4 193 rfl rfl
set_option maxRecDepth 100000 in
theorem ml_11331 : Cond.methodLink RX11 331 yX7_allotLots ∈ GW := gt4 194 rfl rfl
set_option maxRecDepth 100000 in
theorem ml_7115 : Cond.methodLink RX7 115 yX7_averageOf ∈ GW := gt4 198 rfl rfl
set_option maxRecDepth 100000 in
theorem ml_7102 : Cond.methodLink RX7 102 yX4_counts ∈ GW := gt4 202 rfl rfl
set_option maxRecDepth 100000 in
theorem ml_7107 : Cond.methodLink RX7 107 yJ9_floorDiv_f86c9 ∈ GW := gt4 206 rfl rfl
set_option maxRecDepth 100000 in
theorem ml_7111 : Cond.methodLink RX7 111 yX0_holds ∈ GW := gt4 209 rfl rfl
set_option maxRecDepth 100000 in
theorem ml_7119 : Cond.methodLink RX7 119 yX0_put ∈ GW := gt4 213 rfl rfl
set_option maxRecDepth 100000 in
theorem ml_11335 : Cond.methodLink RX11 335 yX7_exerciseLots ∈ GW := gt4 217 rfl rfl
set_option maxRecDepth 100000 in
theorem ml_7125 : Cond.methodLink RX7 125 yJ9_floorMod_7cf53 ∈ GW := gt4 222 rfl rfl
set_option maxRecDepth 100000 in
theorem ml_7128 : Cond.methodLink RX7 128 yX7_assign ∈ GW := gt4 225 rfl rfl
set_option maxRecDepth 100000 in
theorem ml_11338 : Cond.methodLink RX11 338 yX5_convertContract ∈ GW := gt4 229 rfl rfl
set_option maxRecDepth 100000 in
theorem ml_5192 : Cond.methodLink RX5 192 yX6_withdrawContract ∈ GW := gt4 233 rfl rfl
set_option maxRecDepth 100000 in
theorem ml_6134 : Cond.methodLink RX6 134 yX1_hasContract ∈ GW := gt4 237 rfl rfl
set_option maxRecDepth 100000 in
theorem ml_5195 : Cond.methodLink RX5 195 yX7_forget ∈ GW := gt5 1 rfl rfl
set_option maxRecDepth 100000 in
theorem ml_7144 : Cond.methodLink RX7 144 yX1_hasContract ∈ GW := gt5 5 rfl rfl
set_option maxRecDepth 100000 in
theorem ml_5201 : Cond.methodLink RX5 201 yX5_convertPrice ∈ GW := gt5 6 rfl rfl
set_option maxRecDepth 100000 in
theorem ml_5212 : Cond.methodLink RX5 212 yJ9_min_7cf53 ∈ GW := gt5 9 rfl rfl
set_option maxRecDepth 100000 in
theorem ml_5218 : Cond.methodLink RX5 218 yJ9_max_7cf53 ∈ GW := gt5 10 rfl rfl
set_option maxRecDepth 100000 in
theorem ml_5208 : Cond.methodLink RX5 208 yX7_convertPositions ∈ GW := gt5 11 rfl rfl
set_option maxRecDepth 100000 in
theorem ml_7131 : Cond.methodLink RX7 131 yX7_scaled ∈ GW := gt5 15 rfl rfl
set_option maxRecDepth 100000 in
theorem ml_7141 : Cond.methodLink RX7 141 yJ9_floorDiv_b2ac5 ∈ GW := gt5 18 rfl rfl
set_option maxRecDepth 100000 in
theorem ml_14143 : Cond.methodLink RJ9 143 yJ9_floorDiv_f86c9 ∈ GW := gt5 21 rfl rfl
set_option maxRecDepth 100000 in
theorem ml_11341 : Cond.methodLink RX11 341 yX2_changeMove ∈ GW := gt5 22 rfl rfl
set_option maxRecDepth 100000 in
theorem ml_2086 : Cond.methodLink RX2 86 yX2_moveOf ∈ GW := gt5 26 rfl rfl
set_option maxRecDepth 100000 in
theorem ml_11344 : Cond.methodLink RX11 344 yX2_changeHaircut ∈ GW := gt5 30 rfl rfl
set_option maxRecDepth 100000 in
theorem ml_11347 : Cond.methodLink RX11 347 yX2_bring ∈ GW := gt5 34 rfl rfl
set_option maxRecDepth 100000 in
theorem ml_2051 : Cond.methodLink RX2 51 yX2_memberAt ∈ GW := gt5 38 rfl rfl
set_option maxRecDepth 100000 in
theorem ml_2069 : Cond.methodLink RX2 69 yX2_callOf ∈ GW := gt5 42 rfl rfl
set_option maxRecDepth 100000 in
theorem ml_2107 : Cond.methodLink RX2 107 yX6_bookAt ∈ GW := gt5 46 rfl rfl
set_option maxRecDepth 100000 in
theorem ml_2133 : Cond.methodLink RX2 133 yJ9_floorDiv_f86c9 ∈ GW := gt5 48 rfl rfl
set_option maxRecDepth 100000 in
theorem ml_2058 : Cond.methodLink RX2 58 yX2_riskOf ∈ GW := gt5 49 rfl rfl
set_option maxRecDepth 100000 in
theorem ml_2090 : Cond.methodLink RX2 90 yX2_netOf ∈ GW := gt5 53 rfl rfl
set_option maxRecDepth 100000 in
theorem ml_2045 : Cond.methodLink RX2 45 yX7_accountAt ∈ GW := gt5 57 rfl rfl
set_option maxRecDepth 100000 in
theorem ml_2080 : Cond.methodLink RX2 80 yX0_holds ∈ GW := gt5 58 rfl rfl
set_option maxRecDepth 100000 in
theorem ml_2093 : Cond.methodLink RX2 93 yJ9_max_f86c9 ∈ GW := gt5 59 rfl rfl
set_option maxRecDepth 100000 in
theorem ml_2101 : Cond.methodLink RX2 101 yJ9_abs_067f4 ∈ GW := gt5 63 rfl rfl
set_option maxRecDepth 100000 in
theorem ml_2062 : Cond.methodLink RX2 62 yX2_valueOf ∈ GW := gt5 67 rfl rfl
set_option maxRecDepth 100000 in
theorem ml_2118 : Cond.methodLink RX2 118 yX2_lowerOf ∈ GW := gt5 71 rfl rfl
set_option maxRecDepth 100000 in
theorem ml_2125 : Cond.methodLink RX2 125 yX2_upperOf ∈ GW := gt5 75 rfl rfl
set_option maxRecDepth 100000 in
theorem ml_2128 : Cond.methodLink RX2 128 yX2_worthOf ∈ GW := gt5 79 rfl rfl
set_option maxRecDepth 100000 in
theorem ml_11350 : Cond.methodLink RX11 350 yX2_changeFund ∈ GW := gt5 83 rfl rfl
set_option maxRecDepth 100000 in
theorem ml_11353 : Cond.methodLink RX11 353 yX5_failMember ∈ GW := gt5 87 rfl rfl
set_option maxRecDepth 100000 in
theorem ml_5221 : Cond.methodLink RX5 221 yX2_fall ∈ GW := gt5 91 rfl rfl
set_option maxRecDepth 100000 in
theorem ml_5224 : Cond.methodLink RX5 224 yX6_withdrawMember ∈ GW := gt5 95 rfl rfl
set_option maxRecDepth 100000 in
theorem ml_11356 : Cond.methodLink RX11 356 yX2_takeBid ∈ GW := gt5 99 rfl rfl
set_option maxRecDepth 100000 in
theorem ml_11359 : Cond.methodLink RX11 359 yX2_closePortfolio ∈ GW := gt5 103 rfl rfl
set_option maxRecDepth 100000 in
theorem ml_2142 : Cond.methodLink RX2 142 yX2_highestBidder ∈ GW := gt5 107 rfl rfl
set_option maxRecDepth 100000 in
theorem ml_2146 : Cond.methodLink RX2 146 yX2_handOver ∈ GW := gt5 111 rfl rfl
set_option maxRecDepth 100000 in
theorem ml_2159 : Cond.methodLink RX2 159 yX0_put ∈ GW := gt5 115 rfl rfl
set_option maxRecDepth 100000 in
theorem ml_2150 : Cond.methodLink RX2 150 yX2_cover ∈ GW := gt5 116 rfl rfl
set_option maxRecDepth 100000 in
theorem ml_2169 : Cond.methodLink RX2 169 yX2_give ∈ GW := gt5 120 rfl rfl
set_option maxRecDepth 100000 in
theorem ml_2180 : Cond.methodLink RX2 180 yJ9_min_f86c9 ∈ GW := gt5 124 rfl rfl
set_option maxRecDepth 100000 in
theorem ml_2173 : Cond.methodLink RX2 173 yX2_sellUnits ∈ GW := gt5 127 rfl rfl
set_option maxRecDepth 100000 in
theorem ml_2177 : Cond.methodLink RX2 177 yX2_shareLayer ∈ GW := gt5 131 rfl rfl
set_option maxRecDepth 100000 in
theorem ml_2183 : Cond.methodLink RX2 183 yX2_givesIn ∈ GW := gt5 135 rfl rfl
set_option maxRecDepth 100000 in
theorem ml_2190 : Cond.methodLink RX2 190 yX2_shareLoss ∈ GW := gt5 139 rfl rfl
set_option maxRecDepth 100000 in
theorem ml_2153 : Cond.methodLink RX2 153 yX9_forgetBid ∈ GW := gt5 143 rfl rfl
set_option maxRecDepth 100000 in
theorem ml_11362 : Cond.methodLink RX11 362 yX5_work ∈ GW := gt5 144 rfl rfl
set_option maxRecDepth 100000 in
theorem ml_13255 : Cond.methodLink RL 255 yX11_events ∈ GW := gt5 145 rfl rfl
set_option maxRecDepth 100000 in
theorem ml_13272 : Cond.methodLink RL 272 yX11_stateOf ∈ GW := gt5 149 rfl rfl
set_option maxRecDepth 100000 in
theorem ml_11091 : Cond.methodLink RX11 91 yX6_find ∈ GW := gt5 153 rfl rfl
set_option maxRecDepth 100000 in
theorem ml_13291 : Cond.methodLink RL 291 yX11_trades ∈ GW := gt5 154 rfl rfl
set_option maxRecDepth 100000 in
theorem ml_13310 : Cond.methodLink RL 310 yX11_stake ∈ GW := gt5 158 rfl rfl
set_option maxRecDepth 100000 in
theorem ml_13153 : Cond.methodLink RL 153 yL_limit ∈ GW := gt5 162 rfl rfl
set_option maxRecDepth 100000 in
theorem ml_13007 : Cond.methodLink RL 7 yX11_limit ∈ GW := gt5 168 rfl rfl
set_option maxRecDepth 100000 in
theorem ml_11023 : Cond.methodLink RX11 23 yX11_isTrader ∈ GW := gt5 172 rfl rfl
set_option maxRecDepth 100000 in
theorem ml_11059 : Cond.methodLink RX11 59 yX11_isWithin ∈ GW := gt5 175 rfl rfl
set_option maxRecDepth 100000 in
theorem ml_11027 : Cond.methodLink RX11 27 yX11_isBook ∈ GW := gt5 178 rfl rfl
set_option maxRecDepth 100000 in
theorem ml_11030 : Cond.methodLink RX11 30 yX11_needPlace ∈ GW := gt5 181 rfl rfl
set_option maxRecDepth 100000 in
theorem ml_11044 : Cond.methodLink RX11 44 yX1_hasPrice ∈ GW := gt6 12 rfl rfl
set_option maxRecDepth 100000 in
theorem ml_11049 : Cond.methodLink RX11 49 yX11_isQuantity ∈ GW := gt6 13 rfl rfl
set_option maxRecDepth 100000 in
theorem ml_11052 : Cond.methodLink RX11 52 yJ9_abs_0f7a4 ∈ GW := gt6 16 rfl rfl
set_option maxRecDepth 100000 in
theorem ml_11063 : Cond.methodLink RX11 63 yX11_needRange ∈ GW := gt6 18 rfl rfl
set_option maxRecDepth 100000 in
theorem ml_11070 : Cond.methodLink RX11 70 yX5_admits ∈ GW := gt6 37 rfl rfl
set_option maxRecDepth 100000 in
theorem ml_5073 : Cond.methodLink RX5 73 yX2_memberAt ∈ GW := gt6 41 rfl rfl
set_option maxRecDepth 100000 in
theorem ml_5083 : Cond.methodLink RX5 83 yX6_countLive ∈ GW := gt6 42 rfl rfl
set_option maxRecDepth 100000 in
theorem ml_5091 : Cond.methodLink RX5 91 yX6_refuses ∈ GW := gt6 46 rfl rfl
set_option maxRecDepth 100000 in
theorem ml_6087 : Cond.methodLink RX6 87 yJ9_abs_0f7a4 ∈ GW := gt6 50 rfl rfl
set_option maxRecDepth 100000 in
theorem ml_6096 : Cond.methodLink RX6 96 yX6_reach ∈ GW := gt6 51 rfl rfl
set_option maxRecDepth 100000 in
theorem ml_6112 : Cond.methodLink RX6 112 yX0_holds ∈ GW := gt6 55 rfl rfl
set_option maxRecDepth 100000 in
theorem ml_6119 : Cond.methodLink RX6 119 yX10_addsTo ∈ GW := gt6 56 rfl rfl
set_option maxRecDepth 100000 in
theorem ml_6100 : Cond.methodLink RX6 100 yX0_limitOf ∈ GW := gt6 60 rfl rfl
set_option maxRecDepth 100000 in
theorem ml_6105 : Cond.methodLink RX6 105 yX1_isSpread ∈ GW := gt6 61 rfl rfl
set_option maxRecDepth 100000 in
theorem ml_11073 : Cond.methodLink RX11 73 yX11_needState ∈ GW := gt6 62 rfl rfl
set_option maxRecDepth 100000 in
theorem ml_11076 : Cond.methodLink RX11 76 yX11_enter ∈ GW := gt6 81 rfl rfl
set_option maxRecDepth 100000 in
theorem ml_13162 : Cond.methodLink RL 162 yL_market ∈ GW := gt6 85 rfl rfl
set_option maxRecDepth 100000 in
theorem ml_13019 : Cond.methodLink RL 19 yX11_market ∈ GW := gt6 88 rfl rfl
set_option maxRecDepth 100000 in
theorem ml_13166 : Cond.methodLink RL 166 yL_iceberg ∈ GW := gt6 92 rfl rfl
set_option maxRecDepth 100000 in
theorem ml_13023 : Cond.methodLink RL 23 yX11_iceberg ∈ GW := gt6 95 rfl rfl
set_option maxRecDepth 100000 in
theorem ml_13170 : Cond.methodLink RL 170 yL_peg ∈ GW := gt6 99 rfl rfl
set_option maxRecDepth 100000 in
theorem ml_13027 : Cond.methodLink RL 27 yX11_peg ∈ GW := gt6 102 rfl rfl
set_option maxRecDepth 100000 in
theorem ml_13173 : Cond.methodLink RL 173 yL_stop ∈ GW := gt6 106 rfl rfl
set_option maxRecDepth 100000 in
theorem ml_13030 : Cond.methodLink RL 30 yX11_stop ∈ GW := gt6 109 rfl rfl
set_option maxRecDepth 100000 in
theorem ml_11084 : Cond.methodLink RX11 84 yX11_isContract ∈ GW := gt6 113 rfl rfl
set_option maxRecDepth 100000 in
theorem ml_13176 : Cond.methodLink RL 176 yL_quote ∈ GW := gt6 116 rfl rfl
set_option maxRecDepth 100000 in
theorem ml_13033 : Cond.methodLink RL 33 yX11_quote ∈ GW := gt6 119 rfl rfl
set_option maxRecDepth 100000 in
theorem ml_11087 : Cond.methodLink RX11 87 yX6_countLive ∈ GW := gt6 123 rfl rfl
set_option maxRecDepth 100000 in
theorem ml_13179 : Cond.methodLink RL 179 yL_cancel ∈ GW := gt6 124 rfl rfl
set_option maxRecDepth 100000 in
theorem ml_13036 : Cond.methodLink RL 36 yX11_cancel ∈ GW := gt6 127 rfl rfl
set_option maxRecDepth 100000 in
theorem ml_11112 : Cond.methodLink RX11 112 yX1_isFrozen ∈ GW := gt6 132 rfl rfl
set_option maxRecDepth 100000 in
theorem ml_13183 : Cond.methodLink RL 183 yL_setRule ∈ GW := gt6 136 rfl rfl
set_option maxRecDepth 100000 in
theorem ml_13040 : Cond.methodLink RL 40 yX11_setRule ∈ GW := gt6 139 rfl rfl
set_option maxRecDepth 100000 in
theorem ml_13187 : Cond.methodLink RL 187 yL_setBand ∈ GW := gt6 143 rfl rfl
set_option maxRecDepth 100000 in
theorem ml_13044 : Cond.methodLink RL 44 yX11_setBand ∈ GW := gt6 146 rfl rfl
set_option maxRecDepth 100000 in
theorem ml_13191 : Cond.methodLink RL 191 yL_setProtection ∈ GW := gt6 150 rfl rfl
set_option maxRecDepth 100000 in
theorem ml_13048 : Cond.methodLink RL 48 yX11_setProtection ∈ GW := gt6 153 rfl rfl
set_option maxRecDepth 100000 in
theorem ml_13194 : Cond.methodLink RL 194 yL_setLimit ∈ GW := gt6 157 rfl rfl
set_option maxRecDepth 100000 in
theorem ml_13051 : Cond.methodLink RL 51 yX11_setLimit ∈ GW := gt6 160 rfl rfl
set_option maxRecDepth 100000 in
theorem ml_13197 : Cond.methodLink RL 197 yL_auction ∈ GW := gt6 164 rfl rfl
set_option maxRecDepth 100000 in
theorem ml_13054 : Cond.methodLink RL 54 yX11_auction ∈ GW := gt6 167 rfl rfl
set_option maxRecDepth 100000 in
theorem ml_13200 : Cond.methodLink RL 200 yL_pass ∈ GW := gt6 171 rfl rfl
set_option maxRecDepth 100000 in
theorem ml_13057 : Cond.methodLink RL 57 yX11_pass ∈ GW := gt6 174 rfl rfl
set_option maxRecDepth 100000 in
theorem ml_13203 : Cond.methodLink RL 203 yL_endDay ∈ GW := gt6 178 rfl rfl
set_option maxRecDepth 100000 in
theorem ml_13060 : Cond.methodLink RL 60 yX11_endDay ∈ GW := gt6 181 rfl rfl
set_option maxRecDepth 100000 in
theorem ml_11115 : Cond.methodLink RX11 115 yX6_hasAuction ∈ GW := gt6 185 rfl rfl
set_option maxRecDepth 100000 in
theorem ml_13207 : Cond.methodLink RL 207 yL_bust ∈ GW := gt6 189 rfl rfl
set_option maxRecDepth 100000 in
theorem ml_13064 : Cond.methodLink RL 64 yX11_bust ∈ GW := gt6 192 rfl rfl
set_option maxRecDepth 100000 in
theorem ml_11119 : Cond.methodLink RX11 119 yX11_keptDeal ∈ GW := gt6 196 rfl rfl
set_option maxRecDepth 100000 in
theorem ml_11270 : Cond.methodLink RX11 270 yX7_find ∈ GW := gt6 200 rfl rfl
set_option maxRecDepth 100000 in
theorem ml_13210 : Cond.methodLink RL 210 yL_adjust ∈ GW := gt6 202 rfl rfl
set_option maxRecDepth 100000 in
theorem ml_13067 : Cond.methodLink RL 67 yX11_adjust ∈ GW := gt6 205 rfl rfl
set_option maxRecDepth 100000 in
theorem ml_13213 : Cond.methodLink RL 213 yL_giveUp ∈ GW := gt6 209 rfl rfl
set_option maxRecDepth 100000 in
theorem ml_13070 : Cond.methodLink RL 70 yX11_giveUp ∈ GW := gt6 212 rfl rfl
set_option maxRecDepth 100000 in
theorem ml_13217 : Cond.methodLink RL 217 yL_allot ∈ GW := gt6 216 rfl rfl
set_option maxRecDepth 100000 in
theorem ml_13074 : Cond.methodLink RL 74 yX11_allot ∈ GW := gt6 219 rfl rfl
set_option maxRecDepth 100000 in
theorem ml_11145 : Cond.methodLink RX11 145 yX7_canAllot ∈ GW := gt6 223 rfl rfl
set_option maxRecDepth 100000 in
theorem ml_13220 : Cond.methodLink RL 220 yL_exercise ∈ GW := gt6 227 rfl rfl
set_option maxRecDepth 100000 in
theorem ml_13077 : Cond.methodLink RL 77 yX11_exercise ∈ GW := gt6 230 rfl rfl
set_option maxRecDepth 100000 in
theorem ml_11154 : Cond.methodLink RX11 154 yX0_holds ∈ GW := gt6 234 rfl rfl
set_option maxRecDepth 100000 in
theorem ml_13223 : Cond.methodLink RL 223 yL_convert ∈ GW := gt6 235 rfl rfl
set_option maxRecDepth 100000 in
theorem ml_13080 : Cond.methodLink RL 80 yX11_convert ∈ GW := gt6 238 rfl rfl
set_option maxRecDepth 100000 in
theorem ml_11157 : Cond.methodLink RX11 157 yX7_canConvert ∈ GW := gt7 2 rfl rfl
set_option maxRecDepth 100000 in
theorem ml_7135 : Cond.methodLink RX7 135 yJ9_abs_067f4 ∈ GW := gt7 6 rfl rfl
set_option maxRecDepth 100000 in
theorem ml_13226 : Cond.methodLink RL 226 yL_setMove ∈ GW := gt7 8 rfl rfl
set_option maxRecDepth 100000 in
theorem ml_13083 : Cond.methodLink RL 83 yX11_setMove ∈ GW := gt7 11 rfl rfl
set_option maxRecDepth 100000 in
theorem ml_13229 : Cond.methodLink RL 229 yL_setHaircut ∈ GW := gt7 15 rfl rfl
set_option maxRecDepth 100000 in
theorem ml_13086 : Cond.methodLink RL 86 yX11_setHaircut ∈ GW := gt7 18 rfl rfl
set_option maxRecDepth 100000 in
theorem ml_13232 : Cond.methodLink RL 232 yL_pay ∈ GW := gt7 22 rfl rfl
set_option maxRecDepth 100000 in
theorem ml_13089 : Cond.methodLink RL 89 yX11_pay ∈ GW := gt7 25 rfl rfl
set_option maxRecDepth 100000 in
theorem ml_11160 : Cond.methodLink RX11 160 yX11_isMember ∈ GW := gt7 29 rfl rfl
set_option maxRecDepth 100000 in
theorem ml_11167 : Cond.methodLink RX11 167 yX2_canPay ∈ GW := gt7 32 rfl rfl
set_option maxRecDepth 100000 in
theorem ml_13235 : Cond.methodLink RL 235 yL_setFund ∈ GW := gt7 36 rfl rfl
set_option maxRecDepth 100000 in
theorem ml_13092 : Cond.methodLink RL 92 yX11_setFund ∈ GW := gt7 39 rfl rfl
set_option maxRecDepth 100000 in
theorem ml_11172 : Cond.methodLink RX11 172 yX2_memberAt ∈ GW := gt7 43 rfl rfl
set_option maxRecDepth 100000 in
theorem ml_13238 : Cond.methodLink RL 238 yL_fail ∈ GW := gt7 44 rfl rfl
set_option maxRecDepth 100000 in
theorem ml_13095 : Cond.methodLink RL 95 yX11_fail ∈ GW := gt7 47 rfl rfl
set_option maxRecDepth 100000 in
theorem ml_11181 : Cond.methodLink RX11 181 yX2_canFail ∈ GW := gt7 51 rfl rfl
set_option maxRecDepth 100000 in
theorem ml_13241 : Cond.methodLink RL 241 yL_bid ∈ GW := gt7 55 rfl rfl
set_option maxRecDepth 100000 in
theorem ml_13098 : Cond.methodLink RL 98 yX11_bid ∈ GW := gt7 58 rfl rfl
set_option maxRecDepth 100000 in
theorem ml_13244 : Cond.methodLink RL 244 yL_closeOut ∈ GW := gt7 62 rfl rfl
set_option maxRecDepth 100000 in
theorem ml_13101 : Cond.methodLink RL 101 yX11_closeOut ∈ GW := gt7 65 rfl rfl
set_option maxRecDepth 100000 in
theorem ml_13259 : Cond.methodLink RL 259 yL_positionByLog ∈ GW := gt7 69 rfl rfl
set_option maxRecDepth 100000 in
theorem ml_13104 : Cond.methodLink RL 104 yX11_positionByLog ∈ GW := gt7 72 rfl rfl
set_option maxRecDepth 100000 in
theorem ml_13262 : Cond.methodLink RL 262 yL_bestByLog ∈ GW := gt7 76 rfl rfl
set_option maxRecDepth 100000 in
theorem ml_13107 : Cond.methodLink RL 107 yX11_bestByLog ∈ GW := gt7 79 rfl rfl
set_option maxRecDepth 100000 in
theorem ml_11199 : Cond.methodLink RX11 199 yX6_bestPrice ∈ GW := gt7 83 rfl rfl
set_option maxRecDepth 100000 in
theorem ml_13266 : Cond.methodLink RL 266 yL_best ∈ GW := gt7 84 rfl rfl
set_option maxRecDepth 100000 in
theorem ml_13111 : Cond.methodLink RL 111 yX11_best ∈ GW := gt7 87 rfl rfl
set_option maxRecDepth 100000 in
theorem ml_13269 : Cond.methodLink RL 269 yL_shown ∈ GW := gt7 91 rfl rfl
set_option maxRecDepth 100000 in
theorem ml_13114 : Cond.methodLink RL 114 yX11_shown ∈ GW := gt7 94 rfl rfl
set_option maxRecDepth 100000 in
theorem ml_11203 : Cond.methodLink RX11 203 yX6_sumShown ∈ GW := gt7 98 rfl rfl
set_option maxRecDepth 100000 in
theorem ml_13276 : Cond.methodLink RL 276 yL_rest ∈ GW := gt7 102 rfl rfl
set_option maxRecDepth 100000 in
theorem ml_13117 : Cond.methodLink RL 117 yX11_rest ∈ GW := gt7 105 rfl rfl
set_option maxRecDepth 100000 in
theorem ml_13279 : Cond.methodLink RL 279 yL_priceOf ∈ GW := gt7 109 rfl rfl
set_option maxRecDepth 100000 in
theorem ml_13120 : Cond.methodLink RL 120 yX11_priceOf ∈ GW := gt7 112 rfl rfl
set_option maxRecDepth 100000 in
theorem ml_13282 : Cond.methodLink RL 282 yL_last ∈ GW := gt7 116 rfl rfl
set_option maxRecDepth 100000 in
theorem ml_13123 : Cond.methodLink RL 123 yX11_last ∈ GW := gt7 119 rfl rfl
set_option maxRecDepth 100000 in
theorem ml_13285 : Cond.methodLink RL 285 yL_endOf ∈ GW := gt7 123 rfl rfl
set_option maxRecDepth 100000 in
theorem ml_13126 : Cond.methodLink RL 126 yX11_endOf ∈ GW := gt7 126 rfl rfl
set_option maxRecDepth 100000 in
theorem ml_13288 : Cond.methodLink RL 288 yL_indicated ∈ GW := gt7 130 rfl rfl
set_option maxRecDepth 100000 in
theorem ml_13129 : Cond.methodLink RL 129 yX11_indicated ∈ GW := gt7 133 rfl rfl
set_option maxRecDepth 100000 in
theorem ml_11229 : Cond.methodLink RX11 229 yX8_findPrice ∈ GW := gt7 137 rfl rfl
set_option maxRecDepth 100000 in
theorem ml_11235 : Cond.methodLink RX11 235 yX8_volumeAt ∈ GW := gt7 138 rfl rfl
set_option maxRecDepth 100000 in
theorem ml_13295 : Cond.methodLink RL 295 yL_trade ∈ GW := gt7 139 rfl rfl
set_option maxRecDepth 100000 in
theorem ml_13132 : Cond.methodLink RL 132 yX11_trade ∈ GW := gt7 142 rfl rfl
set_option maxRecDepth 100000 in
theorem ml_11242 : Cond.methodLink RX11 242 yX4_tell ∈ GW := gt7 146 rfl rfl
set_option maxRecDepth 100000 in
theorem ml_13298 : Cond.methodLink RL 298 yL_position ∈ GW := gt7 150 rfl rfl
set_option maxRecDepth 100000 in
theorem ml_13135 : Cond.methodLink RL 135 yX11_position ∈ GW := gt7 153 rfl rfl
set_option maxRecDepth 100000 in
theorem ml_13301 : Cond.methodLink RL 301 yL_cash ∈ GW := gt7 157 rfl rfl
set_option maxRecDepth 100000 in
theorem ml_13138 : Cond.methodLink RL 138 yX11_cash ∈ GW := gt7 160 rfl rfl
set_option maxRecDepth 100000 in
theorem ml_13304 : Cond.methodLink RL 304 yL_quoted ∈ GW := gt7 164 rfl rfl
set_option maxRecDepth 100000 in
theorem ml_13142 : Cond.methodLink RL 142 yX11_quoted ∈ GW := gt7 167 rfl rfl
set_option maxRecDepth 100000 in
theorem ml_13307 : Cond.methodLink RL 307 yL_member ∈ GW := gt7 171 rfl rfl
set_option maxRecDepth 100000 in
theorem ml_13145 : Cond.methodLink RL 145 yX11_member ∈ GW := gt7 174 rfl rfl
set_option maxRecDepth 100000 in
theorem ml_11252 : Cond.methodLink RX11 252 yX2_tell ∈ GW := gt7 178 rfl rfl
set_option maxRecDepth 100000 in
theorem ml_13152 : Cond.methodLink RL 152 yX12_init ∈ GW := gt7 184 rfl rfl
set_option maxRecDepth 100000 in
theorem ml_12001 : Cond.methodLink RX12 1 objectInit ∈ GW := gt7 187 rfl rfl
set_option maxRecDepth 100000 in
theorem ml_12177 : Cond.methodLink RX12 177 yX12_resets ∈ GW := gt7 188 rfl rfl
set_option maxRecDepth 100000 in
theorem ml_13159 : Cond.methodLink RL 159 yX12_thrown ∈ GW := gt8 166 rfl rfl
set_option maxRecDepth 100000 in
theorem ml_13158 : Cond.methodLink RL 158 yX12_limit ∈ GW := gt8 170 rfl rfl
set_option maxRecDepth 100000 in
theorem ml_12594 : Cond.methodLink RX12 594 yX12_act ∈ GW := gt8 174 rfl rfl
set_option maxRecDepth 100000 in
theorem ml_12587 : Cond.methodLink RX12 587 yX12_does ∈ GW := gt8 178 rfl rfl
set_option maxRecDepth 100000 in
theorem ml_12509 : Cond.methodLink RX12 509 yX12_doLimit ∈ GW := gt8 182 rfl rfl
set_option maxRecDepth 100000 in
theorem ml_12429 : Cond.methodLink RX12 429 yX12_isAccount ∈ GW := gt8 186 rfl rfl
set_option maxRecDepth 100000 in
theorem ml_12209 : Cond.methodLink RX12 209 yX12_in ∈ GW := gt8 189 rfl rfl
set_option maxRecDepth 100000 in
theorem ml_12334 : Cond.methodLink RX12 334 yX12_isPrice ∈ GW := gt8 192 rfl rfl
set_option maxRecDepth 100000 in
theorem ml_12432 : Cond.methodLink RX12 432 yX12_isQuantity ∈ GW := gt8 195 rfl rfl
set_option maxRecDepth 100000 in
theorem ml_12213 : Cond.methodLink RX12 213 yX12_abs ∈ GW := gt8 199 rfl rfl
set_option maxRecDepth 100000 in
theorem ml_12435 : Cond.methodLink RX12 435 yX12_isShut ∈ GW := gt8 202 rfl rfl
set_option maxRecDepth 100000 in
theorem ml_12423 : Cond.methodLink RX12 423 yX12_live ∈ GW := gt8 206 rfl rfl
set_option maxRecDepth 100000 in
theorem ml_12426 : Cond.methodLink RX12 426 yX12_isRefused ∈ GW := gt8 210 rfl rfl
set_option maxRecDepth 100000 in
theorem ml_12224 : Cond.methodLink RX12 224 yX12_contractOf ∈ GW := gt8 214 rfl rfl
set_option maxRecDepth 100000 in
theorem ml_12232 : Cond.methodLink RX12 232 yX12_isOver ∈ GW := gt8 217 rfl rfl
set_option maxRecDepth 100000 in
theorem ml_12228 : Cond.methodLink RX12 228 yX12_restsOf ∈ GW := gt8 221 rfl rfl
set_option maxRecDepth 100000 in
theorem ml_12328 : Cond.methodLink RX12 328 yX12_isOpen ∈ GW := gt8 225 rfl rfl
set_option maxRecDepth 100000 in
theorem ml_12438 : Cond.methodLink RX12 438 yX12_isEnough ∈ GW := gt8 229 rfl rfl
set_option maxRecDepth 100000 in
theorem ml_12244 : Cond.methodLink RX12 244 yX12_isThere ∈ GW := gt8 233 rfl rfl
set_option maxRecDepth 100000 in
theorem ml_12248 : Cond.methodLink RX12 248 yX12_isBetter ∈ GW := gt8 237 rfl rfl
set_option maxRecDepth 100000 in
theorem ml_12305 : Cond.methodLink RX12 305 yX12_isNear ∈ GW := gt9 0 rfl rfl
set_option maxRecDepth 100000 in
theorem ml_12442 : Cond.methodLink RX12 442 yX12_newOrder ∈ GW := gt9 4 rfl rfl
set_option maxRecDepth 100000 in
theorem ml_12446 : Cond.methodLink RX12 446 yX12_enters ∈ GW := gt9 8 rfl rfl
set_option maxRecDepth 100000 in
theorem ml_12331 : Cond.methodLink RX12 331 yX12_matches ∈ GW := gt9 12 rfl rfl
set_option maxRecDepth 100000 in
theorem ml_12322 : Cond.methodLink RX12 322 yX12_looks ∈ GW := gt9 16 rfl rfl
set_option maxRecDepth 100000 in
theorem ml_12301 : Cond.methodLink RX12 301 yX12_bestOf ∈ GW := gt9 20 rfl rfl
set_option maxRecDepth 100000 in
theorem ml_12309 : Cond.methodLink RX12 309 yX12_beginsAuction ∈ GW := gt9 24 rfl rfl
set_option maxRecDepth 100000 in
theorem ml_12312 : Cond.methodLink RX12 312 yX12_hasOwn ∈ GW := gt9 28 rfl rfl
set_option maxRecDepth 100000 in
theorem ml_12251 : Cond.methodLink RX12 251 yX12_isAt ∈ GW := gt9 32 rfl rfl
set_option maxRecDepth 100000 in
theorem ml_12315 : Cond.methodLink RX12 315 yX12_removesOwn ∈ GW := gt9 36 rfl rfl
set_option maxRecDepth 100000 in
theorem ml_12319 : Cond.methodLink RX12 319 yX12_servesAll ∈ GW := gt9 40 rfl rfl
set_option maxRecDepth 100000 in
theorem ml_12280 : Cond.methodLink RX12 280 yX12_clearsGets ∈ GW := gt9 44 rfl rfl
set_option maxRecDepth 100000 in
theorem ml_12258 : Cond.methodLink RX12 258 yX12_showsNow ∈ GW := gt9 48 rfl rfl
set_option maxRecDepth 100000 in
theorem ml_12283 : Cond.methodLink RX12 283 yX12_sharesByTurns ∈ GW := gt9 52 rfl rfl
set_option maxRecDepth 100000 in
theorem ml_12254 : Cond.methodLink RX12 254 yX12_behindTurn ∈ GW := gt9 56 rfl rfl
set_option maxRecDepth 100000 in
theorem ml_12261 : Cond.methodLink RX12 261 yX12_least ∈ GW := gt9 60 rfl rfl
set_option maxRecDepth 100000 in
theorem ml_12287 : Cond.methodLink RX12 287 yX12_sharesBySize ∈ GW := gt9 64 rfl rfl
set_option maxRecDepth 100000 in
theorem ml_12265 : Cond.methodLink RX12 265 yX12_nextBySize ∈ GW := gt9 68 rfl rfl
set_option maxRecDepth 100000 in
theorem ml_12290 : Cond.methodLink RX12 290 yX12_sharesOut ∈ GW := gt9 72 rfl rfl
set_option maxRecDepth 100000 in
theorem ml_12293 : Cond.methodLink RX12 293 yX12_served ∈ GW := gt9 76 rfl rfl
set_option maxRecDepth 100000 in
theorem ml_12297 : Cond.methodLink RX12 297 yX12_tradesWith ∈ GW := gt9 80 rfl rfl
set_option maxRecDepth 100000 in
theorem ml_12269 : Cond.methodLink RX12 269 yX12_deals ∈ GW := gt9 84 rfl rfl
set_option maxRecDepth 100000 in
theorem ml_12236 : Cond.methodLink RX12 236 yX12_holds ∈ GW := gt9 88 rfl rfl
set_option maxRecDepth 100000 in
theorem ml_12273 : Cond.methodLink RX12 273 yX12_falls ∈ GW := gt9 92 rfl rfl
set_option maxRecDepth 100000 in
theorem ml_12217 : Cond.methodLink RX12 217 yX12_showsAnew ∈ GW := gt9 96 rfl rfl
set_option maxRecDepth 100000 in
theorem ml_12221 : Cond.methodLink RX12 221 yX12_newTurn ∈ GW := gt9 100 rfl rfl
set_option maxRecDepth 100000 in
theorem ml_12277 : Cond.methodLink RX12 277 yX12_guards ∈ GW := gt9 104 rfl rfl
set_option maxRecDepth 100000 in
theorem ml_12325 : Cond.methodLink RX12 325 yX12_comes ∈ GW := gt9 108 rfl rfl
set_option maxRecDepth 100000 in
theorem ml_12513 : Cond.methodLink RX12 513 yX12_doMarket ∈ GW := gt9 112 rfl rfl
set_option maxRecDepth 100000 in
theorem ml_12516 : Cond.methodLink RX12 516 yX12_doIceberg ∈ GW := gt9 116 rfl rfl
set_option maxRecDepth 100000 in
theorem ml_12520 : Cond.methodLink RX12 520 yX12_doPeg ∈ GW := gt9 120 rfl rfl
set_option maxRecDepth 100000 in
theorem ml_12523 : Cond.methodLink RX12 523 yX12_doStop ∈ GW := gt9 124 rfl rfl
set_option maxRecDepth 100000 in
theorem ml_12526 : Cond.methodLink RX12 526 yX12_doQuote ∈ GW := gt9 128 rfl rfl
set_option maxRecDepth 100000 in
theorem ml_12529 : Cond.methodLink RX12 529 yX12_doCancel ∈ GW := gt9 132 rfl rfl
set_option maxRecDepth 100000 in
theorem ml_12449 : Cond.methodLink RX12 449 yX12_placeOf ∈ GW := gt9 136 rfl rfl
set_option maxRecDepth 100000 in
theorem ml_12532 : Cond.methodLink RX12 532 yX12_doRule ∈ GW := gt9 140 rfl rfl
set_option maxRecDepth 100000 in
theorem ml_12536 : Cond.methodLink RX12 536 yX12_puts ∈ GW := gt9 144 rfl rfl
set_option maxRecDepth 100000 in
theorem ml_12540 : Cond.methodLink RX12 540 yX12_doAuction ∈ GW := gt9 148 rfl rfl
set_option maxRecDepth 100000 in
theorem ml_12543 : Cond.methodLink RX12 543 yX12_doPass ∈ GW := gt9 152 rfl rfl
set_option maxRecDepth 100000 in
theorem ml_12452 : Cond.methodLink RX12 452 yX12_passes ∈ GW := gt9 156 rfl rfl
set_option maxRecDepth 100000 in
theorem ml_12393 : Cond.methodLink RX12 393 yX12_hasQuote ∈ GW := gt9 160 rfl rfl
set_option maxRecDepth 100000 in
theorem ml_12396 : Cond.methodLink RX12 396 yX12_endsAuction ∈ GW := gt9 164 rfl rfl
set_option maxRecDepth 100000 in
theorem ml_12384 : Cond.methodLink RX12 384 yX12_finds ∈ GW := gt9 168 rfl rfl
set_option maxRecDepth 100000 in
theorem ml_12378 : Cond.methodLink RX12 378 yX12_wants ∈ GW := gt9 172 rfl rfl
set_option maxRecDepth 100000 in
theorem ml_12387 : Cond.methodLink RX12 387 yX12_tradesAll ∈ GW := gt9 176 rfl rfl
set_option maxRecDepth 100000 in
theorem ml_12381 : Cond.methodLink RX12 381 yX12_firstIn ∈ GW := gt9 180 rfl rfl
set_option maxRecDepth 100000 in
theorem ml_12390 : Cond.methodLink RX12 390 yX12_works ∈ GW := gt9 184 rfl rfl
set_option maxRecDepth 100000 in
theorem ml_12358 : Cond.methodLink RX12 358 yX12_readyStop ∈ GW := gt9 188 rfl rfl
set_option maxRecDepth 100000 in
theorem ml_12362 : Cond.methodLink RX12 362 yX12_latest ∈ GW := gt9 192 rfl rfl
set_option maxRecDepth 100000 in
theorem ml_12240 : Cond.methodLink RX12 240 yX12_isKept ∈ GW := gt9 196 rfl rfl
set_option maxRecDepth 100000 in
theorem ml_12365 : Cond.methodLink RX12 365 yX12_combines ∈ GW := gt9 200 rfl rfl
set_option maxRecDepth 100000 in
theorem ml_12347 : Cond.methodLink RX12 347 yX12_joins ∈ GW := gt9 204 rfl rfl
set_option maxRecDepth 100000 in
theorem ml_12337 : Cond.methodLink RX12 337 yX12_firstOf ∈ GW := gt9 208 rfl rfl
set_option maxRecDepth 100000 in
theorem ml_12340 : Cond.methodLink RX12 340 yX12_canDeal ∈ GW := gt9 212 rfl rfl
set_option maxRecDepth 100000 in
theorem ml_12344 : Cond.methodLink RX12 344 yX12_falls1 ∈ GW := gt9 216 rfl rfl
set_option maxRecDepth 100000 in
theorem ml_12351 : Cond.methodLink RX12 351 yX12_chains ∈ GW := gt9 220 rfl rfl
set_option maxRecDepth 100000 in
theorem ml_12369 : Cond.methodLink RX12 369 yX12_pegsAll ∈ GW := gt9 224 rfl rfl
set_option maxRecDepth 100000 in
theorem ml_12355 : Cond.methodLink RX12 355 yX12_pegs ∈ GW := gt9 228 rfl rfl
set_option maxRecDepth 100000 in
theorem ml_12546 : Cond.methodLink RX12 546 yX12_doEndDay ∈ GW := gt9 232 rfl rfl
set_option maxRecDepth 100000 in
theorem ml_12549 : Cond.methodLink RX12 549 yX12_doBust ∈ GW := gt9 236 rfl rfl
set_option maxRecDepth 100000 in
theorem ml_12455 : Cond.methodLink RX12 455 yX12_undoes ∈ GW := gt10 0 rfl rfl
set_option maxRecDepth 100000 in
theorem ml_12552 : Cond.methodLink RX12 552 yX12_doAdjust ∈ GW := gt10 4 rfl rfl
set_option maxRecDepth 100000 in
theorem ml_12555 : Cond.methodLink RX12 555 yX12_doGiveUp ∈ GW := gt10 8 rfl rfl
set_option maxRecDepth 100000 in
theorem ml_12558 : Cond.methodLink RX12 558 yX12_doesMore ∈ GW := gt10 12 rfl rfl
set_option maxRecDepth 100000 in
theorem ml_12562 : Cond.methodLink RX12 562 yX12_doAllot ∈ GW := gt10 16 rfl rfl
set_option maxRecDepth 100000 in
theorem ml_12458 : Cond.methodLink RX12 458 yX12_average ∈ GW := gt10 20 rfl rfl
set_option maxRecDepth 100000 in
theorem ml_12419 : Cond.methodLink RX12 419 yX12_floor ∈ GW := gt10 24 rfl rfl
set_option maxRecDepth 100000 in
theorem ml_12565 : Cond.methodLink RX12 565 yX12_doExercise ∈ GW := gt10 27 rfl rfl
set_option maxRecDepth 100000 in
theorem ml_12461 : Cond.methodLink RX12 461 yX12_drawn ∈ GW := gt10 31 rfl rfl
set_option maxRecDepth 100000 in
theorem ml_12568 : Cond.methodLink RX12 568 yX12_doConvert ∈ GW := gt10 35 rfl rfl
set_option maxRecDepth 100000 in
theorem ml_12468 : Cond.methodLink RX12 468 yX12_hasContract ∈ GW := gt10 41 rfl rfl
set_option maxRecDepth 100000 in
theorem ml_12471 : Cond.methodLink RX12 471 yX12_converted ∈ GW := gt10 44 rfl rfl
set_option maxRecDepth 100000 in
theorem ml_12571 : Cond.methodLink RX12 571 yX12_doPay ∈ GW := gt10 47 rfl rfl
set_option maxRecDepth 100000 in
theorem ml_12475 : Cond.methodLink RX12 475 yX12_call ∈ GW := gt10 51 rfl rfl
set_option maxRecDepth 100000 in
theorem ml_12411 : Cond.methodLink RX12 411 yX12_risk ∈ GW := gt10 55 rfl rfl
set_option maxRecDepth 100000 in
theorem ml_12399 : Cond.methodLink RX12 399 yX12_net ∈ GW := gt10 59 rfl rfl
set_option maxRecDepth 100000 in
theorem ml_12414 : Cond.methodLink RX12 414 yX12_value ∈ GW := gt10 65 rfl rfl
set_option maxRecDepth 100000 in
theorem ml_12407 : Cond.methodLink RX12 407 yX12_worth ∈ GW := gt10 69 rfl rfl
set_option maxRecDepth 100000 in
theorem ml_12479 : Cond.methodLink RX12 479 yX12_callOf ∈ GW := gt10 74 rfl rfl
set_option maxRecDepth 100000 in
theorem ml_12575 : Cond.methodLink RX12 575 yX12_doFund ∈ GW := gt10 78 rfl rfl
set_option maxRecDepth 100000 in
theorem ml_12578 : Cond.methodLink RX12 578 yX12_doFail ∈ GW := gt10 82 rfl rfl
set_option maxRecDepth 100000 in
theorem ml_12581 : Cond.methodLink RX12 581 yX12_doBid ∈ GW := gt10 86 rfl rfl
set_option maxRecDepth 100000 in
theorem ml_12584 : Cond.methodLink RX12 584 yX12_doCloseOut ∈ GW := gt10 90 rfl rfl
set_option maxRecDepth 100000 in
theorem ml_12489 : Cond.methodLink RX12 489 yX12_winner ∈ GW := gt10 94 rfl rfl
set_option maxRecDepth 100000 in
theorem ml_12492 : Cond.methodLink RX12 492 yX12_coversAll ∈ GW := gt10 98 rfl rfl
set_option maxRecDepth 100000 in
theorem ml_12495 : Cond.methodLink RX12 495 yX12_upTo ∈ GW := gt10 102 rfl rfl
set_option maxRecDepth 100000 in
theorem ml_12499 : Cond.methodLink RX12 499 yX12_covers ∈ GW := gt10 106 rfl rfl
set_option maxRecDepth 100000 in
theorem ml_12503 : Cond.methodLink RX12 503 yX12_coversByFunds ∈ GW := gt10 110 rfl rfl
set_option maxRecDepth 100000 in
theorem ml_12506 : Cond.methodLink RX12 506 yX12_shares ∈ GW := gt10 114 rfl rfl
set_option maxRecDepth 100000 in
theorem ml_13165 : Cond.methodLink RL 165 yX12_market ∈ GW := gt10 118 rfl rfl
set_option maxRecDepth 100000 in
theorem ml_13169 : Cond.methodLink RL 169 yX12_iceberg ∈ GW := gt10 122 rfl rfl
set_option maxRecDepth 100000 in
theorem ml_13172 : Cond.methodLink RL 172 yX12_peg ∈ GW := gt10 126 rfl rfl
set_option maxRecDepth 100000 in
theorem ml_13175 : Cond.methodLink RL 175 yX12_stop ∈ GW := gt10 130 rfl rfl
set_option maxRecDepth 100000 in
theorem ml_13178 : Cond.methodLink RL 178 yX12_quote ∈ GW := gt10 134 rfl rfl
set_option maxRecDepth 100000 in
theorem ml_13182 : Cond.methodLink RL 182 yX12_cancel ∈ GW := gt10 138 rfl rfl
set_option maxRecDepth 100000 in
theorem ml_13186 : Cond.methodLink RL 186 yX12_setRule ∈ GW := gt10 142 rfl rfl
set_option maxRecDepth 100000 in
theorem ml_13190 : Cond.methodLink RL 190 yX12_setBand ∈ GW := gt10 146 rfl rfl
set_option maxRecDepth 100000 in
theorem ml_13193 : Cond.methodLink RL 193 yX12_setProtection ∈ GW := gt10 150 rfl rfl
set_option maxRecDepth 100000 in
theorem ml_13196 : Cond.methodLink RL 196 yX12_setLimit ∈ GW := gt10 154 rfl rfl
set_option maxRecDepth 100000 in
theorem ml_13199 : Cond.methodLink RL 199 yX12_auction ∈ GW := gt10 158 rfl rfl
set_option maxRecDepth 100000 in
theorem ml_13202 : Cond.methodLink RL 202 yX12_pass ∈ GW := gt10 162 rfl rfl
set_option maxRecDepth 100000 in
theorem ml_13206 : Cond.methodLink RL 206 yX12_endDay ∈ GW := gt10 166 rfl rfl
set_option maxRecDepth 100000 in
theorem ml_13209 : Cond.methodLink RL 209 yX12_bust ∈ GW := gt10 170 rfl rfl
set_option maxRecDepth 100000 in
theorem ml_13212 : Cond.methodLink RL 212 yX12_adjust ∈ GW := gt10 174 rfl rfl
set_option maxRecDepth 100000 in
theorem ml_13216 : Cond.methodLink RL 216 yX12_giveUp ∈ GW := gt10 178 rfl rfl
set_option maxRecDepth 100000 in
theorem ml_13219 : Cond.methodLink RL 219 yX12_allot ∈ GW := gt10 182 rfl rfl
set_option maxRecDepth 100000 in
theorem ml_13222 : Cond.methodLink RL 222 yX12_exercise ∈ GW := gt10 186 rfl rfl
set_option maxRecDepth 100000 in
theorem ml_13225 : Cond.methodLink RL 225 yX12_convert ∈ GW := gt10 190 rfl rfl
set_option maxRecDepth 100000 in
theorem ml_13228 : Cond.methodLink RL 228 yX12_setMove ∈ GW := gt10 194 rfl rfl
set_option maxRecDepth 100000 in
theorem ml_13231 : Cond.methodLink RL 231 yX12_setHaircut ∈ GW := gt10 198 rfl rfl
set_option maxRecDepth 100000 in
theorem ml_13234 : Cond.methodLink RL 234 yX12_pay ∈ GW := gt10 202 rfl rfl
set_option maxRecDepth 100000 in
theorem ml_13237 : Cond.methodLink RL 237 yX12_setFund ∈ GW := gt10 206 rfl rfl
set_option maxRecDepth 100000 in
theorem ml_13240 : Cond.methodLink RL 240 yX12_fail ∈ GW := gt10 210 rfl rfl
set_option maxRecDepth 100000 in
theorem ml_13243 : Cond.methodLink RL 243 yX12_bid ∈ GW := gt10 214 rfl rfl
set_option maxRecDepth 100000 in
theorem ml_13246 : Cond.methodLink RL 246 yX12_closeOut ∈ GW := gt10 218 rfl rfl
set_option maxRecDepth 100000 in
theorem ml_13250 : Cond.methodLink RL 250 yX12_keep ∈ GW := gt10 222 rfl rfl
set_option maxRecDepth 100000 in
theorem ml_13254 : Cond.methodLink RL 254 yX12_failOver ∈ GW := gt10 226 rfl rfl
set_option maxRecDepth 100000 in
theorem ml_13258 : Cond.methodLink RL 258 yX12_events ∈ GW := gt10 230 rfl rfl
set_option maxRecDepth 100000 in
theorem ml_13261 : Cond.methodLink RL 261 yX12_positionByLog ∈ GW := gt10 234 rfl rfl
set_option maxRecDepth 100000 in
theorem ml_12601 : Cond.methodLink RX12 601 yX12_position ∈ GW := gt10 238 rfl rfl
set_option maxRecDepth 100000 in
theorem ml_13265 : Cond.methodLink RL 265 yX12_bestByLog ∈ GW := gt11 2 rfl rfl
set_option maxRecDepth 100000 in
theorem ml_12604 : Cond.methodLink RX12 604 yX12_best ∈ GW := gt11 6 rfl rfl
set_option maxRecDepth 100000 in
theorem ml_12607 : Cond.methodLink RX12 607 yX12_isBook ∈ GW := gt11 10 rfl rfl
set_option maxRecDepth 100000 in
theorem ml_13268 : Cond.methodLink RL 268 yX12_best ∈ GW := gt11 14 rfl rfl
set_option maxRecDepth 100000 in
theorem ml_13271 : Cond.methodLink RL 271 yX12_shown ∈ GW := gt11 15 rfl rfl
set_option maxRecDepth 100000 in
theorem ml_13275 : Cond.methodLink RL 275 yX12_stateOf ∈ GW := gt11 19 rfl rfl
set_option maxRecDepth 100000 in
theorem ml_13278 : Cond.methodLink RL 278 yX12_rest ∈ GW := gt11 23 rfl rfl
set_option maxRecDepth 100000 in
theorem ml_13281 : Cond.methodLink RL 281 yX12_priceOf ∈ GW := gt11 27 rfl rfl
set_option maxRecDepth 100000 in
theorem ml_13284 : Cond.methodLink RL 284 yX12_last ∈ GW := gt11 31 rfl rfl
set_option maxRecDepth 100000 in
theorem ml_13287 : Cond.methodLink RL 287 yX12_endOf ∈ GW := gt11 35 rfl rfl
set_option maxRecDepth 100000 in
theorem ml_13290 : Cond.methodLink RL 290 yX12_indicated ∈ GW := gt11 39 rfl rfl
set_option maxRecDepth 100000 in
theorem ml_13294 : Cond.methodLink RL 294 yX12_trades ∈ GW := gt11 43 rfl rfl
set_option maxRecDepth 100000 in
theorem ml_13297 : Cond.methodLink RL 297 yX12_trade ∈ GW := gt11 47 rfl rfl
set_option maxRecDepth 100000 in
theorem ml_13300 : Cond.methodLink RL 300 yX12_position ∈ GW := gt11 51 rfl rfl
set_option maxRecDepth 100000 in
theorem ml_13303 : Cond.methodLink RL 303 yX12_cash ∈ GW := gt11 52 rfl rfl
set_option maxRecDepth 100000 in
theorem ml_13306 : Cond.methodLink RL 306 yX12_quoted ∈ GW := gt11 56 rfl rfl
set_option maxRecDepth 100000 in
theorem ml_13309 : Cond.methodLink RL 309 yX12_member ∈ GW := gt11 60 rfl rfl
set_option maxRecDepth 100000 in
theorem ml_13313 : Cond.methodLink RL 313 yX12_stake ∈ GW := gt11 64 rfl rfl
