/-! ROWS OF THE TABLES (written by wip/whole/mkrows.py) -/
set_option maxRecDepth 100000 in
theorem zq_0 : zt_m[0]? = some (yX0_init, cX0_init, 2, none, 1, 1, 1, 20, 377) := rfl
set_option maxRecDepth 100000 in
theorem zq_1 : zt_m[1]? = some (yX0_isAtEnd, cX0_isAtEnd, 1, (some FieldType.boolean), 1, 0, 0, 0, 870) := rfl
set_option maxRecDepth 100000 in
theorem zq_2 : zt_m[2]? = some (yX0_next, cX0_next, 3, (some FieldType.int), 1, 0, 0, 0, 768) := rfl
set_option maxRecDepth 100000 in
theorem zq_3 : zt_m[3]? = some (yX0_number, cX0_number, 6, (some FieldType.long), 1, 1, 1, 22, 764) := rfl
set_option maxRecDepth 100000 in
theorem zq_4 : zt_m[4]? = some (yX0_bytesTouched, cX0_bytesTouched, 1, (some FieldType.int), 1, 0, 0, 0, 878) := rfl
set_option maxRecDepth 100000 in
theorem zq_5 : zt_m[5]? = some (yX1_init, cX1_init, 2, none, 2, 1, 1, 20, 292) := rfl
set_option maxRecDepth 100000 in
theorem zq_6 : zt_m[6]? = some (yX1_restart, cX1_restart, 1, none, 2, 0, 2, 42, 500) := rfl
set_option maxRecDepth 100000 in
theorem zq_7 : zt_m[7]? = some (yX1_putBit, cX1_putBit, 2, none, 2, 1, 1, 21, 510) := rfl
set_option maxRecDepth 100000 in
theorem zq_8 : zt_m[8]? = some (yX1_put, cX1_put, 5, none, 2, 2, 2, 42, 506) := rfl
set_option maxRecDepth 100000 in
theorem zq_9 : zt_m[9]? = some (yX1_putOnes, cX1_putOnes, 3, none, 2, 1, 2, 42, 697) := rfl
set_option maxRecDepth 100000 in
theorem zq_10 : zt_m[10]? = some (yX1_fillByte, cX1_fillByte, 2, none, 2, 0, 2, 42, 728) := rfl
set_option maxRecDepth 100000 in
theorem zq_11 : zt_m[11]? = some (yX1_allFitted, cX1_allFitted, 1, (some FieldType.boolean), 2, 0, 0, 0, 732) := rfl
set_option maxRecDepth 100000 in
theorem zq_12 : zt_m[12]? = some (yX2_init, cX2_init, 1, none, 3, 0, 1, 20, 308) := rfl
set_option maxRecDepth 100000 in
theorem zq_13 : zt_m[13]? = some (yX2_make, cX2_make, 7, none, 3, 2, 0, 0, 711) := rfl
set_option maxRecDepth 100000 in
theorem zq_14 : zt_m[14]? = some (yX2_read, cX2_read, 6, (some FieldType.int), 3, 1, 1, 22, 832) := rfl
set_option maxRecDepth 100000 in
theorem zq_15 : zt_m[15]? = some (yX3_init, cX3_init, 1, none, 4, 0, 1, 20, 148) := rfl
set_option maxRecDepth 100000 in
theorem zq_16 : zt_m[16]? = some (yX3_forget, cX3_forget, 1, none, 4, 0, 0, 0, 496) := rfl
set_option maxRecDepth 100000 in
theorem zq_17 : zt_m[17]? = some (yX3_hasChoice, cX3_hasChoice, 2, (some FieldType.boolean), 4, 1, 0, 0, 693) := rfl
set_option maxRecDepth 100000 in
theorem zq_18 : zt_m[18]? = some (yX3_hasLength, cX3_hasLength, 3, (some FieldType.boolean), 4, 2, 0, 0, 942) := rfl
set_option maxRecDepth 100000 in
theorem zq_19 : zt_m[19]? = some (yX3_chosen, cX3_chosen, 2, (some FieldType.int), 4, 1, 1, 21, 689) := rfl
set_option maxRecDepth 100000 in
theorem zq_20 : zt_m[20]? = some (yX3_choose, cX3_choose, 3, none, 4, 2, 0, 0, 627) := rfl
set_option maxRecDepth 100000 in
theorem zq_21 : zt_m[21]? = some (yX4_init, cX4_init, 2, none, 5, 1, 1, 21, 239) := rfl
set_option maxRecDepth 100000 in
theorem zq_22 : zt_m[22]? = some (yX4_clear, cX4_clear, 1, none, 5, 0, 0, 0, 574) := rfl
set_option maxRecDepth 100000 in
theorem zq_23 : zt_m[23]? = some (yX4_add, cX4_add, 2, none, 5, 1, 0, 0, 578) := rfl
set_option maxRecDepth 100000 in
theorem zq_24 : zt_m[24]? = some (yX4_restart, cX4_restart, 3, none, 5, 1, 1, 21, 683) := rfl
set_option maxRecDepth 100000 in
theorem zq_25 : zt_m[25]? = some (yX4_first, cX4_first, 1, (some FieldType.int), 5, 0, 0, 0, 837) := rfl
set_option maxRecDepth 100000 in
theorem zq_26 : zt_m[26]? = some (yX4_takeAt, cX4_takeAt, 3, (some FieldType.int), 5, 1, 1, 48, 594) := rfl
set_option maxRecDepth 100000 in
theorem zq_27 : zt_m[27]? = some (yX4_placeOf, cX4_placeOf, 3, (some FieldType.int), 5, 1, 2, 70, 590) := rfl
set_option maxRecDepth 100000 in
theorem zq_28 : zt_m[28]? = some (yX5_init, cX5_init, 6, none, 6, 4, 2, 42, 368) := rfl
set_option maxRecDepth 100000 in
theorem zq_29 : zt_m[29]? = some (yX5_brokenAnswer, cX5_brokenAnswer, 1, (some FieldType.int), 6, 0, 1, 20, 874) := rfl
set_option maxRecDepth 100000 in
theorem zq_30 : zt_m[30]? = some (yX5_openRows, cX5_openRows, 2, (some FieldType.boolean), 6, 0, 6, 166, 746) := rfl
set_option maxRecDepth 100000 in
theorem zq_31 : zt_m[31]? = some (yX5_openAlone, cX5_openAlone, 2, (some FieldType.boolean), 6, 1, 5, 140, 960) := rfl
set_option maxRecDepth 100000 in
theorem zq_32 : zt_m[32]? = some (yX5_restart, cX5_restart, 2, none, 6, 1, 2, 42, 750) := rfl
set_option maxRecDepth 100000 in
theorem zq_33 : zt_m[33]? = some (yX5_breaks, cX5_breaks, 2, (some FieldType.boolean), 6, 1, 0, 0, 773) := rfl
set_option maxRecDepth 100000 in
theorem zq_34 : zt_m[34]? = some (yX5_openRow, cX5_openRow, 7, (some FieldType.boolean), 6, 1, 5, 140, 756) := rfl
set_option maxRecDepth 100000 in
theorem zq_35 : zt_m[35]? = some (yX5_readRowHead, cX5_readRowHead, 3, (some FieldType.boolean), 6, 0, 2, 47, 760) := rfl
set_option maxRecDepth 100000 in
theorem zq_36 : zt_m[36]? = some (yX5_fitsHead, cX5_fitsHead, 2, (some FieldType.boolean), 6, 2, 0, 0, 776) := rfl
set_option maxRecDepth 100000 in
theorem zq_37 : zt_m[37]? = some (yX5_readRowEnd, cX5_readRowEnd, 5, (some FieldType.boolean), 6, 1, 2, 47, 782) := rfl
set_option maxRecDepth 100000 in
theorem zq_38 : zt_m[38]? = some (yX5_openBlock, cX5_openBlock, 3, (some FieldType.boolean), 6, 1, 4, 118, 790) := rfl
set_option maxRecDepth 100000 in
theorem zq_39 : zt_m[39]? = some (yX5_readHead, cX5_readHead, 4, (some FieldType.boolean), 6, 0, 2, 47, 794) := rfl
set_option maxRecDepth 100000 in
theorem zq_40 : zt_m[40]? = some (yX5_readMap, cX5_readMap, 5, (some FieldType.boolean), 6, 0, 2, 47, 798) := rfl
set_option maxRecDepth 100000 in
theorem zq_41 : zt_m[41]? = some (yX5_readChoices, cX5_readChoices, 5, (some FieldType.boolean), 6, 1, 3, 94, 804) := rfl
set_option maxRecDepth 100000 in
theorem zq_42 : zt_m[42]? = some (yX5_readChoice, cX5_readChoice, 5, (some FieldType.boolean), 6, 2, 2, 70, 809) := rfl
set_option maxRecDepth 100000 in
theorem zq_43 : zt_m[43]? = some (yX5_readLengths, cX5_readLengths, 5, (some FieldType.boolean), 6, 1, 2, 47, 815) := rfl
set_option maxRecDepth 100000 in
theorem zq_44 : zt_m[44]? = some (yX5_changedLength, cX5_changedLength, 6, (some FieldType.int), 6, 1, 1, 22, 822) := rfl
set_option maxRecDepth 100000 in
theorem zq_45 : zt_m[45]? = some (yX5_isLength, cX5_isLength, 1, (some FieldType.boolean), 6, 1, 0, 0, 818) := rfl
set_option maxRecDepth 100000 in
theorem zq_46 : zt_m[46]? = some (yX5_readNumbers, cX5_readNumbers, 7, (some FieldType.boolean), 6, 2, 2, 70, 827) := rfl
set_option maxRecDepth 100000 in
theorem zq_47 : zt_m[47]? = some (yX5_addLast, cX5_addLast, 5, (some FieldType.boolean), 6, 3, 0, 0, 841) := rfl
set_option maxRecDepth 100000 in
theorem zq_48 : zt_m[48]? = some (yX5_turnBlockBack, cX5_turnBlockBack, 1, (some FieldType.boolean), 6, 0, 2, 49, 845) := rfl
set_option maxRecDepth 100000 in
theorem zq_49 : zt_m[49]? = some (yX5_writeOut, cX5_writeOut, 3, (some FieldType.boolean), 6, 0, 2, 49, 853) := rfl
set_option maxRecDepth 100000 in
theorem zq_50 : zt_m[50]? = some (yX5_plainSize, cX5_plainSize, 4, (some FieldType.int), 6, 0, 0, 0, 857) := rfl
set_option maxRecDepth 100000 in
theorem zq_51 : zt_m[51]? = some (yX5_lengthenRuns, cX5_lengthenRuns, 7, (some FieldType.int), 6, 0, 1, 23, 861) := rfl
set_option maxRecDepth 100000 in
theorem zq_52 : zt_m[52]? = some (yX6_init, cX6_init, 5, none, 7, 3, 2, 42, 233) := rfl
set_option maxRecDepth 100000 in
theorem zq_53 : zt_m[53]? = some (yX6_packAll, cX6_packAll, 7, (some FieldType.boolean), 7, 2, 5, 138, 488) := rfl
set_option maxRecDepth 100000 in
theorem zq_54 : zt_m[54]? = some (yX6_sumBetween, cX6_sumBetween, 5, (some FieldType.int), 7, 3, 2, 42, 531) := rfl
set_option maxRecDepth 100000 in
theorem zq_55 : zt_m[55]? = some (yX6_shortenRuns, cX6_shortenRuns, 8, (some FieldType.int), 7, 3, 3, 64, 517) := rfl
set_option maxRecDepth 100000 in
theorem zq_56 : zt_m[56]? = some (yX6_runFrom, cX6_runFrom, 3, (some FieldType.int), 7, 2, 2, 42, 520) := rfl
set_option maxRecDepth 100000 in
theorem zq_57 : zt_m[57]? = some (yX6_packBlock, cX6_packBlock, 4, none, 7, 2, 4, 115, 539) := rfl
set_option maxRecDepth 100000 in
theorem zq_58 : zt_m[58]? = some (yX6_noteFacts, cX6_noteFacts, 4, none, 7, 3, 1, 22, 652) := rfl
set_option maxRecDepth 100000 in
theorem zq_59 : zt_m[59]? = some (yX6_findSigns, cX6_findSigns, 2, none, 7, 0, 1, 23, 569) := rfl
set_option maxRecDepth 100000 in
theorem zq_60 : zt_m[60]? = some (yX6_makeNumbers, cX6_makeNumbers, 4, none, 7, 0, 3, 92, 582) := rfl
set_option maxRecDepth 100000 in
theorem zq_61 : zt_m[61]? = some (yX6_addDigits, cX6_addDigits, 3, none, 7, 1, 1, 21, 599) := rfl
set_option maxRecDepth 100000 in
theorem zq_62 : zt_m[62]? = some (yX6_addNumber, cX6_addNumber, 2, none, 7, 1, 0, 0, 603) := rfl
set_option maxRecDepth 100000 in
theorem zq_63 : zt_m[63]? = some (yX6_writeHead, cX6_writeHead, 2, none, 7, 1, 3, 66, 664) := rfl
set_option maxRecDepth 100000 in
theorem zq_64 : zt_m[64]? = some (yX6_writeMap, cX6_writeMap, 3, none, 7, 0, 3, 66, 671) := rfl
set_option maxRecDepth 100000 in
theorem zq_65 : zt_m[65]? = some (yX6_sixteenFrom, cX6_sixteenFrom, 4, (some FieldType.int), 7, 1, 0, 0, 675) := rfl
set_option maxRecDepth 100000 in
theorem zq_66 : zt_m[66]? = some (yX6_writeChoices, cX6_writeChoices, 3, none, 7, 1, 3, 92, 679) := rfl
set_option maxRecDepth 100000 in
theorem zq_67 : zt_m[67]? = some (yX6_writeLengths, cX6_writeLengths, 7, none, 7, 1, 3, 66, 701) := rfl
set_option maxRecDepth 100000 in
theorem zq_68 : zt_m[68]? = some (yX6_writeCodes, cX6_writeCodes, 4, none, 7, 1, 3, 66, 707) := rfl
set_option maxRecDepth 100000 in
theorem zq_69 : zt_m[69]? = some (yX7_init, cX7_init, 2, none, 8, 1, 1, 21, 121) := rfl
set_option maxRecDepth 100000 in
theorem zq_70 : zt_m[70]? = some (yX7_hasRoom, cX7_hasRoom, 2, (some FieldType.boolean), 8, 1, 0, 0, 458) := rfl
set_option maxRecDepth 100000 in
theorem zq_71 : zt_m[71]? = some (yX7_has, cX7_has, 2, (some FieldType.boolean), 8, 1, 0, 0, 528) := rfl
set_option maxRecDepth 100000 in
theorem zq_72 : zt_m[72]? = some (yX7_at, cX7_at, 2, (some FieldType.int), 8, 1, 1, 21, 524) := rfl
set_option maxRecDepth 100000 in
theorem zq_73 : zt_m[73]? = some (yX7_set, cX7_set, 3, none, 8, 2, 1, 21, 896) := rfl
set_option maxRecDepth 100000 in
theorem zq_74 : zt_m[74]? = some (yX7_add, cX7_add, 2, none, 8, 1, 0, 0, 466) := rfl
set_option maxRecDepth 100000 in
theorem zq_75 : zt_m[75]? = some (yX7_addNumber, cX7_addNumber, 3, none, 8, 1, 1, 21, 462) := rfl
set_option maxRecDepth 100000 in
theorem zq_76 : zt_m[76]? = some (yX7_addAll, cX7_addAll, 3, none, 8, 1, 1, 48, 741) := rfl
set_option maxRecDepth 100000 in
theorem zq_77 : zt_m[77]? = some (yX7_cutTo, cX7_cutTo, 2, none, 8, 1, 1, 21, 474) := rfl
set_option maxRecDepth 100000 in
theorem zq_78 : zt_m[78]? = some (yX7_dropFirst, cX7_dropFirst, 3, none, 8, 1, 1, 48, 904) := rfl
set_option maxRecDepth 100000 in
theorem zq_79 : zt_m[79]? = some (yX8_init, cX8_init, 1, none, 9, 0, 1, 20, 255) := rfl
set_option maxRecDepth 100000 in
theorem zq_80 : zt_m[80]? = some (yX8_makeTables, cX8_makeTables, 6, none, 9, 3, 3, 73, 607) := rfl
set_option maxRecDepth 100000 in
theorem zq_81 : zt_m[81]? = some (yX8_tablesFor, cX8_tablesFor, 1, (some FieldType.int), 9, 1, 0, 0, 610) := rfl
set_option maxRecDepth 100000 in
theorem zq_82 : zt_m[82]? = some (yX8_setFirstCosts, cX8_setFirstCosts, 12, none, 9, 3, 1, 23, 614) := rfl
set_option maxRecDepth 100000 in
theorem zq_83 : zt_m[83]? = some (yX8_chooseAll, cX8_chooseAll, 9, none, 9, 3, 1, 28, 619) := rfl
set_option maxRecDepth 100000 in
theorem zq_84 : zt_m[84]? = some (yX8_cheapest, cX8_cheapest, 9, (some FieldType.int), 9, 4, 0, 0, 623) := rfl
set_option maxRecDepth 100000 in
theorem zq_85 : zt_m[85]? = some (yX8_makeLengths, cX8_makeLengths, 6, none, 9, 3, 2, 48, 631) := rfl
set_option maxRecDepth 100000 in
theorem zq_86 : zt_m[86]? = some (yX8_joinAll, cX8_joinAll, 6, none, 9, 1, 1, 23, 636) := rfl
set_option maxRecDepth 100000 in
theorem zq_87 : zt_m[87]? = some (yX8_sortByWeight, cX8_sortByWeight, 4, none, 9, 1, 0, 0, 640) := rfl
set_option maxRecDepth 100000 in
theorem zq_88 : zt_m[88]? = some (yX8_takeLeast, cX8_takeLeast, 4, (some FieldType.int), 9, 1, 0, 0, 644) := rfl
set_option maxRecDepth 100000 in
theorem zq_89 : zt_m[89]? = some (yX8_setLengths, cX8_setLengths, 6, (some FieldType.int), 9, 2, 1, 21, 648) := rfl
set_option maxRecDepth 100000 in
theorem zq_90 : zt_m[90]? = some (yX9_init, cX9_init, 1, none, 10, 0, 2, 40, 142) := rfl
set_option maxRecDepth 100000 in
theorem zq_91 : zt_m[91]? = some (yX9_forget, cX9_forget, 1, none, 10, 0, 1, 20, 492) := rfl
set_option maxRecDepth 100000 in
theorem zq_92 : zt_m[92]? = some (yX9_tells, cX9_tells, 2, (some FieldType.boolean), 10, 1, 0, 0, 920) := rfl
set_option maxRecDepth 100000 in
theorem zq_93 : zt_m[93]? = some (yX9_fact, cX9_fact, 3, (some FieldType.int), 10, 2, 1, 21, 916) := rfl
set_option maxRecDepth 100000 in
theorem zq_94 : zt_m[94]? = some (yX9_sumOf, cX9_sumOf, 2, (some FieldType.int), 10, 1, 1, 21, 928) := rfl
set_option maxRecDepth 100000 in
theorem zq_95 : zt_m[95]? = some (yX9_note, cX9_note, 3, none, 10, 2, 0, 0, 656) := rfl
set_option maxRecDepth 100000 in
theorem zq_96 : zt_m[96]? = some (yX9_keepBlock, cX9_keepBlock, 1, none, 10, 0, 1, 48, 715) := rfl
set_option maxRecDepth 100000 in
theorem zq_97 : zt_m[97]? = some (yX9_keepCoding, cX9_keepCoding, 2, none, 10, 0, 0, 0, 720) := rfl
set_option maxRecDepth 100000 in
theorem zq_98 : zt_m[98]? = some (yX10_init, cX10_init, 1, none, 11, 0, 1, 20, 214) := rfl
set_option maxRecDepth 100000 in
theorem zq_99 : zt_m[99]? = some (yX10_sortTurns, cX10_sortTurns, 5, none, 11, 2, 3, 72, 543) := rfl
set_option maxRecDepth 100000 in
theorem zq_100 : zt_m[100]? = some (yX10_sortPlaces, cX10_sortPlaces, 3, none, 11, 1, 2, 46, 547) := rfl
set_option maxRecDepth 100000 in
theorem zq_101 : zt_m[101]? = some (yX10_sortWaiting, cX10_sortWaiting, 4, none, 11, 1, 1, 23, 551) := rfl
set_option maxRecDepth 100000 in
theorem zq_102 : zt_m[102]? = some (yX10_rankAnew, cX10_rankAnew, 5, none, 11, 2, 1, 48, 558) := rfl
set_option maxRecDepth 100000 in
theorem zq_103 : zt_m[103]? = some (yX10_differ, cX10_differ, 5, (some FieldType.boolean), 11, 4, 0, 0, 562) := rfl
set_option maxRecDepth 100000 in
theorem zq_104 : zt_m[104]? = some (yX10_lastByte, cX10_lastByte, 5, (some FieldType.int), 11, 3, 0, 0, 586) := rfl
set_option maxRecDepth 100000 in
theorem zq_105 : zt_m[105]? = some (yX10_origin, cX10_origin, 3, (some FieldType.int), 11, 1, 0, 0, 660) := rfl
set_option maxRecDepth 100000 in
theorem zq_106 : zt_m[106]? = some (yX10_turnBack, cX10_turnBack, 7, none, 11, 4, 1, 23, 849) := rfl
set_option maxRecDepth 100000 in
theorem zq_107 : zt_m[107]? = some (yX11_init, cX11_init, 3, none, 12, 1, 3, 67, 107) := rfl
set_option maxRecDepth 100000 in
theorem zq_108 : zt_m[108]? = some (yX11_feed, cX11_feed, 6, (some FieldType.int), 12, 5, 2, 43, 454) := rfl
set_option maxRecDepth 100000 in
theorem zq_109 : zt_m[109]? = some (yX11_end, cX11_end, 2, (some FieldType.int), 12, 1, 2, 42, 470) := rfl
set_option maxRecDepth 100000 in
theorem zq_110 : zt_m[110]? = some (yX11_octets, cX11_octets, 4, (some FieldType.int), 12, 2, 1, 21, 479) := rfl
set_option maxRecDepth 100000 in
theorem zq_111 : zt_m[111]? = some (yX11_pack, cX11_pack, 2, (some FieldType.int), 12, 0, 6, 164, 484) := rfl
set_option maxRecDepth 100000 in
theorem zq_112 : zt_m[112]? = some (yX11_open, cX11_open, 1, (some FieldType.int), 12, 0, 7, 187, 737) := rfl
set_option maxRecDepth 100000 in
theorem zq_113 : zt_m[113]? = some (yX11_rule, cX11_rule, 1, (some FieldType.int), 12, 0, 0, 0, 882) := rfl
set_option maxRecDepth 100000 in
theorem zq_114 : zt_m[114]? = some (yX11_pass, cX11_pass, 1, (some FieldType.int), 12, 0, 2, 70, 886) := rfl
set_option maxRecDepth 100000 in
theorem zq_115 : zt_m[115]? = some (yX11_spoil, cX11_spoil, 3, (some FieldType.int), 12, 2, 2, 43, 890) := rfl
set_option maxRecDepth 100000 in
theorem zq_116 : zt_m[116]? = some (yX11_drop, cX11_drop, 2, (some FieldType.int), 12, 1, 2, 70, 900) := rfl
set_option maxRecDepth 100000 in
theorem zq_117 : zt_m[117]? = some (yX11_out, cX11_out, 2, (some FieldType.int), 12, 1, 2, 42, 971) := rfl
set_option maxRecDepth 100000 in
theorem zq_118 : zt_m[118]? = some (yX11_count, cX11_count, 2, (some FieldType.int), 12, 1, 0, 0, 908) := rfl
set_option maxRecDepth 100000 in
theorem zq_119 : zt_m[119]? = some (yX11_block, cX11_block, 3, (some FieldType.int), 12, 2, 2, 43, 912) := rfl
set_option maxRecDepth 100000 in
theorem zq_120 : zt_m[120]? = some (yX11_sum, cX11_sum, 2, (some FieldType.int), 12, 1, 2, 42, 924) := rfl
set_option maxRecDepth 100000 in
theorem zq_121 : zt_m[121]? = some (yX11_choice, cX11_choice, 2, (some FieldType.int), 12, 1, 2, 42, 932) := rfl
set_option maxRecDepth 100000 in
theorem zq_122 : zt_m[122]? = some (yX11_length, cX11_length, 3, (some FieldType.int), 12, 2, 1, 22, 938) := rfl
set_option maxRecDepth 100000 in
theorem zq_123 : zt_m[123]? = some (yX11_mark, cX11_mark, 2, (some FieldType.int), 12, 1, 3, 70, 946) := rfl
set_option maxRecDepth 100000 in
theorem zq_124 : zt_m[124]? = some (yX11_alone, cX11_alone, 3, (some FieldType.int), 12, 1, 6, 161, 956) := rfl
set_option maxRecDepth 100000 in
theorem zq_125 : zt_m[125]? = some (yX11_findMark, cX11_findMark, 9, (some FieldType.int), 12, 1, 2, 42, 950) := rfl
set_option maxRecDepth 100000 in
theorem zq_126 : zt_m[126]? = some (yX11_stepSum, cX11_stepSum, 4, (some FieldType.int), 12, 2, 0, 0, 534) := rfl
set_option maxRecDepth 100000 in
theorem zq_127 : zt_m[127]? = some (yX11_joinSums, cX11_joinSums, 2, (some FieldType.int), 12, 2, 0, 0, 723) := rfl
set_option maxRecDepth 100000 in
theorem zq_128 : zt_m[128]? = some (yX12_init, cX12_init, 1, none, 13, 0, 4, 85, 1064) := rfl
set_option maxRecDepth 100000 in
theorem zq_129 : zt_m[129]? = some (yX13_thrown, cX13_thrown, 1, (some FieldType.int), 14, 0, 0, 0, 1046) := rfl
set_option maxRecDepth 100000 in
theorem zq_130 : zt_m[130]? = some (yX13_in, cX13_in, 6, (some FieldType.boolean), 14, 3, 0, 0, 1235) := rfl
set_option maxRecDepth 100000 in
theorem zq_131 : zt_m[131]? = some (yX13_init, cX13_init, 2, none, 14, 1, 5, 105, 1051) := rfl
set_option maxRecDepth 100000 in
theorem zq_132 : zt_m[132]? = some (yX13_feed, cX13_feed, 8, (some FieldType.int), 14, 5, 0, 0, 1227) := rfl
set_option maxRecDepth 100000 in
theorem zq_133 : zt_m[133]? = some (yX13_end, cX13_end, 2, (some FieldType.int), 14, 1, 1, 25, 1231) := rfl
set_option maxRecDepth 100000 in
theorem zq_134 : zt_m[134]? = some (yX13_octets, cX13_octets, 4, (some FieldType.int), 14, 2, 1, 25, 1239) := rfl
set_option maxRecDepth 100000 in
theorem zq_135 : zt_m[135]? = some (yX13_rule, cX13_rule, 1, (some FieldType.int), 14, 0, 0, 0, 1244) := rfl
set_option maxRecDepth 100000 in
theorem zq_136 : zt_m[136]? = some (yX13_pass, cX13_pass, 2, (some FieldType.int), 14, 0, 0, 0, 1248) := rfl
set_option maxRecDepth 100000 in
theorem zq_137 : zt_m[137]? = some (yX13_spoil, cX13_spoil, 3, (some FieldType.int), 14, 2, 1, 25, 1252) := rfl
set_option maxRecDepth 100000 in
theorem zq_138 : zt_m[138]? = some (yX13_drop, cX13_drop, 3, (some FieldType.int), 14, 1, 1, 25, 1257) := rfl
set_option maxRecDepth 100000 in
theorem zq_139 : zt_m[139]? = some (yX13_out, cX13_out, 2, (some FieldType.int), 14, 1, 1, 25, 1261) := rfl
set_option maxRecDepth 100000 in
theorem zq_140 : zt_m[140]? = some (yX13_count, cX13_count, 2, (some FieldType.int), 14, 1, 0, 0, 1265) := rfl
set_option maxRecDepth 100000 in
theorem zq_141 : zt_m[141]? = some (yX13_note, cX13_note, 12, none, 14, 10, 0, 0, 1377) := rfl
set_option maxRecDepth 100000 in
theorem zq_142 : zt_m[142]? = some (yX13_toldBlocks, cX13_toldBlocks, 1, (some FieldType.int), 14, 0, 0, 0, 1273) := rfl
set_option maxRecDepth 100000 in
theorem zq_143 : zt_m[143]? = some (yX13_block, cX13_block, 3, (some FieldType.int), 14, 2, 1, 25, 1269) := rfl
set_option maxRecDepth 100000 in
theorem zq_144 : zt_m[144]? = some (yX13_sum, cX13_sum, 2, (some FieldType.int), 14, 1, 1, 25, 1278) := rfl
set_option maxRecDepth 100000 in
theorem zq_145 : zt_m[145]? = some (yX13_keepTables, cX13_keepTables, 5, none, 14, 3, 0, 0, 1381) := rfl
set_option maxRecDepth 100000 in
theorem zq_146 : zt_m[146]? = some (yX13_choice, cX13_choice, 2, (some FieldType.int), 14, 1, 1, 25, 1282) := rfl
set_option maxRecDepth 100000 in
theorem zq_147 : zt_m[147]? = some (yX13_length, cX13_length, 3, (some FieldType.int), 14, 2, 1, 25, 1286) := rfl
set_option maxRecDepth 100000 in
theorem zq_148 : zt_m[148]? = some (yX13_sumOf, cX13_sumOf, 6, (some FieldType.int), 14, 3, 0, 0, 1308) := rfl
set_option maxRecDepth 100000 in
theorem zq_149 : zt_m[149]? = some (yX13_joined, cX13_joined, 2, (some FieldType.int), 14, 2, 0, 0, 1384) := rfl
set_option maxRecDepth 100000 in
theorem zq_150 : zt_m[150]? = some (yX13_putBit, cX13_putBit, 3, none, 14, 1, 0, 0, 1299) := rfl
set_option maxRecDepth 100000 in
theorem zq_151 : zt_m[151]? = some (yX13_put, cX13_put, 5, none, 14, 2, 1, 22, 1295) := rfl
set_option maxRecDepth 100000 in
theorem zq_152 : zt_m[152]? = some (yX13_isAhead, cX13_isAhead, 8, (some FieldType.boolean), 14, 2, 0, 0, 1317) := rfl
set_option maxRecDepth 100000 in
theorem zq_153 : zt_m[153]? = some (yX13_sortTurns, cX13_sortTurns, 9, none, 14, 0, 1, 27, 1313) := rfl
set_option maxRecDepth 100000 in
theorem zq_154 : zt_m[154]? = some (yX13_findSigns, cX13_findSigns, 2, none, 14, 0, 1, 21, 1321) := rfl
set_option maxRecDepth 100000 in
theorem zq_155 : zt_m[155]? = some (yX13_takeSigns, cX13_takeSigns, 2, none, 14, 0, 0, 0, 1325) := rfl
set_option maxRecDepth 100000 in
theorem zq_156 : zt_m[156]? = some (yX13_number, cX13_number, 2, none, 14, 1, 0, 0, 1337) := rfl
set_option maxRecDepth 100000 in
theorem zq_157 : zt_m[157]? = some (yX13_digits, cX13_digits, 4, none, 14, 1, 1, 21, 1333) := rfl
set_option maxRecDepth 100000 in
theorem zq_158 : zt_m[158]? = some (yX13_makeNumbers, cX13_makeNumbers, 6, none, 14, 0, 2, 44, 1329) := rfl
set_option maxRecDepth 100000 in
theorem zq_159 : zt_m[159]? = some (yX13_makeLengths, cX13_makeLengths, 8, none, 14, 2, 1, 25, 1349) := rfl
set_option maxRecDepth 100000 in
theorem zq_160 : zt_m[160]? = some (yX13_leastOne, cX13_leastOne, 6, (some FieldType.int), 14, 2, 0, 0, 1353) := rfl
set_option maxRecDepth 100000 in
theorem zq_161 : zt_m[161]? = some (yX13_firstCosts, cX13_firstCosts, 9, none, 14, 1, 0, 0, 1345) := rfl
set_option maxRecDepth 100000 in
theorem zq_162 : zt_m[162]? = some (yX13_chooseTables, cX13_chooseTables, 10, none, 14, 1, 2, 52, 1341) := rfl
set_option maxRecDepth 100000 in
theorem zq_163 : zt_m[163]? = some (yX13_makeCodes, cX13_makeCodes, 6, none, 14, 2, 0, 0, 1368) := rfl
set_option maxRecDepth 100000 in
theorem zq_164 : zt_m[164]? = some (yX13_putMap, cX13_putMap, 4, none, 14, 0, 1, 22, 1360) := rfl
set_option maxRecDepth 100000 in
theorem zq_165 : zt_m[165]? = some (yX13_putChoices, cX13_putChoices, 4, none, 14, 0, 1, 22, 1364) := rfl
set_option maxRecDepth 100000 in
theorem zq_166 : zt_m[166]? = some (yX13_putLengths, cX13_putLengths, 6, none, 14, 2, 2, 46, 1372) := rfl
set_option maxRecDepth 100000 in
theorem zq_167 : zt_m[167]? = some (yX13_packBlock, cX13_packBlock, 9, (some FieldType.int), 14, 2, 3, 81, 1305) := rfl
set_option maxRecDepth 100000 in
theorem zq_168 : zt_m[168]? = some (yX13_pack, cX13_pack, 8, (some FieldType.int), 14, 0, 4, 109, 1290) := rfl
set_option maxRecDepth 100000 in
theorem zq_169 : zt_m[169]? = some (yX13_fail, cX13_fail, 2, none, 14, 1, 0, 0, 1405) := rfl
set_option maxRecDepth 100000 in
theorem zq_170 : zt_m[170]? = some (yX13_bit, cX13_bit, 2, (some FieldType.int), 14, 0, 1, 21, 1401) := rfl
set_option maxRecDepth 100000 in
theorem zq_171 : zt_m[171]? = some (yX13_bits, cX13_bits, 5, (some FieldType.long), 14, 1, 2, 42, 1397) := rfl
set_option maxRecDepth 100000 in
theorem zq_172 : zt_m[172]? = some (yX13_readMap, cX13_readMap, 5, none, 14, 0, 3, 66, 1414) := rfl
set_option maxRecDepth 100000 in
theorem zq_173 : zt_m[173]? = some (yX13_readChoices, cX13_readChoices, 5, none, 14, 0, 3, 66, 1418) := rfl
set_option maxRecDepth 100000 in
theorem zq_174 : zt_m[174]? = some (yX13_readLengths, cX13_readLengths, 5, none, 14, 2, 3, 66, 1423) := rfl
set_option maxRecDepth 100000 in
theorem zq_175 : zt_m[175]? = some (yX13_mustBeLength, cX13_mustBeLength, 2, none, 14, 1, 1, 25, 1427) := rfl
set_option maxRecDepth 100000 in
theorem zq_176 : zt_m[176]? = some (yX13_readCode, cX13_readCode, 8, (some FieldType.int), 14, 2, 2, 42, 1435) := rfl
set_option maxRecDepth 100000 in
theorem zq_177 : zt_m[177]? = some (yX13_addBytes, cX13_addBytes, 4, none, 14, 2, 0, 0, 1439) := rfl
set_option maxRecDepth 100000 in
theorem zq_178 : zt_m[178]? = some (yX13_readNumbers, cX13_readNumbers, 8, none, 14, 2, 3, 69, 1431) := rfl
set_option maxRecDepth 100000 in
theorem zq_179 : zt_m[179]? = some (yX13_turnBack, cX13_turnBack, 4, none, 14, 1, 0, 0, 1443) := rfl
set_option maxRecDepth 100000 in
theorem zq_180 : zt_m[180]? = some (yX13_runSize, cX13_runSize, 8, (some FieldType.int), 14, 1, 0, 0, 1447) := rfl
set_option maxRecDepth 100000 in
theorem zq_181 : zt_m[181]? = some (yX13_readBlock, cX13_readBlock, 10, (some FieldType.int), 14, 5, 4, 96, 1410) := rfl
set_option maxRecDepth 100000 in
theorem zq_182 : zt_m[182]? = some (yX13_readRow, cX13_readRow, 9, none, 14, 1, 5, 125, 1393) := rfl
set_option maxRecDepth 100000 in
theorem zq_183 : zt_m[183]? = some (yX13_markAt, cX13_markAt, 6, (some FieldType.int), 14, 1, 0, 0, 1455) := rfl
set_option maxRecDepth 100000 in
theorem zq_184 : zt_m[184]? = some (yX13_mark, cX13_mark, 3, (some FieldType.int), 14, 1, 1, 25, 1451) := rfl
set_option maxRecDepth 100000 in
theorem zq_185 : zt_m[185]? = some (yJ7_fill_53178, cJ7_fill_53178, 4, none, 16, 2, 0, 0, 554) := rfl
set_option maxRecDepth 100000 in
theorem zq_186 : zt_m[186]? = some (yL_cell, cL_cell, 2, (some FieldType.int), 15, 2, 0, 0, 963) := rfl
set_option maxRecDepth 100000 in
theorem zq_187 : zt_m[187]? = some (yX13_open, cX13_open, 3, (some FieldType.int), 14, 0, 6, 153, 1389) := rfl
set_option maxRecDepth 100000 in
theorem zq_188 : zt_m[188]? = some (yX13_alone, cX13_alone, 5, (some FieldType.int), 14, 1, 5, 125, 1460) := rfl
set_option maxRecDepth 100000 in
theorem zq_189 : zt_m[189]? = some (yL_out, cL_out, 4, (some FieldType.int), 15, 3, 3, 63, 966) := rfl
theorem zcc_0 : za_cc 0 = cX0_init := by unfold za_cc; rw [zq_0]; rfl
theorem zow_0 : za_ow 0 = 1 := by unfold za_ow; rw [zq_0]; rfl
theorem zmx_0 : za_mx 0 = 2 := by unfold za_mx; rw [zq_0]; rfl
theorem zre_0 : za_re 0 = none := by unfold za_re; rw [zq_0]; rfl
theorem znp_0 : za_np 0 = 1 := by unfold za_np; rw [zq_0]; rfl
theorem zfr_0 : za_fr 0 = 1 ∧ za_lo 0 = 20 ∧ za_im 0 = true := ⟨by unfold za_fr; rw [zq_0]; rfl, by unfold za_lo; rw [zq_0]; rfl, rfl⟩
theorem zcc_1 : za_cc 1 = cX0_isAtEnd := by unfold za_cc; rw [zq_1]; rfl
theorem zow_1 : za_ow 1 = 1 := by unfold za_ow; rw [zq_1]; rfl
theorem zmx_1 : za_mx 1 = 1 := by unfold za_mx; rw [zq_1]; rfl
theorem zre_1 : za_re 1 = (some FieldType.boolean) := by unfold za_re; rw [zq_1]; rfl
theorem znp_1 : za_np 1 = 0 := by unfold za_np; rw [zq_1]; rfl
theorem zfr_1 : za_fr 1 = 0 ∧ za_lo 1 = 0 ∧ za_im 1 = false := ⟨by unfold za_fr; rw [zq_1]; rfl, by unfold za_lo; rw [zq_1]; rfl, rfl⟩
theorem zcc_2 : za_cc 2 = cX0_next := by unfold za_cc; rw [zq_2]; rfl
theorem zow_2 : za_ow 2 = 1 := by unfold za_ow; rw [zq_2]; rfl
theorem zmx_2 : za_mx 2 = 3 := by unfold za_mx; rw [zq_2]; rfl
theorem zre_2 : za_re 2 = (some FieldType.int) := by unfold za_re; rw [zq_2]; rfl
theorem znp_2 : za_np 2 = 0 := by unfold za_np; rw [zq_2]; rfl
theorem zfr_2 : za_fr 2 = 0 ∧ za_lo 2 = 0 ∧ za_im 2 = false := ⟨by unfold za_fr; rw [zq_2]; rfl, by unfold za_lo; rw [zq_2]; rfl, rfl⟩
theorem zcc_3 : za_cc 3 = cX0_number := by unfold za_cc; rw [zq_3]; rfl
theorem zow_3 : za_ow 3 = 1 := by unfold za_ow; rw [zq_3]; rfl
theorem zmx_3 : za_mx 3 = 6 := by unfold za_mx; rw [zq_3]; rfl
theorem zre_3 : za_re 3 = (some FieldType.long) := by unfold za_re; rw [zq_3]; rfl
theorem znp_3 : za_np 3 = 1 := by unfold za_np; rw [zq_3]; rfl
theorem zfr_3 : za_fr 3 = 1 ∧ za_lo 3 = 22 ∧ za_im 3 = false := ⟨by unfold za_fr; rw [zq_3]; rfl, by unfold za_lo; rw [zq_3]; rfl, rfl⟩
theorem zcc_4 : za_cc 4 = cX0_bytesTouched := by unfold za_cc; rw [zq_4]; rfl
theorem zow_4 : za_ow 4 = 1 := by unfold za_ow; rw [zq_4]; rfl
theorem zmx_4 : za_mx 4 = 1 := by unfold za_mx; rw [zq_4]; rfl
theorem zre_4 : za_re 4 = (some FieldType.int) := by unfold za_re; rw [zq_4]; rfl
theorem znp_4 : za_np 4 = 0 := by unfold za_np; rw [zq_4]; rfl
theorem zfr_4 : za_fr 4 = 0 ∧ za_lo 4 = 0 ∧ za_im 4 = false := ⟨by unfold za_fr; rw [zq_4]; rfl, by unfold za_lo; rw [zq_4]; rfl, rfl⟩
theorem zcc_5 : za_cc 5 = cX1_init := by unfold za_cc; rw [zq_5]; rfl
theorem zow_5 : za_ow 5 = 2 := by unfold za_ow; rw [zq_5]; rfl
theorem zmx_5 : za_mx 5 = 2 := by unfold za_mx; rw [zq_5]; rfl
theorem zre_5 : za_re 5 = none := by unfold za_re; rw [zq_5]; rfl
theorem znp_5 : za_np 5 = 1 := by unfold za_np; rw [zq_5]; rfl
theorem zfr_5 : za_fr 5 = 1 ∧ za_lo 5 = 20 ∧ za_im 5 = true := ⟨by unfold za_fr; rw [zq_5]; rfl, by unfold za_lo; rw [zq_5]; rfl, rfl⟩
theorem zcc_6 : za_cc 6 = cX1_restart := by unfold za_cc; rw [zq_6]; rfl
theorem zow_6 : za_ow 6 = 2 := by unfold za_ow; rw [zq_6]; rfl
theorem zmx_6 : za_mx 6 = 1 := by unfold za_mx; rw [zq_6]; rfl
theorem zre_6 : za_re 6 = none := by unfold za_re; rw [zq_6]; rfl
theorem znp_6 : za_np 6 = 0 := by unfold za_np; rw [zq_6]; rfl
theorem zfr_6 : za_fr 6 = 2 ∧ za_lo 6 = 42 ∧ za_im 6 = false := ⟨by unfold za_fr; rw [zq_6]; rfl, by unfold za_lo; rw [zq_6]; rfl, rfl⟩
theorem zcc_7 : za_cc 7 = cX1_putBit := by unfold za_cc; rw [zq_7]; rfl
theorem zow_7 : za_ow 7 = 2 := by unfold za_ow; rw [zq_7]; rfl
theorem zmx_7 : za_mx 7 = 2 := by unfold za_mx; rw [zq_7]; rfl
theorem zre_7 : za_re 7 = none := by unfold za_re; rw [zq_7]; rfl
theorem znp_7 : za_np 7 = 1 := by unfold za_np; rw [zq_7]; rfl
theorem zfr_7 : za_fr 7 = 1 ∧ za_lo 7 = 21 ∧ za_im 7 = false := ⟨by unfold za_fr; rw [zq_7]; rfl, by unfold za_lo; rw [zq_7]; rfl, rfl⟩
theorem zcc_8 : za_cc 8 = cX1_put := by unfold za_cc; rw [zq_8]; rfl
theorem zow_8 : za_ow 8 = 2 := by unfold za_ow; rw [zq_8]; rfl
theorem zmx_8 : za_mx 8 = 5 := by unfold za_mx; rw [zq_8]; rfl
theorem zre_8 : za_re 8 = none := by unfold za_re; rw [zq_8]; rfl
theorem znp_8 : za_np 8 = 2 := by unfold za_np; rw [zq_8]; rfl
theorem zfr_8 : za_fr 8 = 2 ∧ za_lo 8 = 42 ∧ za_im 8 = false := ⟨by unfold za_fr; rw [zq_8]; rfl, by unfold za_lo; rw [zq_8]; rfl, rfl⟩
theorem zcc_9 : za_cc 9 = cX1_putOnes := by unfold za_cc; rw [zq_9]; rfl
theorem zow_9 : za_ow 9 = 2 := by unfold za_ow; rw [zq_9]; rfl
theorem zmx_9 : za_mx 9 = 3 := by unfold za_mx; rw [zq_9]; rfl
theorem zre_9 : za_re 9 = none := by unfold za_re; rw [zq_9]; rfl
theorem znp_9 : za_np 9 = 1 := by unfold za_np; rw [zq_9]; rfl
theorem zfr_9 : za_fr 9 = 2 ∧ za_lo 9 = 42 ∧ za_im 9 = false := ⟨by unfold za_fr; rw [zq_9]; rfl, by unfold za_lo; rw [zq_9]; rfl, rfl⟩
theorem zcc_10 : za_cc 10 = cX1_fillByte := by unfold za_cc; rw [zq_10]; rfl
theorem zow_10 : za_ow 10 = 2 := by unfold za_ow; rw [zq_10]; rfl
theorem zmx_10 : za_mx 10 = 2 := by unfold za_mx; rw [zq_10]; rfl
theorem zre_10 : za_re 10 = none := by unfold za_re; rw [zq_10]; rfl
theorem znp_10 : za_np 10 = 0 := by unfold za_np; rw [zq_10]; rfl
theorem zfr_10 : za_fr 10 = 2 ∧ za_lo 10 = 42 ∧ za_im 10 = false := ⟨by unfold za_fr; rw [zq_10]; rfl, by unfold za_lo; rw [zq_10]; rfl, rfl⟩
theorem zcc_11 : za_cc 11 = cX1_allFitted := by unfold za_cc; rw [zq_11]; rfl
theorem zow_11 : za_ow 11 = 2 := by unfold za_ow; rw [zq_11]; rfl
theorem zmx_11 : za_mx 11 = 1 := by unfold za_mx; rw [zq_11]; rfl
theorem zre_11 : za_re 11 = (some FieldType.boolean) := by unfold za_re; rw [zq_11]; rfl
theorem znp_11 : za_np 11 = 0 := by unfold za_np; rw [zq_11]; rfl
theorem zfr_11 : za_fr 11 = 0 ∧ za_lo 11 = 0 ∧ za_im 11 = false := ⟨by unfold za_fr; rw [zq_11]; rfl, by unfold za_lo; rw [zq_11]; rfl, rfl⟩
theorem zcc_12 : za_cc 12 = cX2_init := by unfold za_cc; rw [zq_12]; rfl
theorem zow_12 : za_ow 12 = 3 := by unfold za_ow; rw [zq_12]; rfl
theorem zmx_12 : za_mx 12 = 1 := by unfold za_mx; rw [zq_12]; rfl
theorem zre_12 : za_re 12 = none := by unfold za_re; rw [zq_12]; rfl
theorem znp_12 : za_np 12 = 0 := by unfold za_np; rw [zq_12]; rfl
theorem zfr_12 : za_fr 12 = 1 ∧ za_lo 12 = 20 ∧ za_im 12 = true := ⟨by unfold za_fr; rw [zq_12]; rfl, by unfold za_lo; rw [zq_12]; rfl, rfl⟩
theorem zcc_13 : za_cc 13 = cX2_make := by unfold za_cc; rw [zq_13]; rfl
theorem zow_13 : za_ow 13 = 3 := by unfold za_ow; rw [zq_13]; rfl
theorem zmx_13 : za_mx 13 = 7 := by unfold za_mx; rw [zq_13]; rfl
theorem zre_13 : za_re 13 = none := by unfold za_re; rw [zq_13]; rfl
theorem znp_13 : za_np 13 = 2 := by unfold za_np; rw [zq_13]; rfl
theorem zfr_13 : za_fr 13 = 0 ∧ za_lo 13 = 0 ∧ za_im 13 = false := ⟨by unfold za_fr; rw [zq_13]; rfl, by unfold za_lo; rw [zq_13]; rfl, rfl⟩
theorem zcc_14 : za_cc 14 = cX2_read := by unfold za_cc; rw [zq_14]; rfl
theorem zow_14 : za_ow 14 = 3 := by unfold za_ow; rw [zq_14]; rfl
theorem zmx_14 : za_mx 14 = 6 := by unfold za_mx; rw [zq_14]; rfl
theorem zre_14 : za_re 14 = (some FieldType.int) := by unfold za_re; rw [zq_14]; rfl
theorem znp_14 : za_np 14 = 1 := by unfold za_np; rw [zq_14]; rfl
theorem zfr_14 : za_fr 14 = 1 ∧ za_lo 14 = 22 ∧ za_im 14 = false := ⟨by unfold za_fr; rw [zq_14]; rfl, by unfold za_lo; rw [zq_14]; rfl, rfl⟩
theorem zcc_15 : za_cc 15 = cX3_init := by unfold za_cc; rw [zq_15]; rfl
theorem zow_15 : za_ow 15 = 4 := by unfold za_ow; rw [zq_15]; rfl
theorem zmx_15 : za_mx 15 = 1 := by unfold za_mx; rw [zq_15]; rfl
theorem zre_15 : za_re 15 = none := by unfold za_re; rw [zq_15]; rfl
theorem znp_15 : za_np 15 = 0 := by unfold za_np; rw [zq_15]; rfl
theorem zfr_15 : za_fr 15 = 1 ∧ za_lo 15 = 20 ∧ za_im 15 = true := ⟨by unfold za_fr; rw [zq_15]; rfl, by unfold za_lo; rw [zq_15]; rfl, rfl⟩
theorem zcc_16 : za_cc 16 = cX3_forget := by unfold za_cc; rw [zq_16]; rfl
theorem zow_16 : za_ow 16 = 4 := by unfold za_ow; rw [zq_16]; rfl
theorem zmx_16 : za_mx 16 = 1 := by unfold za_mx; rw [zq_16]; rfl
theorem zre_16 : za_re 16 = none := by unfold za_re; rw [zq_16]; rfl
theorem znp_16 : za_np 16 = 0 := by unfold za_np; rw [zq_16]; rfl
theorem zfr_16 : za_fr 16 = 0 ∧ za_lo 16 = 0 ∧ za_im 16 = false := ⟨by unfold za_fr; rw [zq_16]; rfl, by unfold za_lo; rw [zq_16]; rfl, rfl⟩
theorem zcc_17 : za_cc 17 = cX3_hasChoice := by unfold za_cc; rw [zq_17]; rfl
theorem zow_17 : za_ow 17 = 4 := by unfold za_ow; rw [zq_17]; rfl
theorem zmx_17 : za_mx 17 = 2 := by unfold za_mx; rw [zq_17]; rfl
theorem zre_17 : za_re 17 = (some FieldType.boolean) := by unfold za_re; rw [zq_17]; rfl
theorem znp_17 : za_np 17 = 1 := by unfold za_np; rw [zq_17]; rfl
theorem zfr_17 : za_fr 17 = 0 ∧ za_lo 17 = 0 ∧ za_im 17 = false := ⟨by unfold za_fr; rw [zq_17]; rfl, by unfold za_lo; rw [zq_17]; rfl, rfl⟩
theorem zcc_18 : za_cc 18 = cX3_hasLength := by unfold za_cc; rw [zq_18]; rfl
theorem zow_18 : za_ow 18 = 4 := by unfold za_ow; rw [zq_18]; rfl
theorem zmx_18 : za_mx 18 = 3 := by unfold za_mx; rw [zq_18]; rfl
theorem zre_18 : za_re 18 = (some FieldType.boolean) := by unfold za_re; rw [zq_18]; rfl
theorem znp_18 : za_np 18 = 2 := by unfold za_np; rw [zq_18]; rfl
theorem zfr_18 : za_fr 18 = 0 ∧ za_lo 18 = 0 ∧ za_im 18 = false := ⟨by unfold za_fr; rw [zq_18]; rfl, by unfold za_lo; rw [zq_18]; rfl, rfl⟩
theorem zcc_19 : za_cc 19 = cX3_chosen := by unfold za_cc; rw [zq_19]; rfl
theorem zow_19 : za_ow 19 = 4 := by unfold za_ow; rw [zq_19]; rfl
theorem zmx_19 : za_mx 19 = 2 := by unfold za_mx; rw [zq_19]; rfl
theorem zre_19 : za_re 19 = (some FieldType.int) := by unfold za_re; rw [zq_19]; rfl
theorem znp_19 : za_np 19 = 1 := by unfold za_np; rw [zq_19]; rfl
theorem zfr_19 : za_fr 19 = 1 ∧ za_lo 19 = 21 ∧ za_im 19 = false := ⟨by unfold za_fr; rw [zq_19]; rfl, by unfold za_lo; rw [zq_19]; rfl, rfl⟩
theorem zcc_20 : za_cc 20 = cX3_choose := by unfold za_cc; rw [zq_20]; rfl
theorem zow_20 : za_ow 20 = 4 := by unfold za_ow; rw [zq_20]; rfl
theorem zmx_20 : za_mx 20 = 3 := by unfold za_mx; rw [zq_20]; rfl
theorem zre_20 : za_re 20 = none := by unfold za_re; rw [zq_20]; rfl
theorem znp_20 : za_np 20 = 2 := by unfold za_np; rw [zq_20]; rfl
theorem zfr_20 : za_fr 20 = 0 ∧ za_lo 20 = 0 ∧ za_im 20 = false := ⟨by unfold za_fr; rw [zq_20]; rfl, by unfold za_lo; rw [zq_20]; rfl, rfl⟩
theorem zcc_21 : za_cc 21 = cX4_init := by unfold za_cc; rw [zq_21]; rfl
theorem zow_21 : za_ow 21 = 5 := by unfold za_ow; rw [zq_21]; rfl
theorem zmx_21 : za_mx 21 = 2 := by unfold za_mx; rw [zq_21]; rfl
theorem zre_21 : za_re 21 = none := by unfold za_re; rw [zq_21]; rfl
theorem znp_21 : za_np 21 = 1 := by unfold za_np; rw [zq_21]; rfl
theorem zfr_21 : za_fr 21 = 1 ∧ za_lo 21 = 21 ∧ za_im 21 = true := ⟨by unfold za_fr; rw [zq_21]; rfl, by unfold za_lo; rw [zq_21]; rfl, rfl⟩
theorem zcc_22 : za_cc 22 = cX4_clear := by unfold za_cc; rw [zq_22]; rfl
theorem zow_22 : za_ow 22 = 5 := by unfold za_ow; rw [zq_22]; rfl
theorem zmx_22 : za_mx 22 = 1 := by unfold za_mx; rw [zq_22]; rfl
theorem zre_22 : za_re 22 = none := by unfold za_re; rw [zq_22]; rfl
theorem znp_22 : za_np 22 = 0 := by unfold za_np; rw [zq_22]; rfl
theorem zfr_22 : za_fr 22 = 0 ∧ za_lo 22 = 0 ∧ za_im 22 = false := ⟨by unfold za_fr; rw [zq_22]; rfl, by unfold za_lo; rw [zq_22]; rfl, rfl⟩
theorem zcc_23 : za_cc 23 = cX4_add := by unfold za_cc; rw [zq_23]; rfl
theorem zow_23 : za_ow 23 = 5 := by unfold za_ow; rw [zq_23]; rfl
theorem zmx_23 : za_mx 23 = 2 := by unfold za_mx; rw [zq_23]; rfl
theorem zre_23 : za_re 23 = none := by unfold za_re; rw [zq_23]; rfl
theorem znp_23 : za_np 23 = 1 := by unfold za_np; rw [zq_23]; rfl
theorem zfr_23 : za_fr 23 = 0 ∧ za_lo 23 = 0 ∧ za_im 23 = false := ⟨by unfold za_fr; rw [zq_23]; rfl, by unfold za_lo; rw [zq_23]; rfl, rfl⟩
theorem zcc_24 : za_cc 24 = cX4_restart := by unfold za_cc; rw [zq_24]; rfl
theorem zow_24 : za_ow 24 = 5 := by unfold za_ow; rw [zq_24]; rfl
theorem zmx_24 : za_mx 24 = 3 := by unfold za_mx; rw [zq_24]; rfl
theorem zre_24 : za_re 24 = none := by unfold za_re; rw [zq_24]; rfl
theorem znp_24 : za_np 24 = 1 := by unfold za_np; rw [zq_24]; rfl
theorem zfr_24 : za_fr 24 = 1 ∧ za_lo 24 = 21 ∧ za_im 24 = false := ⟨by unfold za_fr; rw [zq_24]; rfl, by unfold za_lo; rw [zq_24]; rfl, rfl⟩
theorem zcc_25 : za_cc 25 = cX4_first := by unfold za_cc; rw [zq_25]; rfl
theorem zow_25 : za_ow 25 = 5 := by unfold za_ow; rw [zq_25]; rfl
theorem zmx_25 : za_mx 25 = 1 := by unfold za_mx; rw [zq_25]; rfl
theorem zre_25 : za_re 25 = (some FieldType.int) := by unfold za_re; rw [zq_25]; rfl
theorem znp_25 : za_np 25 = 0 := by unfold za_np; rw [zq_25]; rfl
theorem zfr_25 : za_fr 25 = 0 ∧ za_lo 25 = 0 ∧ za_im 25 = false := ⟨by unfold za_fr; rw [zq_25]; rfl, by unfold za_lo; rw [zq_25]; rfl, rfl⟩
theorem zcc_26 : za_cc 26 = cX4_takeAt := by unfold za_cc; rw [zq_26]; rfl
theorem zow_26 : za_ow 26 = 5 := by unfold za_ow; rw [zq_26]; rfl
theorem zmx_26 : za_mx 26 = 3 := by unfold za_mx; rw [zq_26]; rfl
theorem zre_26 : za_re 26 = (some FieldType.int) := by unfold za_re; rw [zq_26]; rfl
theorem znp_26 : za_np 26 = 1 := by unfold za_np; rw [zq_26]; rfl
theorem zfr_26 : za_fr 26 = 1 ∧ za_lo 26 = 48 ∧ za_im 26 = false := ⟨by unfold za_fr; rw [zq_26]; rfl, by unfold za_lo; rw [zq_26]; rfl, rfl⟩
theorem zcc_27 : za_cc 27 = cX4_placeOf := by unfold za_cc; rw [zq_27]; rfl
theorem zow_27 : za_ow 27 = 5 := by unfold za_ow; rw [zq_27]; rfl
theorem zmx_27 : za_mx 27 = 3 := by unfold za_mx; rw [zq_27]; rfl
theorem zre_27 : za_re 27 = (some FieldType.int) := by unfold za_re; rw [zq_27]; rfl
theorem znp_27 : za_np 27 = 1 := by unfold za_np; rw [zq_27]; rfl
theorem zfr_27 : za_fr 27 = 2 ∧ za_lo 27 = 70 ∧ za_im 27 = false := ⟨by unfold za_fr; rw [zq_27]; rfl, by unfold za_lo; rw [zq_27]; rfl, rfl⟩
theorem zcc_28 : za_cc 28 = cX5_init := by unfold za_cc; rw [zq_28]; rfl
theorem zow_28 : za_ow 28 = 6 := by unfold za_ow; rw [zq_28]; rfl
theorem zmx_28 : za_mx 28 = 6 := by unfold za_mx; rw [zq_28]; rfl
theorem zre_28 : za_re 28 = none := by unfold za_re; rw [zq_28]; rfl
theorem znp_28 : za_np 28 = 4 := by unfold za_np; rw [zq_28]; rfl
theorem zfr_28 : za_fr 28 = 2 ∧ za_lo 28 = 42 ∧ za_im 28 = true := ⟨by unfold za_fr; rw [zq_28]; rfl, by unfold za_lo; rw [zq_28]; rfl, rfl⟩
theorem zcc_29 : za_cc 29 = cX5_brokenAnswer := by unfold za_cc; rw [zq_29]; rfl
theorem zow_29 : za_ow 29 = 6 := by unfold za_ow; rw [zq_29]; rfl
theorem zmx_29 : za_mx 29 = 1 := by unfold za_mx; rw [zq_29]; rfl
theorem zre_29 : za_re 29 = (some FieldType.int) := by unfold za_re; rw [zq_29]; rfl
theorem znp_29 : za_np 29 = 0 := by unfold za_np; rw [zq_29]; rfl
theorem zfr_29 : za_fr 29 = 1 ∧ za_lo 29 = 20 ∧ za_im 29 = false := ⟨by unfold za_fr; rw [zq_29]; rfl, by unfold za_lo; rw [zq_29]; rfl, rfl⟩
theorem zcc_30 : za_cc 30 = cX5_openRows := by unfold za_cc; rw [zq_30]; rfl
theorem zow_30 : za_ow 30 = 6 := by unfold za_ow; rw [zq_30]; rfl
theorem zmx_30 : za_mx 30 = 2 := by unfold za_mx; rw [zq_30]; rfl
theorem zre_30 : za_re 30 = (some FieldType.boolean) := by unfold za_re; rw [zq_30]; rfl
theorem znp_30 : za_np 30 = 0 := by unfold za_np; rw [zq_30]; rfl
theorem zfr_30 : za_fr 30 = 6 ∧ za_lo 30 = 166 ∧ za_im 30 = false := ⟨by unfold za_fr; rw [zq_30]; rfl, by unfold za_lo; rw [zq_30]; rfl, rfl⟩
theorem zcc_31 : za_cc 31 = cX5_openAlone := by unfold za_cc; rw [zq_31]; rfl
theorem zow_31 : za_ow 31 = 6 := by unfold za_ow; rw [zq_31]; rfl
theorem zmx_31 : za_mx 31 = 2 := by unfold za_mx; rw [zq_31]; rfl
theorem zre_31 : za_re 31 = (some FieldType.boolean) := by unfold za_re; rw [zq_31]; rfl
theorem znp_31 : za_np 31 = 1 := by unfold za_np; rw [zq_31]; rfl
theorem zfr_31 : za_fr 31 = 5 ∧ za_lo 31 = 140 ∧ za_im 31 = false := ⟨by unfold za_fr; rw [zq_31]; rfl, by unfold za_lo; rw [zq_31]; rfl, rfl⟩
theorem zcc_32 : za_cc 32 = cX5_restart := by unfold za_cc; rw [zq_32]; rfl
theorem zow_32 : za_ow 32 = 6 := by unfold za_ow; rw [zq_32]; rfl
theorem zmx_32 : za_mx 32 = 2 := by unfold za_mx; rw [zq_32]; rfl
theorem zre_32 : za_re 32 = none := by unfold za_re; rw [zq_32]; rfl
theorem znp_32 : za_np 32 = 1 := by unfold za_np; rw [zq_32]; rfl
theorem zfr_32 : za_fr 32 = 2 ∧ za_lo 32 = 42 ∧ za_im 32 = false := ⟨by unfold za_fr; rw [zq_32]; rfl, by unfold za_lo; rw [zq_32]; rfl, rfl⟩
theorem zcc_33 : za_cc 33 = cX5_breaks := by unfold za_cc; rw [zq_33]; rfl
theorem zow_33 : za_ow 33 = 6 := by unfold za_ow; rw [zq_33]; rfl
theorem zmx_33 : za_mx 33 = 2 := by unfold za_mx; rw [zq_33]; rfl
theorem zre_33 : za_re 33 = (some FieldType.boolean) := by unfold za_re; rw [zq_33]; rfl
theorem znp_33 : za_np 33 = 1 := by unfold za_np; rw [zq_33]; rfl
theorem zfr_33 : za_fr 33 = 0 ∧ za_lo 33 = 0 ∧ za_im 33 = false := ⟨by unfold za_fr; rw [zq_33]; rfl, by unfold za_lo; rw [zq_33]; rfl, rfl⟩
theorem zcc_34 : za_cc 34 = cX5_openRow := by unfold za_cc; rw [zq_34]; rfl
theorem zow_34 : za_ow 34 = 6 := by unfold za_ow; rw [zq_34]; rfl
theorem zmx_34 : za_mx 34 = 7 := by unfold za_mx; rw [zq_34]; rfl
theorem zre_34 : za_re 34 = (some FieldType.boolean) := by unfold za_re; rw [zq_34]; rfl
theorem znp_34 : za_np 34 = 1 := by unfold za_np; rw [zq_34]; rfl
theorem zfr_34 : za_fr 34 = 5 ∧ za_lo 34 = 140 ∧ za_im 34 = false := ⟨by unfold za_fr; rw [zq_34]; rfl, by unfold za_lo; rw [zq_34]; rfl, rfl⟩
theorem zcc_35 : za_cc 35 = cX5_readRowHead := by unfold za_cc; rw [zq_35]; rfl
theorem zow_35 : za_ow 35 = 6 := by unfold za_ow; rw [zq_35]; rfl
theorem zmx_35 : za_mx 35 = 3 := by unfold za_mx; rw [zq_35]; rfl
theorem zre_35 : za_re 35 = (some FieldType.boolean) := by unfold za_re; rw [zq_35]; rfl
theorem znp_35 : za_np 35 = 0 := by unfold za_np; rw [zq_35]; rfl
theorem zfr_35 : za_fr 35 = 2 ∧ za_lo 35 = 47 ∧ za_im 35 = false := ⟨by unfold za_fr; rw [zq_35]; rfl, by unfold za_lo; rw [zq_35]; rfl, rfl⟩
theorem zcc_36 : za_cc 36 = cX5_fitsHead := by unfold za_cc; rw [zq_36]; rfl
theorem zow_36 : za_ow 36 = 6 := by unfold za_ow; rw [zq_36]; rfl
theorem zmx_36 : za_mx 36 = 2 := by unfold za_mx; rw [zq_36]; rfl
theorem zre_36 : za_re 36 = (some FieldType.boolean) := by unfold za_re; rw [zq_36]; rfl
theorem znp_36 : za_np 36 = 2 := by unfold za_np; rw [zq_36]; rfl
theorem zfr_36 : za_fr 36 = 0 ∧ za_lo 36 = 0 ∧ za_im 36 = false := ⟨by unfold za_fr; rw [zq_36]; rfl, by unfold za_lo; rw [zq_36]; rfl, rfl⟩
theorem zcc_37 : za_cc 37 = cX5_readRowEnd := by unfold za_cc; rw [zq_37]; rfl
theorem zow_37 : za_ow 37 = 6 := by unfold za_ow; rw [zq_37]; rfl
theorem zmx_37 : za_mx 37 = 5 := by unfold za_mx; rw [zq_37]; rfl
theorem zre_37 : za_re 37 = (some FieldType.boolean) := by unfold za_re; rw [zq_37]; rfl
theorem znp_37 : za_np 37 = 1 := by unfold za_np; rw [zq_37]; rfl
theorem zfr_37 : za_fr 37 = 2 ∧ za_lo 37 = 47 ∧ za_im 37 = false := ⟨by unfold za_fr; rw [zq_37]; rfl, by unfold za_lo; rw [zq_37]; rfl, rfl⟩
theorem zcc_38 : za_cc 38 = cX5_openBlock := by unfold za_cc; rw [zq_38]; rfl
theorem zow_38 : za_ow 38 = 6 := by unfold za_ow; rw [zq_38]; rfl
theorem zmx_38 : za_mx 38 = 3 := by unfold za_mx; rw [zq_38]; rfl
theorem zre_38 : za_re 38 = (some FieldType.boolean) := by unfold za_re; rw [zq_38]; rfl
theorem znp_38 : za_np 38 = 1 := by unfold za_np; rw [zq_38]; rfl
theorem zfr_38 : za_fr 38 = 4 ∧ za_lo 38 = 118 ∧ za_im 38 = false := ⟨by unfold za_fr; rw [zq_38]; rfl, by unfold za_lo; rw [zq_38]; rfl, rfl⟩
theorem zcc_39 : za_cc 39 = cX5_readHead := by unfold za_cc; rw [zq_39]; rfl
theorem zow_39 : za_ow 39 = 6 := by unfold za_ow; rw [zq_39]; rfl
theorem zmx_39 : za_mx 39 = 4 := by unfold za_mx; rw [zq_39]; rfl
theorem zre_39 : za_re 39 = (some FieldType.boolean) := by unfold za_re; rw [zq_39]; rfl
theorem znp_39 : za_np 39 = 0 := by unfold za_np; rw [zq_39]; rfl
theorem zfr_39 : za_fr 39 = 2 ∧ za_lo 39 = 47 ∧ za_im 39 = false := ⟨by unfold za_fr; rw [zq_39]; rfl, by unfold za_lo; rw [zq_39]; rfl, rfl⟩
theorem zcc_40 : za_cc 40 = cX5_readMap := by unfold za_cc; rw [zq_40]; rfl
theorem zow_40 : za_ow 40 = 6 := by unfold za_ow; rw [zq_40]; rfl
theorem zmx_40 : za_mx 40 = 5 := by unfold za_mx; rw [zq_40]; rfl
theorem zre_40 : za_re 40 = (some FieldType.boolean) := by unfold za_re; rw [zq_40]; rfl
theorem znp_40 : za_np 40 = 0 := by unfold za_np; rw [zq_40]; rfl
theorem zfr_40 : za_fr 40 = 2 ∧ za_lo 40 = 47 ∧ za_im 40 = false := ⟨by unfold za_fr; rw [zq_40]; rfl, by unfold za_lo; rw [zq_40]; rfl, rfl⟩
theorem zcc_41 : za_cc 41 = cX5_readChoices := by unfold za_cc; rw [zq_41]; rfl
theorem zow_41 : za_ow 41 = 6 := by unfold za_ow; rw [zq_41]; rfl
theorem zmx_41 : za_mx 41 = 5 := by unfold za_mx; rw [zq_41]; rfl
theorem zre_41 : za_re 41 = (some FieldType.boolean) := by unfold za_re; rw [zq_41]; rfl
theorem znp_41 : za_np 41 = 1 := by unfold za_np; rw [zq_41]; rfl
theorem zfr_41 : za_fr 41 = 3 ∧ za_lo 41 = 94 ∧ za_im 41 = false := ⟨by unfold za_fr; rw [zq_41]; rfl, by unfold za_lo; rw [zq_41]; rfl, rfl⟩
theorem zcc_42 : za_cc 42 = cX5_readChoice := by unfold za_cc; rw [zq_42]; rfl
theorem zow_42 : za_ow 42 = 6 := by unfold za_ow; rw [zq_42]; rfl
theorem zmx_42 : za_mx 42 = 5 := by unfold za_mx; rw [zq_42]; rfl
theorem zre_42 : za_re 42 = (some FieldType.boolean) := by unfold za_re; rw [zq_42]; rfl
theorem znp_42 : za_np 42 = 2 := by unfold za_np; rw [zq_42]; rfl
theorem zfr_42 : za_fr 42 = 2 ∧ za_lo 42 = 70 ∧ za_im 42 = false := ⟨by unfold za_fr; rw [zq_42]; rfl, by unfold za_lo; rw [zq_42]; rfl, rfl⟩
theorem zcc_43 : za_cc 43 = cX5_readLengths := by unfold za_cc; rw [zq_43]; rfl
theorem zow_43 : za_ow 43 = 6 := by unfold za_ow; rw [zq_43]; rfl
theorem zmx_43 : za_mx 43 = 5 := by unfold za_mx; rw [zq_43]; rfl
theorem zre_43 : za_re 43 = (some FieldType.boolean) := by unfold za_re; rw [zq_43]; rfl
theorem znp_43 : za_np 43 = 1 := by unfold za_np; rw [zq_43]; rfl
theorem zfr_43 : za_fr 43 = 2 ∧ za_lo 43 = 47 ∧ za_im 43 = false := ⟨by unfold za_fr; rw [zq_43]; rfl, by unfold za_lo; rw [zq_43]; rfl, rfl⟩
theorem zcc_44 : za_cc 44 = cX5_changedLength := by unfold za_cc; rw [zq_44]; rfl
theorem zow_44 : za_ow 44 = 6 := by unfold za_ow; rw [zq_44]; rfl
theorem zmx_44 : za_mx 44 = 6 := by unfold za_mx; rw [zq_44]; rfl
theorem zre_44 : za_re 44 = (some FieldType.int) := by unfold za_re; rw [zq_44]; rfl
theorem znp_44 : za_np 44 = 1 := by unfold za_np; rw [zq_44]; rfl
theorem zfr_44 : za_fr 44 = 1 ∧ za_lo 44 = 22 ∧ za_im 44 = false := ⟨by unfold za_fr; rw [zq_44]; rfl, by unfold za_lo; rw [zq_44]; rfl, rfl⟩
theorem zcc_45 : za_cc 45 = cX5_isLength := by unfold za_cc; rw [zq_45]; rfl
theorem zow_45 : za_ow 45 = 6 := by unfold za_ow; rw [zq_45]; rfl
theorem zmx_45 : za_mx 45 = 1 := by unfold za_mx; rw [zq_45]; rfl
theorem zre_45 : za_re 45 = (some FieldType.boolean) := by unfold za_re; rw [zq_45]; rfl
theorem znp_45 : za_np 45 = 1 := by unfold za_np; rw [zq_45]; rfl
theorem zfr_45 : za_fr 45 = 0 ∧ za_lo 45 = 0 ∧ za_im 45 = false := ⟨by unfold za_fr; rw [zq_45]; rfl, by unfold za_lo; rw [zq_45]; rfl, rfl⟩
theorem zcc_46 : za_cc 46 = cX5_readNumbers := by unfold za_cc; rw [zq_46]; rfl
theorem zow_46 : za_ow 46 = 6 := by unfold za_ow; rw [zq_46]; rfl
theorem zmx_46 : za_mx 46 = 7 := by unfold za_mx; rw [zq_46]; rfl
theorem zre_46 : za_re 46 = (some FieldType.boolean) := by unfold za_re; rw [zq_46]; rfl
theorem znp_46 : za_np 46 = 2 := by unfold za_np; rw [zq_46]; rfl
theorem zfr_46 : za_fr 46 = 2 ∧ za_lo 46 = 70 ∧ za_im 46 = false := ⟨by unfold za_fr; rw [zq_46]; rfl, by unfold za_lo; rw [zq_46]; rfl, rfl⟩
theorem zcc_47 : za_cc 47 = cX5_addLast := by unfold za_cc; rw [zq_47]; rfl
theorem zow_47 : za_ow 47 = 6 := by unfold za_ow; rw [zq_47]; rfl
theorem zmx_47 : za_mx 47 = 5 := by unfold za_mx; rw [zq_47]; rfl
theorem zre_47 : za_re 47 = (some FieldType.boolean) := by unfold za_re; rw [zq_47]; rfl
theorem znp_47 : za_np 47 = 3 := by unfold za_np; rw [zq_47]; rfl
theorem zfr_47 : za_fr 47 = 0 ∧ za_lo 47 = 0 ∧ za_im 47 = false := ⟨by unfold za_fr; rw [zq_47]; rfl, by unfold za_lo; rw [zq_47]; rfl, rfl⟩
theorem zcc_48 : za_cc 48 = cX5_turnBlockBack := by unfold za_cc; rw [zq_48]; rfl
theorem zow_48 : za_ow 48 = 6 := by unfold za_ow; rw [zq_48]; rfl
theorem zmx_48 : za_mx 48 = 1 := by unfold za_mx; rw [zq_48]; rfl
theorem zre_48 : za_re 48 = (some FieldType.boolean) := by unfold za_re; rw [zq_48]; rfl
theorem znp_48 : za_np 48 = 0 := by unfold za_np; rw [zq_48]; rfl
theorem zfr_48 : za_fr 48 = 2 ∧ za_lo 48 = 49 ∧ za_im 48 = false := ⟨by unfold za_fr; rw [zq_48]; rfl, by unfold za_lo; rw [zq_48]; rfl, rfl⟩
theorem zcc_49 : za_cc 49 = cX5_writeOut := by unfold za_cc; rw [zq_49]; rfl
theorem zow_49 : za_ow 49 = 6 := by unfold za_ow; rw [zq_49]; rfl
theorem zmx_49 : za_mx 49 = 3 := by unfold za_mx; rw [zq_49]; rfl
theorem zre_49 : za_re 49 = (some FieldType.boolean) := by unfold za_re; rw [zq_49]; rfl
theorem znp_49 : za_np 49 = 0 := by unfold za_np; rw [zq_49]; rfl
theorem zfr_49 : za_fr 49 = 2 ∧ za_lo 49 = 49 ∧ za_im 49 = false := ⟨by unfold za_fr; rw [zq_49]; rfl, by unfold za_lo; rw [zq_49]; rfl, rfl⟩
theorem zcc_50 : za_cc 50 = cX5_plainSize := by unfold za_cc; rw [zq_50]; rfl
theorem zow_50 : za_ow 50 = 6 := by unfold za_ow; rw [zq_50]; rfl
theorem zmx_50 : za_mx 50 = 4 := by unfold za_mx; rw [zq_50]; rfl
theorem zre_50 : za_re 50 = (some FieldType.int) := by unfold za_re; rw [zq_50]; rfl
theorem znp_50 : za_np 50 = 0 := by unfold za_np; rw [zq_50]; rfl
theorem zfr_50 : za_fr 50 = 0 ∧ za_lo 50 = 0 ∧ za_im 50 = false := ⟨by unfold za_fr; rw [zq_50]; rfl, by unfold za_lo; rw [zq_50]; rfl, rfl⟩
theorem zcc_51 : za_cc 51 = cX5_lengthenRuns := by unfold za_cc; rw [zq_51]; rfl
theorem zow_51 : za_ow 51 = 6 := by unfold za_ow; rw [zq_51]; rfl
theorem zmx_51 : za_mx 51 = 7 := by unfold za_mx; rw [zq_51]; rfl
theorem zre_51 : za_re 51 = (some FieldType.int) := by unfold za_re; rw [zq_51]; rfl
theorem znp_51 : za_np 51 = 0 := by unfold za_np; rw [zq_51]; rfl
theorem zfr_51 : za_fr 51 = 1 ∧ za_lo 51 = 23 ∧ za_im 51 = false := ⟨by unfold za_fr; rw [zq_51]; rfl, by unfold za_lo; rw [zq_51]; rfl, rfl⟩
theorem zcc_52 : za_cc 52 = cX6_init := by unfold za_cc; rw [zq_52]; rfl
theorem zow_52 : za_ow 52 = 7 := by unfold za_ow; rw [zq_52]; rfl
theorem zmx_52 : za_mx 52 = 5 := by unfold za_mx; rw [zq_52]; rfl
theorem zre_52 : za_re 52 = none := by unfold za_re; rw [zq_52]; rfl
theorem znp_52 : za_np 52 = 3 := by unfold za_np; rw [zq_52]; rfl
theorem zfr_52 : za_fr 52 = 2 ∧ za_lo 52 = 42 ∧ za_im 52 = true := ⟨by unfold za_fr; rw [zq_52]; rfl, by unfold za_lo; rw [zq_52]; rfl, rfl⟩
theorem zcc_53 : za_cc 53 = cX6_packAll := by unfold za_cc; rw [zq_53]; rfl
theorem zow_53 : za_ow 53 = 7 := by unfold za_ow; rw [zq_53]; rfl
theorem zmx_53 : za_mx 53 = 7 := by unfold za_mx; rw [zq_53]; rfl
theorem zre_53 : za_re 53 = (some FieldType.boolean) := by unfold za_re; rw [zq_53]; rfl
theorem znp_53 : za_np 53 = 2 := by unfold za_np; rw [zq_53]; rfl
theorem zfr_53 : za_fr 53 = 5 ∧ za_lo 53 = 138 ∧ za_im 53 = false := ⟨by unfold za_fr; rw [zq_53]; rfl, by unfold za_lo; rw [zq_53]; rfl, rfl⟩
theorem zcc_54 : za_cc 54 = cX6_sumBetween := by unfold za_cc; rw [zq_54]; rfl
theorem zow_54 : za_ow 54 = 7 := by unfold za_ow; rw [zq_54]; rfl
theorem zmx_54 : za_mx 54 = 5 := by unfold za_mx; rw [zq_54]; rfl
theorem zre_54 : za_re 54 = (some FieldType.int) := by unfold za_re; rw [zq_54]; rfl
theorem znp_54 : za_np 54 = 3 := by unfold za_np; rw [zq_54]; rfl
theorem zfr_54 : za_fr 54 = 2 ∧ za_lo 54 = 42 ∧ za_im 54 = false := ⟨by unfold za_fr; rw [zq_54]; rfl, by unfold za_lo; rw [zq_54]; rfl, rfl⟩
theorem zcc_55 : za_cc 55 = cX6_shortenRuns := by unfold za_cc; rw [zq_55]; rfl
theorem zow_55 : za_ow 55 = 7 := by unfold za_ow; rw [zq_55]; rfl
theorem zmx_55 : za_mx 55 = 8 := by unfold za_mx; rw [zq_55]; rfl
theorem zre_55 : za_re 55 = (some FieldType.int) := by unfold za_re; rw [zq_55]; rfl
theorem znp_55 : za_np 55 = 3 := by unfold za_np; rw [zq_55]; rfl
theorem zfr_55 : za_fr 55 = 3 ∧ za_lo 55 = 64 ∧ za_im 55 = false := ⟨by unfold za_fr; rw [zq_55]; rfl, by unfold za_lo; rw [zq_55]; rfl, rfl⟩
theorem zcc_56 : za_cc 56 = cX6_runFrom := by unfold za_cc; rw [zq_56]; rfl
theorem zow_56 : za_ow 56 = 7 := by unfold za_ow; rw [zq_56]; rfl
theorem zmx_56 : za_mx 56 = 3 := by unfold za_mx; rw [zq_56]; rfl
theorem zre_56 : za_re 56 = (some FieldType.int) := by unfold za_re; rw [zq_56]; rfl
theorem znp_56 : za_np 56 = 2 := by unfold za_np; rw [zq_56]; rfl
theorem zfr_56 : za_fr 56 = 2 ∧ za_lo 56 = 42 ∧ za_im 56 = false := ⟨by unfold za_fr; rw [zq_56]; rfl, by unfold za_lo; rw [zq_56]; rfl, rfl⟩
theorem zcc_57 : za_cc 57 = cX6_packBlock := by unfold za_cc; rw [zq_57]; rfl
theorem zow_57 : za_ow 57 = 7 := by unfold za_ow; rw [zq_57]; rfl
theorem zmx_57 : za_mx 57 = 4 := by unfold za_mx; rw [zq_57]; rfl
theorem zre_57 : za_re 57 = none := by unfold za_re; rw [zq_57]; rfl
theorem znp_57 : za_np 57 = 2 := by unfold za_np; rw [zq_57]; rfl
theorem zfr_57 : za_fr 57 = 4 ∧ za_lo 57 = 115 ∧ za_im 57 = false := ⟨by unfold za_fr; rw [zq_57]; rfl, by unfold za_lo; rw [zq_57]; rfl, rfl⟩
theorem zcc_58 : za_cc 58 = cX6_noteFacts := by unfold za_cc; rw [zq_58]; rfl
theorem zow_58 : za_ow 58 = 7 := by unfold za_ow; rw [zq_58]; rfl
theorem zmx_58 : za_mx 58 = 4 := by unfold za_mx; rw [zq_58]; rfl
theorem zre_58 : za_re 58 = none := by unfold za_re; rw [zq_58]; rfl
theorem znp_58 : za_np 58 = 3 := by unfold za_np; rw [zq_58]; rfl
theorem zfr_58 : za_fr 58 = 1 ∧ za_lo 58 = 22 ∧ za_im 58 = false := ⟨by unfold za_fr; rw [zq_58]; rfl, by unfold za_lo; rw [zq_58]; rfl, rfl⟩
theorem zcc_59 : za_cc 59 = cX6_findSigns := by unfold za_cc; rw [zq_59]; rfl
theorem zow_59 : za_ow 59 = 7 := by unfold za_ow; rw [zq_59]; rfl
theorem zmx_59 : za_mx 59 = 2 := by unfold za_mx; rw [zq_59]; rfl
theorem zre_59 : za_re 59 = none := by unfold za_re; rw [zq_59]; rfl
theorem znp_59 : za_np 59 = 0 := by unfold za_np; rw [zq_59]; rfl
theorem zfr_59 : za_fr 59 = 1 ∧ za_lo 59 = 23 ∧ za_im 59 = false := ⟨by unfold za_fr; rw [zq_59]; rfl, by unfold za_lo; rw [zq_59]; rfl, rfl⟩
theorem zcc_60 : za_cc 60 = cX6_makeNumbers := by unfold za_cc; rw [zq_60]; rfl
theorem zow_60 : za_ow 60 = 7 := by unfold za_ow; rw [zq_60]; rfl
theorem zmx_60 : za_mx 60 = 4 := by unfold za_mx; rw [zq_60]; rfl
theorem zre_60 : za_re 60 = none := by unfold za_re; rw [zq_60]; rfl
theorem znp_60 : za_np 60 = 0 := by unfold za_np; rw [zq_60]; rfl
theorem zfr_60 : za_fr 60 = 3 ∧ za_lo 60 = 92 ∧ za_im 60 = false := ⟨by unfold za_fr; rw [zq_60]; rfl, by unfold za_lo; rw [zq_60]; rfl, rfl⟩
theorem zcc_61 : za_cc 61 = cX6_addDigits := by unfold za_cc; rw [zq_61]; rfl
theorem zow_61 : za_ow 61 = 7 := by unfold za_ow; rw [zq_61]; rfl
theorem zmx_61 : za_mx 61 = 3 := by unfold za_mx; rw [zq_61]; rfl
theorem zre_61 : za_re 61 = none := by unfold za_re; rw [zq_61]; rfl
theorem znp_61 : za_np 61 = 1 := by unfold za_np; rw [zq_61]; rfl
theorem zfr_61 : za_fr 61 = 1 ∧ za_lo 61 = 21 ∧ za_im 61 = false := ⟨by unfold za_fr; rw [zq_61]; rfl, by unfold za_lo; rw [zq_61]; rfl, rfl⟩
theorem zcc_62 : za_cc 62 = cX6_addNumber := by unfold za_cc; rw [zq_62]; rfl
theorem zow_62 : za_ow 62 = 7 := by unfold za_ow; rw [zq_62]; rfl
theorem zmx_62 : za_mx 62 = 2 := by unfold za_mx; rw [zq_62]; rfl
theorem zre_62 : za_re 62 = none := by unfold za_re; rw [zq_62]; rfl
theorem znp_62 : za_np 62 = 1 := by unfold za_np; rw [zq_62]; rfl
theorem zfr_62 : za_fr 62 = 0 ∧ za_lo 62 = 0 ∧ za_im 62 = false := ⟨by unfold za_fr; rw [zq_62]; rfl, by unfold za_lo; rw [zq_62]; rfl, rfl⟩
theorem zcc_63 : za_cc 63 = cX6_writeHead := by unfold za_cc; rw [zq_63]; rfl
theorem zow_63 : za_ow 63 = 7 := by unfold za_ow; rw [zq_63]; rfl
theorem zmx_63 : za_mx 63 = 2 := by unfold za_mx; rw [zq_63]; rfl
theorem zre_63 : za_re 63 = none := by unfold za_re; rw [zq_63]; rfl
theorem znp_63 : za_np 63 = 1 := by unfold za_np; rw [zq_63]; rfl
theorem zfr_63 : za_fr 63 = 3 ∧ za_lo 63 = 66 ∧ za_im 63 = false := ⟨by unfold za_fr; rw [zq_63]; rfl, by unfold za_lo; rw [zq_63]; rfl, rfl⟩
theorem zcc_64 : za_cc 64 = cX6_writeMap := by unfold za_cc; rw [zq_64]; rfl
theorem zow_64 : za_ow 64 = 7 := by unfold za_ow; rw [zq_64]; rfl
theorem zmx_64 : za_mx 64 = 3 := by unfold za_mx; rw [zq_64]; rfl
theorem zre_64 : za_re 64 = none := by unfold za_re; rw [zq_64]; rfl
theorem znp_64 : za_np 64 = 0 := by unfold za_np; rw [zq_64]; rfl
theorem zfr_64 : za_fr 64 = 3 ∧ za_lo 64 = 66 ∧ za_im 64 = false := ⟨by unfold za_fr; rw [zq_64]; rfl, by unfold za_lo; rw [zq_64]; rfl, rfl⟩
theorem zcc_65 : za_cc 65 = cX6_sixteenFrom := by unfold za_cc; rw [zq_65]; rfl
theorem zow_65 : za_ow 65 = 7 := by unfold za_ow; rw [zq_65]; rfl
theorem zmx_65 : za_mx 65 = 4 := by unfold za_mx; rw [zq_65]; rfl
theorem zre_65 : za_re 65 = (some FieldType.int) := by unfold za_re; rw [zq_65]; rfl
theorem znp_65 : za_np 65 = 1 := by unfold za_np; rw [zq_65]; rfl
theorem zfr_65 : za_fr 65 = 0 ∧ za_lo 65 = 0 ∧ za_im 65 = false := ⟨by unfold za_fr; rw [zq_65]; rfl, by unfold za_lo; rw [zq_65]; rfl, rfl⟩
theorem zcc_66 : za_cc 66 = cX6_writeChoices := by unfold za_cc; rw [zq_66]; rfl
theorem zow_66 : za_ow 66 = 7 := by unfold za_ow; rw [zq_66]; rfl
theorem zmx_66 : za_mx 66 = 3 := by unfold za_mx; rw [zq_66]; rfl
theorem zre_66 : za_re 66 = none := by unfold za_re; rw [zq_66]; rfl
theorem znp_66 : za_np 66 = 1 := by unfold za_np; rw [zq_66]; rfl
theorem zfr_66 : za_fr 66 = 3 ∧ za_lo 66 = 92 ∧ za_im 66 = false := ⟨by unfold za_fr; rw [zq_66]; rfl, by unfold za_lo; rw [zq_66]; rfl, rfl⟩
theorem zcc_67 : za_cc 67 = cX6_writeLengths := by unfold za_cc; rw [zq_67]; rfl
theorem zow_67 : za_ow 67 = 7 := by unfold za_ow; rw [zq_67]; rfl
theorem zmx_67 : za_mx 67 = 7 := by unfold za_mx; rw [zq_67]; rfl
theorem zre_67 : za_re 67 = none := by unfold za_re; rw [zq_67]; rfl
theorem znp_67 : za_np 67 = 1 := by unfold za_np; rw [zq_67]; rfl
theorem zfr_67 : za_fr 67 = 3 ∧ za_lo 67 = 66 ∧ za_im 67 = false := ⟨by unfold za_fr; rw [zq_67]; rfl, by unfold za_lo; rw [zq_67]; rfl, rfl⟩
theorem zcc_68 : za_cc 68 = cX6_writeCodes := by unfold za_cc; rw [zq_68]; rfl
theorem zow_68 : za_ow 68 = 7 := by unfold za_ow; rw [zq_68]; rfl
theorem zmx_68 : za_mx 68 = 4 := by unfold za_mx; rw [zq_68]; rfl
theorem zre_68 : za_re 68 = none := by unfold za_re; rw [zq_68]; rfl
theorem znp_68 : za_np 68 = 1 := by unfold za_np; rw [zq_68]; rfl
theorem zfr_68 : za_fr 68 = 3 ∧ za_lo 68 = 66 ∧ za_im 68 = false := ⟨by unfold za_fr; rw [zq_68]; rfl, by unfold za_lo; rw [zq_68]; rfl, rfl⟩
theorem zcc_69 : za_cc 69 = cX7_init := by unfold za_cc; rw [zq_69]; rfl
theorem zow_69 : za_ow 69 = 8 := by unfold za_ow; rw [zq_69]; rfl
theorem zmx_69 : za_mx 69 = 2 := by unfold za_mx; rw [zq_69]; rfl
theorem zre_69 : za_re 69 = none := by unfold za_re; rw [zq_69]; rfl
theorem znp_69 : za_np 69 = 1 := by unfold za_np; rw [zq_69]; rfl
theorem zfr_69 : za_fr 69 = 1 ∧ za_lo 69 = 21 ∧ za_im 69 = true := ⟨by unfold za_fr; rw [zq_69]; rfl, by unfold za_lo; rw [zq_69]; rfl, rfl⟩
theorem zcc_70 : za_cc 70 = cX7_hasRoom := by unfold za_cc; rw [zq_70]; rfl
theorem zow_70 : za_ow 70 = 8 := by unfold za_ow; rw [zq_70]; rfl
theorem zmx_70 : za_mx 70 = 2 := by unfold za_mx; rw [zq_70]; rfl
theorem zre_70 : za_re 70 = (some FieldType.boolean) := by unfold za_re; rw [zq_70]; rfl
theorem znp_70 : za_np 70 = 1 := by unfold za_np; rw [zq_70]; rfl
theorem zfr_70 : za_fr 70 = 0 ∧ za_lo 70 = 0 ∧ za_im 70 = false := ⟨by unfold za_fr; rw [zq_70]; rfl, by unfold za_lo; rw [zq_70]; rfl, rfl⟩
theorem zcc_71 : za_cc 71 = cX7_has := by unfold za_cc; rw [zq_71]; rfl
theorem zow_71 : za_ow 71 = 8 := by unfold za_ow; rw [zq_71]; rfl
theorem zmx_71 : za_mx 71 = 2 := by unfold za_mx; rw [zq_71]; rfl
theorem zre_71 : za_re 71 = (some FieldType.boolean) := by unfold za_re; rw [zq_71]; rfl
theorem znp_71 : za_np 71 = 1 := by unfold za_np; rw [zq_71]; rfl
theorem zfr_71 : za_fr 71 = 0 ∧ za_lo 71 = 0 ∧ za_im 71 = false := ⟨by unfold za_fr; rw [zq_71]; rfl, by unfold za_lo; rw [zq_71]; rfl, rfl⟩
theorem zcc_72 : za_cc 72 = cX7_at := by unfold za_cc; rw [zq_72]; rfl
theorem zow_72 : za_ow 72 = 8 := by unfold za_ow; rw [zq_72]; rfl
theorem zmx_72 : za_mx 72 = 2 := by unfold za_mx; rw [zq_72]; rfl
theorem zre_72 : za_re 72 = (some FieldType.int) := by unfold za_re; rw [zq_72]; rfl
theorem znp_72 : za_np 72 = 1 := by unfold za_np; rw [zq_72]; rfl
theorem zfr_72 : za_fr 72 = 1 ∧ za_lo 72 = 21 ∧ za_im 72 = false := ⟨by unfold za_fr; rw [zq_72]; rfl, by unfold za_lo; rw [zq_72]; rfl, rfl⟩
theorem zcc_73 : za_cc 73 = cX7_set := by unfold za_cc; rw [zq_73]; rfl
theorem zow_73 : za_ow 73 = 8 := by unfold za_ow; rw [zq_73]; rfl
theorem zmx_73 : za_mx 73 = 3 := by unfold za_mx; rw [zq_73]; rfl
theorem zre_73 : za_re 73 = none := by unfold za_re; rw [zq_73]; rfl
theorem znp_73 : za_np 73 = 2 := by unfold za_np; rw [zq_73]; rfl
theorem zfr_73 : za_fr 73 = 1 ∧ za_lo 73 = 21 ∧ za_im 73 = false := ⟨by unfold za_fr; rw [zq_73]; rfl, by unfold za_lo; rw [zq_73]; rfl, rfl⟩
theorem zcc_74 : za_cc 74 = cX7_add := by unfold za_cc; rw [zq_74]; rfl
theorem zow_74 : za_ow 74 = 8 := by unfold za_ow; rw [zq_74]; rfl
theorem zmx_74 : za_mx 74 = 2 := by unfold za_mx; rw [zq_74]; rfl
theorem zre_74 : za_re 74 = none := by unfold za_re; rw [zq_74]; rfl
theorem znp_74 : za_np 74 = 1 := by unfold za_np; rw [zq_74]; rfl
theorem zfr_74 : za_fr 74 = 0 ∧ za_lo 74 = 0 ∧ za_im 74 = false := ⟨by unfold za_fr; rw [zq_74]; rfl, by unfold za_lo; rw [zq_74]; rfl, rfl⟩
theorem zcc_75 : za_cc 75 = cX7_addNumber := by unfold za_cc; rw [zq_75]; rfl
theorem zow_75 : za_ow 75 = 8 := by unfold za_ow; rw [zq_75]; rfl
theorem zmx_75 : za_mx 75 = 3 := by unfold za_mx; rw [zq_75]; rfl
theorem zre_75 : za_re 75 = none := by unfold za_re; rw [zq_75]; rfl
theorem znp_75 : za_np 75 = 1 := by unfold za_np; rw [zq_75]; rfl
theorem zfr_75 : za_fr 75 = 1 ∧ za_lo 75 = 21 ∧ za_im 75 = false := ⟨by unfold za_fr; rw [zq_75]; rfl, by unfold za_lo; rw [zq_75]; rfl, rfl⟩
theorem zcc_76 : za_cc 76 = cX7_addAll := by unfold za_cc; rw [zq_76]; rfl
theorem zow_76 : za_ow 76 = 8 := by unfold za_ow; rw [zq_76]; rfl
theorem zmx_76 : za_mx 76 = 3 := by unfold za_mx; rw [zq_76]; rfl
theorem zre_76 : za_re 76 = none := by unfold za_re; rw [zq_76]; rfl
theorem znp_76 : za_np 76 = 1 := by unfold za_np; rw [zq_76]; rfl
theorem zfr_76 : za_fr 76 = 1 ∧ za_lo 76 = 48 ∧ za_im 76 = false := ⟨by unfold za_fr; rw [zq_76]; rfl, by unfold za_lo; rw [zq_76]; rfl, rfl⟩
theorem zcc_77 : za_cc 77 = cX7_cutTo := by unfold za_cc; rw [zq_77]; rfl
theorem zow_77 : za_ow 77 = 8 := by unfold za_ow; rw [zq_77]; rfl
theorem zmx_77 : za_mx 77 = 2 := by unfold za_mx; rw [zq_77]; rfl
theorem zre_77 : za_re 77 = none := by unfold za_re; rw [zq_77]; rfl
theorem znp_77 : za_np 77 = 1 := by unfold za_np; rw [zq_77]; rfl
theorem zfr_77 : za_fr 77 = 1 ∧ za_lo 77 = 21 ∧ za_im 77 = false := ⟨by unfold za_fr; rw [zq_77]; rfl, by unfold za_lo; rw [zq_77]; rfl, rfl⟩
theorem zcc_78 : za_cc 78 = cX7_dropFirst := by unfold za_cc; rw [zq_78]; rfl
theorem zow_78 : za_ow 78 = 8 := by unfold za_ow; rw [zq_78]; rfl
theorem zmx_78 : za_mx 78 = 3 := by unfold za_mx; rw [zq_78]; rfl
theorem zre_78 : za_re 78 = none := by unfold za_re; rw [zq_78]; rfl
theorem znp_78 : za_np 78 = 1 := by unfold za_np; rw [zq_78]; rfl
theorem zfr_78 : za_fr 78 = 1 ∧ za_lo 78 = 48 ∧ za_im 78 = false := ⟨by unfold za_fr; rw [zq_78]; rfl, by unfold za_lo; rw [zq_78]; rfl, rfl⟩
theorem zcc_79 : za_cc 79 = cX8_init := by unfold za_cc; rw [zq_79]; rfl
theorem zow_79 : za_ow 79 = 9 := by unfold za_ow; rw [zq_79]; rfl
theorem zmx_79 : za_mx 79 = 1 := by unfold za_mx; rw [zq_79]; rfl
theorem zre_79 : za_re 79 = none := by unfold za_re; rw [zq_79]; rfl
theorem znp_79 : za_np 79 = 0 := by unfold za_np; rw [zq_79]; rfl
theorem zfr_79 : za_fr 79 = 1 ∧ za_lo 79 = 20 ∧ za_im 79 = true := ⟨by unfold za_fr; rw [zq_79]; rfl, by unfold za_lo; rw [zq_79]; rfl, rfl⟩
theorem zcc_80 : za_cc 80 = cX8_makeTables := by unfold za_cc; rw [zq_80]; rfl
theorem zow_80 : za_ow 80 = 9 := by unfold za_ow; rw [zq_80]; rfl
theorem zmx_80 : za_mx 80 = 6 := by unfold za_mx; rw [zq_80]; rfl
theorem zre_80 : za_re 80 = none := by unfold za_re; rw [zq_80]; rfl
theorem znp_80 : za_np 80 = 3 := by unfold za_np; rw [zq_80]; rfl
theorem zfr_80 : za_fr 80 = 3 ∧ za_lo 80 = 73 ∧ za_im 80 = false := ⟨by unfold za_fr; rw [zq_80]; rfl, by unfold za_lo; rw [zq_80]; rfl, rfl⟩
theorem zcc_81 : za_cc 81 = cX8_tablesFor := by unfold za_cc; rw [zq_81]; rfl
theorem zow_81 : za_ow 81 = 9 := by unfold za_ow; rw [zq_81]; rfl
theorem zmx_81 : za_mx 81 = 1 := by unfold za_mx; rw [zq_81]; rfl
theorem zre_81 : za_re 81 = (some FieldType.int) := by unfold za_re; rw [zq_81]; rfl
theorem znp_81 : za_np 81 = 1 := by unfold za_np; rw [zq_81]; rfl
theorem zfr_81 : za_fr 81 = 0 ∧ za_lo 81 = 0 ∧ za_im 81 = false := ⟨by unfold za_fr; rw [zq_81]; rfl, by unfold za_lo; rw [zq_81]; rfl, rfl⟩
theorem zcc_82 : za_cc 82 = cX8_setFirstCosts := by unfold za_cc; rw [zq_82]; rfl
theorem zow_82 : za_ow 82 = 9 := by unfold za_ow; rw [zq_82]; rfl
theorem zmx_82 : za_mx 82 = 12 := by unfold za_mx; rw [zq_82]; rfl
theorem zre_82 : za_re 82 = none := by unfold za_re; rw [zq_82]; rfl
theorem znp_82 : za_np 82 = 3 := by unfold za_np; rw [zq_82]; rfl
theorem zfr_82 : za_fr 82 = 1 ∧ za_lo 82 = 23 ∧ za_im 82 = false := ⟨by unfold za_fr; rw [zq_82]; rfl, by unfold za_lo; rw [zq_82]; rfl, rfl⟩
theorem zcc_83 : za_cc 83 = cX8_chooseAll := by unfold za_cc; rw [zq_83]; rfl
theorem zow_83 : za_ow 83 = 9 := by unfold za_ow; rw [zq_83]; rfl
theorem zmx_83 : za_mx 83 = 9 := by unfold za_mx; rw [zq_83]; rfl
theorem zre_83 : za_re 83 = none := by unfold za_re; rw [zq_83]; rfl
theorem znp_83 : za_np 83 = 3 := by unfold za_np; rw [zq_83]; rfl
theorem zfr_83 : za_fr 83 = 1 ∧ za_lo 83 = 28 ∧ za_im 83 = false := ⟨by unfold za_fr; rw [zq_83]; rfl, by unfold za_lo; rw [zq_83]; rfl, rfl⟩
theorem zcc_84 : za_cc 84 = cX8_cheapest := by unfold za_cc; rw [zq_84]; rfl
theorem zow_84 : za_ow 84 = 9 := by unfold za_ow; rw [zq_84]; rfl
theorem zmx_84 : za_mx 84 = 9 := by unfold za_mx; rw [zq_84]; rfl
theorem zre_84 : za_re 84 = (some FieldType.int) := by unfold za_re; rw [zq_84]; rfl
theorem znp_84 : za_np 84 = 4 := by unfold za_np; rw [zq_84]; rfl
theorem zfr_84 : za_fr 84 = 0 ∧ za_lo 84 = 0 ∧ za_im 84 = false := ⟨by unfold za_fr; rw [zq_84]; rfl, by unfold za_lo; rw [zq_84]; rfl, rfl⟩
theorem zcc_85 : za_cc 85 = cX8_makeLengths := by unfold za_cc; rw [zq_85]; rfl
theorem zow_85 : za_ow 85 = 9 := by unfold za_ow; rw [zq_85]; rfl
theorem zmx_85 : za_mx 85 = 6 := by unfold za_mx; rw [zq_85]; rfl
theorem zre_85 : za_re 85 = none := by unfold za_re; rw [zq_85]; rfl
theorem znp_85 : za_np 85 = 3 := by unfold za_np; rw [zq_85]; rfl
theorem zfr_85 : za_fr 85 = 2 ∧ za_lo 85 = 48 ∧ za_im 85 = false := ⟨by unfold za_fr; rw [zq_85]; rfl, by unfold za_lo; rw [zq_85]; rfl, rfl⟩
theorem zcc_86 : za_cc 86 = cX8_joinAll := by unfold za_cc; rw [zq_86]; rfl
theorem zow_86 : za_ow 86 = 9 := by unfold za_ow; rw [zq_86]; rfl
theorem zmx_86 : za_mx 86 = 6 := by unfold za_mx; rw [zq_86]; rfl
theorem zre_86 : za_re 86 = none := by unfold za_re; rw [zq_86]; rfl
theorem znp_86 : za_np 86 = 1 := by unfold za_np; rw [zq_86]; rfl
theorem zfr_86 : za_fr 86 = 1 ∧ za_lo 86 = 23 ∧ za_im 86 = false := ⟨by unfold za_fr; rw [zq_86]; rfl, by unfold za_lo; rw [zq_86]; rfl, rfl⟩
theorem zcc_87 : za_cc 87 = cX8_sortByWeight := by unfold za_cc; rw [zq_87]; rfl
theorem zow_87 : za_ow 87 = 9 := by unfold za_ow; rw [zq_87]; rfl
theorem zmx_87 : za_mx 87 = 4 := by unfold za_mx; rw [zq_87]; rfl
theorem zre_87 : za_re 87 = none := by unfold za_re; rw [zq_87]; rfl
theorem znp_87 : za_np 87 = 1 := by unfold za_np; rw [zq_87]; rfl
theorem zfr_87 : za_fr 87 = 0 ∧ za_lo 87 = 0 ∧ za_im 87 = false := ⟨by unfold za_fr; rw [zq_87]; rfl, by unfold za_lo; rw [zq_87]; rfl, rfl⟩
theorem zcc_88 : za_cc 88 = cX8_takeLeast := by unfold za_cc; rw [zq_88]; rfl
theorem zow_88 : za_ow 88 = 9 := by unfold za_ow; rw [zq_88]; rfl
theorem zmx_88 : za_mx 88 = 4 := by unfold za_mx; rw [zq_88]; rfl
theorem zre_88 : za_re 88 = (some FieldType.int) := by unfold za_re; rw [zq_88]; rfl
theorem znp_88 : za_np 88 = 1 := by unfold za_np; rw [zq_88]; rfl
theorem zfr_88 : za_fr 88 = 0 ∧ za_lo 88 = 0 ∧ za_im 88 = false := ⟨by unfold za_fr; rw [zq_88]; rfl, by unfold za_lo; rw [zq_88]; rfl, rfl⟩
theorem zcc_89 : za_cc 89 = cX8_setLengths := by unfold za_cc; rw [zq_89]; rfl
theorem zow_89 : za_ow 89 = 9 := by unfold za_ow; rw [zq_89]; rfl
theorem zmx_89 : za_mx 89 = 6 := by unfold za_mx; rw [zq_89]; rfl
theorem zre_89 : za_re 89 = (some FieldType.int) := by unfold za_re; rw [zq_89]; rfl
theorem znp_89 : za_np 89 = 2 := by unfold za_np; rw [zq_89]; rfl
theorem zfr_89 : za_fr 89 = 1 ∧ za_lo 89 = 21 ∧ za_im 89 = false := ⟨by unfold za_fr; rw [zq_89]; rfl, by unfold za_lo; rw [zq_89]; rfl, rfl⟩
theorem zcc_90 : za_cc 90 = cX9_init := by unfold za_cc; rw [zq_90]; rfl
theorem zow_90 : za_ow 90 = 10 := by unfold za_ow; rw [zq_90]; rfl
theorem zmx_90 : za_mx 90 = 1 := by unfold za_mx; rw [zq_90]; rfl
theorem zre_90 : za_re 90 = none := by unfold za_re; rw [zq_90]; rfl
theorem znp_90 : za_np 90 = 0 := by unfold za_np; rw [zq_90]; rfl
theorem zfr_90 : za_fr 90 = 2 ∧ za_lo 90 = 40 ∧ za_im 90 = true := ⟨by unfold za_fr; rw [zq_90]; rfl, by unfold za_lo; rw [zq_90]; rfl, rfl⟩
theorem zcc_91 : za_cc 91 = cX9_forget := by unfold za_cc; rw [zq_91]; rfl
theorem zow_91 : za_ow 91 = 10 := by unfold za_ow; rw [zq_91]; rfl
theorem zmx_91 : za_mx 91 = 1 := by unfold za_mx; rw [zq_91]; rfl
theorem zre_91 : za_re 91 = none := by unfold za_re; rw [zq_91]; rfl
theorem znp_91 : za_np 91 = 0 := by unfold za_np; rw [zq_91]; rfl
theorem zfr_91 : za_fr 91 = 1 ∧ za_lo 91 = 20 ∧ za_im 91 = false := ⟨by unfold za_fr; rw [zq_91]; rfl, by unfold za_lo; rw [zq_91]; rfl, rfl⟩
theorem zcc_92 : za_cc 92 = cX9_tells := by unfold za_cc; rw [zq_92]; rfl
theorem zow_92 : za_ow 92 = 10 := by unfold za_ow; rw [zq_92]; rfl
theorem zmx_92 : za_mx 92 = 2 := by unfold za_mx; rw [zq_92]; rfl
theorem zre_92 : za_re 92 = (some FieldType.boolean) := by unfold za_re; rw [zq_92]; rfl
theorem znp_92 : za_np 92 = 1 := by unfold za_np; rw [zq_92]; rfl
theorem zfr_92 : za_fr 92 = 0 ∧ za_lo 92 = 0 ∧ za_im 92 = false := ⟨by unfold za_fr; rw [zq_92]; rfl, by unfold za_lo; rw [zq_92]; rfl, rfl⟩
theorem zcc_93 : za_cc 93 = cX9_fact := by unfold za_cc; rw [zq_93]; rfl
theorem zow_93 : za_ow 93 = 10 := by unfold za_ow; rw [zq_93]; rfl
theorem zmx_93 : za_mx 93 = 3 := by unfold za_mx; rw [zq_93]; rfl
theorem zre_93 : za_re 93 = (some FieldType.int) := by unfold za_re; rw [zq_93]; rfl
theorem znp_93 : za_np 93 = 2 := by unfold za_np; rw [zq_93]; rfl
theorem zfr_93 : za_fr 93 = 1 ∧ za_lo 93 = 21 ∧ za_im 93 = false := ⟨by unfold za_fr; rw [zq_93]; rfl, by unfold za_lo; rw [zq_93]; rfl, rfl⟩
theorem zcc_94 : za_cc 94 = cX9_sumOf := by unfold za_cc; rw [zq_94]; rfl
theorem zow_94 : za_ow 94 = 10 := by unfold za_ow; rw [zq_94]; rfl
theorem zmx_94 : za_mx 94 = 2 := by unfold za_mx; rw [zq_94]; rfl
theorem zre_94 : za_re 94 = (some FieldType.int) := by unfold za_re; rw [zq_94]; rfl
theorem znp_94 : za_np 94 = 1 := by unfold za_np; rw [zq_94]; rfl
theorem zfr_94 : za_fr 94 = 1 ∧ za_lo 94 = 21 ∧ za_im 94 = false := ⟨by unfold za_fr; rw [zq_94]; rfl, by unfold za_lo; rw [zq_94]; rfl, rfl⟩
theorem zcc_95 : za_cc 95 = cX9_note := by unfold za_cc; rw [zq_95]; rfl
theorem zow_95 : za_ow 95 = 10 := by unfold za_ow; rw [zq_95]; rfl
theorem zmx_95 : za_mx 95 = 3 := by unfold za_mx; rw [zq_95]; rfl
theorem zre_95 : za_re 95 = none := by unfold za_re; rw [zq_95]; rfl
theorem znp_95 : za_np 95 = 2 := by unfold za_np; rw [zq_95]; rfl
theorem zfr_95 : za_fr 95 = 0 ∧ za_lo 95 = 0 ∧ za_im 95 = false := ⟨by unfold za_fr; rw [zq_95]; rfl, by unfold za_lo; rw [zq_95]; rfl, rfl⟩
theorem zcc_96 : za_cc 96 = cX9_keepBlock := by unfold za_cc; rw [zq_96]; rfl
theorem zow_96 : za_ow 96 = 10 := by unfold za_ow; rw [zq_96]; rfl
theorem zmx_96 : za_mx 96 = 1 := by unfold za_mx; rw [zq_96]; rfl
theorem zre_96 : za_re 96 = none := by unfold za_re; rw [zq_96]; rfl
theorem znp_96 : za_np 96 = 0 := by unfold za_np; rw [zq_96]; rfl
theorem zfr_96 : za_fr 96 = 1 ∧ za_lo 96 = 48 ∧ za_im 96 = false := ⟨by unfold za_fr; rw [zq_96]; rfl, by unfold za_lo; rw [zq_96]; rfl, rfl⟩
theorem zcc_97 : za_cc 97 = cX9_keepCoding := by unfold za_cc; rw [zq_97]; rfl
theorem zow_97 : za_ow 97 = 10 := by unfold za_ow; rw [zq_97]; rfl
theorem zmx_97 : za_mx 97 = 2 := by unfold za_mx; rw [zq_97]; rfl
theorem zre_97 : za_re 97 = none := by unfold za_re; rw [zq_97]; rfl
theorem znp_97 : za_np 97 = 0 := by unfold za_np; rw [zq_97]; rfl
theorem zfr_97 : za_fr 97 = 0 ∧ za_lo 97 = 0 ∧ za_im 97 = false := ⟨by unfold za_fr; rw [zq_97]; rfl, by unfold za_lo; rw [zq_97]; rfl, rfl⟩
theorem zcc_98 : za_cc 98 = cX10_init := by unfold za_cc; rw [zq_98]; rfl
theorem zow_98 : za_ow 98 = 11 := by unfold za_ow; rw [zq_98]; rfl
theorem zmx_98 : za_mx 98 = 1 := by unfold za_mx; rw [zq_98]; rfl
theorem zre_98 : za_re 98 = none := by unfold za_re; rw [zq_98]; rfl
theorem znp_98 : za_np 98 = 0 := by unfold za_np; rw [zq_98]; rfl
theorem zfr_98 : za_fr 98 = 1 ∧ za_lo 98 = 20 ∧ za_im 98 = true := ⟨by unfold za_fr; rw [zq_98]; rfl, by unfold za_lo; rw [zq_98]; rfl, rfl⟩
theorem zcc_99 : za_cc 99 = cX10_sortTurns := by unfold za_cc; rw [zq_99]; rfl
theorem zow_99 : za_ow 99 = 11 := by unfold za_ow; rw [zq_99]; rfl
theorem zmx_99 : za_mx 99 = 5 := by unfold za_mx; rw [zq_99]; rfl
theorem zre_99 : za_re 99 = none := by unfold za_re; rw [zq_99]; rfl
theorem znp_99 : za_np 99 = 2 := by unfold za_np; rw [zq_99]; rfl
theorem zfr_99 : za_fr 99 = 3 ∧ za_lo 99 = 72 ∧ za_im 99 = false := ⟨by unfold za_fr; rw [zq_99]; rfl, by unfold za_lo; rw [zq_99]; rfl, rfl⟩
theorem zcc_100 : za_cc 100 = cX10_sortPlaces := by unfold za_cc; rw [zq_100]; rfl
theorem zow_100 : za_ow 100 = 11 := by unfold za_ow; rw [zq_100]; rfl
theorem zmx_100 : za_mx 100 = 3 := by unfold za_mx; rw [zq_100]; rfl
theorem zre_100 : za_re 100 = none := by unfold za_re; rw [zq_100]; rfl
theorem znp_100 : za_np 100 = 1 := by unfold za_np; rw [zq_100]; rfl
theorem zfr_100 : za_fr 100 = 2 ∧ za_lo 100 = 46 ∧ za_im 100 = false := ⟨by unfold za_fr; rw [zq_100]; rfl, by unfold za_lo; rw [zq_100]; rfl, rfl⟩
theorem zcc_101 : za_cc 101 = cX10_sortWaiting := by unfold za_cc; rw [zq_101]; rfl
theorem zow_101 : za_ow 101 = 11 := by unfold za_ow; rw [zq_101]; rfl
theorem zmx_101 : za_mx 101 = 4 := by unfold za_mx; rw [zq_101]; rfl
theorem zre_101 : za_re 101 = none := by unfold za_re; rw [zq_101]; rfl
theorem znp_101 : za_np 101 = 1 := by unfold za_np; rw [zq_101]; rfl
theorem zfr_101 : za_fr 101 = 1 ∧ za_lo 101 = 23 ∧ za_im 101 = false := ⟨by unfold za_fr; rw [zq_101]; rfl, by unfold za_lo; rw [zq_101]; rfl, rfl⟩
theorem zcc_102 : za_cc 102 = cX10_rankAnew := by unfold za_cc; rw [zq_102]; rfl
theorem zow_102 : za_ow 102 = 11 := by unfold za_ow; rw [zq_102]; rfl
theorem zmx_102 : za_mx 102 = 5 := by unfold za_mx; rw [zq_102]; rfl
theorem zre_102 : za_re 102 = none := by unfold za_re; rw [zq_102]; rfl
theorem znp_102 : za_np 102 = 2 := by unfold za_np; rw [zq_102]; rfl
theorem zfr_102 : za_fr 102 = 1 ∧ za_lo 102 = 48 ∧ za_im 102 = false := ⟨by unfold za_fr; rw [zq_102]; rfl, by unfold za_lo; rw [zq_102]; rfl, rfl⟩
theorem zcc_103 : za_cc 103 = cX10_differ := by unfold za_cc; rw [zq_103]; rfl
theorem zow_103 : za_ow 103 = 11 := by unfold za_ow; rw [zq_103]; rfl
theorem zmx_103 : za_mx 103 = 5 := by unfold za_mx; rw [zq_103]; rfl
theorem zre_103 : za_re 103 = (some FieldType.boolean) := by unfold za_re; rw [zq_103]; rfl
theorem znp_103 : za_np 103 = 4 := by unfold za_np; rw [zq_103]; rfl
theorem zfr_103 : za_fr 103 = 0 ∧ za_lo 103 = 0 ∧ za_im 103 = false := ⟨by unfold za_fr; rw [zq_103]; rfl, by unfold za_lo; rw [zq_103]; rfl, rfl⟩
theorem zcc_104 : za_cc 104 = cX10_lastByte := by unfold za_cc; rw [zq_104]; rfl
theorem zow_104 : za_ow 104 = 11 := by unfold za_ow; rw [zq_104]; rfl
theorem zmx_104 : za_mx 104 = 5 := by unfold za_mx; rw [zq_104]; rfl
theorem zre_104 : za_re 104 = (some FieldType.int) := by unfold za_re; rw [zq_104]; rfl
theorem znp_104 : za_np 104 = 3 := by unfold za_np; rw [zq_104]; rfl
theorem zfr_104 : za_fr 104 = 0 ∧ za_lo 104 = 0 ∧ za_im 104 = false := ⟨by unfold za_fr; rw [zq_104]; rfl, by unfold za_lo; rw [zq_104]; rfl, rfl⟩
theorem zcc_105 : za_cc 105 = cX10_origin := by unfold za_cc; rw [zq_105]; rfl
theorem zow_105 : za_ow 105 = 11 := by unfold za_ow; rw [zq_105]; rfl
theorem zmx_105 : za_mx 105 = 3 := by unfold za_mx; rw [zq_105]; rfl
theorem zre_105 : za_re 105 = (some FieldType.int) := by unfold za_re; rw [zq_105]; rfl
theorem znp_105 : za_np 105 = 1 := by unfold za_np; rw [zq_105]; rfl
theorem zfr_105 : za_fr 105 = 0 ∧ za_lo 105 = 0 ∧ za_im 105 = false := ⟨by unfold za_fr; rw [zq_105]; rfl, by unfold za_lo; rw [zq_105]; rfl, rfl⟩
theorem zcc_106 : za_cc 106 = cX10_turnBack := by unfold za_cc; rw [zq_106]; rfl
theorem zow_106 : za_ow 106 = 11 := by unfold za_ow; rw [zq_106]; rfl
theorem zmx_106 : za_mx 106 = 7 := by unfold za_mx; rw [zq_106]; rfl
theorem zre_106 : za_re 106 = none := by unfold za_re; rw [zq_106]; rfl
theorem znp_106 : za_np 106 = 4 := by unfold za_np; rw [zq_106]; rfl
theorem zfr_106 : za_fr 106 = 1 ∧ za_lo 106 = 23 ∧ za_im 106 = false := ⟨by unfold za_fr; rw [zq_106]; rfl, by unfold za_lo; rw [zq_106]; rfl, rfl⟩
theorem zcc_107 : za_cc 107 = cX11_init := by unfold za_cc; rw [zq_107]; rfl
theorem zow_107 : za_ow 107 = 12 := by unfold za_ow; rw [zq_107]; rfl
theorem zmx_107 : za_mx 107 = 3 := by unfold za_mx; rw [zq_107]; rfl
theorem zre_107 : za_re 107 = none := by unfold za_re; rw [zq_107]; rfl
theorem znp_107 : za_np 107 = 1 := by unfold za_np; rw [zq_107]; rfl
theorem zfr_107 : za_fr 107 = 3 ∧ za_lo 107 = 67 ∧ za_im 107 = true := ⟨by unfold za_fr; rw [zq_107]; rfl, by unfold za_lo; rw [zq_107]; rfl, rfl⟩
theorem zcc_108 : za_cc 108 = cX11_feed := by unfold za_cc; rw [zq_108]; rfl
theorem zow_108 : za_ow 108 = 12 := by unfold za_ow; rw [zq_108]; rfl
theorem zmx_108 : za_mx 108 = 6 := by unfold za_mx; rw [zq_108]; rfl
theorem zre_108 : za_re 108 = (some FieldType.int) := by unfold za_re; rw [zq_108]; rfl
theorem znp_108 : za_np 108 = 5 := by unfold za_np; rw [zq_108]; rfl
theorem zfr_108 : za_fr 108 = 2 ∧ za_lo 108 = 43 ∧ za_im 108 = false := ⟨by unfold za_fr; rw [zq_108]; rfl, by unfold za_lo; rw [zq_108]; rfl, rfl⟩
theorem zcc_109 : za_cc 109 = cX11_end := by unfold za_cc; rw [zq_109]; rfl
theorem zow_109 : za_ow 109 = 12 := by unfold za_ow; rw [zq_109]; rfl
theorem zmx_109 : za_mx 109 = 2 := by unfold za_mx; rw [zq_109]; rfl
theorem zre_109 : za_re 109 = (some FieldType.int) := by unfold za_re; rw [zq_109]; rfl
theorem znp_109 : za_np 109 = 1 := by unfold za_np; rw [zq_109]; rfl
theorem zfr_109 : za_fr 109 = 2 ∧ za_lo 109 = 42 ∧ za_im 109 = false := ⟨by unfold za_fr; rw [zq_109]; rfl, by unfold za_lo; rw [zq_109]; rfl, rfl⟩
theorem zcc_110 : za_cc 110 = cX11_octets := by unfold za_cc; rw [zq_110]; rfl
theorem zow_110 : za_ow 110 = 12 := by unfold za_ow; rw [zq_110]; rfl
theorem zmx_110 : za_mx 110 = 4 := by unfold za_mx; rw [zq_110]; rfl
theorem zre_110 : za_re 110 = (some FieldType.int) := by unfold za_re; rw [zq_110]; rfl
theorem znp_110 : za_np 110 = 2 := by unfold za_np; rw [zq_110]; rfl
theorem zfr_110 : za_fr 110 = 1 ∧ za_lo 110 = 21 ∧ za_im 110 = false := ⟨by unfold za_fr; rw [zq_110]; rfl, by unfold za_lo; rw [zq_110]; rfl, rfl⟩
theorem zcc_111 : za_cc 111 = cX11_pack := by unfold za_cc; rw [zq_111]; rfl
theorem zow_111 : za_ow 111 = 12 := by unfold za_ow; rw [zq_111]; rfl
theorem zmx_111 : za_mx 111 = 2 := by unfold za_mx; rw [zq_111]; rfl
theorem zre_111 : za_re 111 = (some FieldType.int) := by unfold za_re; rw [zq_111]; rfl
theorem znp_111 : za_np 111 = 0 := by unfold za_np; rw [zq_111]; rfl
theorem zfr_111 : za_fr 111 = 6 ∧ za_lo 111 = 164 ∧ za_im 111 = false := ⟨by unfold za_fr; rw [zq_111]; rfl, by unfold za_lo; rw [zq_111]; rfl, rfl⟩
theorem zcc_112 : za_cc 112 = cX11_open := by unfold za_cc; rw [zq_112]; rfl
theorem zow_112 : za_ow 112 = 12 := by unfold za_ow; rw [zq_112]; rfl
theorem zmx_112 : za_mx 112 = 1 := by unfold za_mx; rw [zq_112]; rfl
theorem zre_112 : za_re 112 = (some FieldType.int) := by unfold za_re; rw [zq_112]; rfl
theorem znp_112 : za_np 112 = 0 := by unfold za_np; rw [zq_112]; rfl
theorem zfr_112 : za_fr 112 = 7 ∧ za_lo 112 = 187 ∧ za_im 112 = false := ⟨by unfold za_fr; rw [zq_112]; rfl, by unfold za_lo; rw [zq_112]; rfl, rfl⟩
theorem zcc_113 : za_cc 113 = cX11_rule := by unfold za_cc; rw [zq_113]; rfl
theorem zow_113 : za_ow 113 = 12 := by unfold za_ow; rw [zq_113]; rfl
theorem zmx_113 : za_mx 113 = 1 := by unfold za_mx; rw [zq_113]; rfl
theorem zre_113 : za_re 113 = (some FieldType.int) := by unfold za_re; rw [zq_113]; rfl
theorem znp_113 : za_np 113 = 0 := by unfold za_np; rw [zq_113]; rfl
theorem zfr_113 : za_fr 113 = 0 ∧ za_lo 113 = 0 ∧ za_im 113 = false := ⟨by unfold za_fr; rw [zq_113]; rfl, by unfold za_lo; rw [zq_113]; rfl, rfl⟩
theorem zcc_114 : za_cc 114 = cX11_pass := by unfold za_cc; rw [zq_114]; rfl
theorem zow_114 : za_ow 114 = 12 := by unfold za_ow; rw [zq_114]; rfl
theorem zmx_114 : za_mx 114 = 1 := by unfold za_mx; rw [zq_114]; rfl
theorem zre_114 : za_re 114 = (some FieldType.int) := by unfold za_re; rw [zq_114]; rfl
theorem znp_114 : za_np 114 = 0 := by unfold za_np; rw [zq_114]; rfl
theorem zfr_114 : za_fr 114 = 2 ∧ za_lo 114 = 70 ∧ za_im 114 = false := ⟨by unfold za_fr; rw [zq_114]; rfl, by unfold za_lo; rw [zq_114]; rfl, rfl⟩
theorem zcc_115 : za_cc 115 = cX11_spoil := by unfold za_cc; rw [zq_115]; rfl
theorem zow_115 : za_ow 115 = 12 := by unfold za_ow; rw [zq_115]; rfl
theorem zmx_115 : za_mx 115 = 3 := by unfold za_mx; rw [zq_115]; rfl
theorem zre_115 : za_re 115 = (some FieldType.int) := by unfold za_re; rw [zq_115]; rfl
theorem znp_115 : za_np 115 = 2 := by unfold za_np; rw [zq_115]; rfl
theorem zfr_115 : za_fr 115 = 2 ∧ za_lo 115 = 43 ∧ za_im 115 = false := ⟨by unfold za_fr; rw [zq_115]; rfl, by unfold za_lo; rw [zq_115]; rfl, rfl⟩
theorem zcc_116 : za_cc 116 = cX11_drop := by unfold za_cc; rw [zq_116]; rfl
theorem zow_116 : za_ow 116 = 12 := by unfold za_ow; rw [zq_116]; rfl
theorem zmx_116 : za_mx 116 = 2 := by unfold za_mx; rw [zq_116]; rfl
theorem zre_116 : za_re 116 = (some FieldType.int) := by unfold za_re; rw [zq_116]; rfl
theorem znp_116 : za_np 116 = 1 := by unfold za_np; rw [zq_116]; rfl
theorem zfr_116 : za_fr 116 = 2 ∧ za_lo 116 = 70 ∧ za_im 116 = false := ⟨by unfold za_fr; rw [zq_116]; rfl, by unfold za_lo; rw [zq_116]; rfl, rfl⟩
theorem zcc_117 : za_cc 117 = cX11_out := by unfold za_cc; rw [zq_117]; rfl
theorem zow_117 : za_ow 117 = 12 := by unfold za_ow; rw [zq_117]; rfl
theorem zmx_117 : za_mx 117 = 2 := by unfold za_mx; rw [zq_117]; rfl
theorem zre_117 : za_re 117 = (some FieldType.int) := by unfold za_re; rw [zq_117]; rfl
theorem znp_117 : za_np 117 = 1 := by unfold za_np; rw [zq_117]; rfl
theorem zfr_117 : za_fr 117 = 2 ∧ za_lo 117 = 42 ∧ za_im 117 = false := ⟨by unfold za_fr; rw [zq_117]; rfl, by unfold za_lo; rw [zq_117]; rfl, rfl⟩
theorem zcc_118 : za_cc 118 = cX11_count := by unfold za_cc; rw [zq_118]; rfl
theorem zow_118 : za_ow 118 = 12 := by unfold za_ow; rw [zq_118]; rfl
theorem zmx_118 : za_mx 118 = 2 := by unfold za_mx; rw [zq_118]; rfl
theorem zre_118 : za_re 118 = (some FieldType.int) := by unfold za_re; rw [zq_118]; rfl
theorem znp_118 : za_np 118 = 1 := by unfold za_np; rw [zq_118]; rfl
theorem zfr_118 : za_fr 118 = 0 ∧ za_lo 118 = 0 ∧ za_im 118 = false := ⟨by unfold za_fr; rw [zq_118]; rfl, by unfold za_lo; rw [zq_118]; rfl, rfl⟩
theorem zcc_119 : za_cc 119 = cX11_block := by unfold za_cc; rw [zq_119]; rfl
theorem zow_119 : za_ow 119 = 12 := by unfold za_ow; rw [zq_119]; rfl
theorem zmx_119 : za_mx 119 = 3 := by unfold za_mx; rw [zq_119]; rfl
theorem zre_119 : za_re 119 = (some FieldType.int) := by unfold za_re; rw [zq_119]; rfl
theorem znp_119 : za_np 119 = 2 := by unfold za_np; rw [zq_119]; rfl
theorem zfr_119 : za_fr 119 = 2 ∧ za_lo 119 = 43 ∧ za_im 119 = false := ⟨by unfold za_fr; rw [zq_119]; rfl, by unfold za_lo; rw [zq_119]; rfl, rfl⟩
theorem zcc_120 : za_cc 120 = cX11_sum := by unfold za_cc; rw [zq_120]; rfl
theorem zow_120 : za_ow 120 = 12 := by unfold za_ow; rw [zq_120]; rfl
theorem zmx_120 : za_mx 120 = 2 := by unfold za_mx; rw [zq_120]; rfl
theorem zre_120 : za_re 120 = (some FieldType.int) := by unfold za_re; rw [zq_120]; rfl
theorem znp_120 : za_np 120 = 1 := by unfold za_np; rw [zq_120]; rfl
theorem zfr_120 : za_fr 120 = 2 ∧ za_lo 120 = 42 ∧ za_im 120 = false := ⟨by unfold za_fr; rw [zq_120]; rfl, by unfold za_lo; rw [zq_120]; rfl, rfl⟩
theorem zcc_121 : za_cc 121 = cX11_choice := by unfold za_cc; rw [zq_121]; rfl
theorem zow_121 : za_ow 121 = 12 := by unfold za_ow; rw [zq_121]; rfl
theorem zmx_121 : za_mx 121 = 2 := by unfold za_mx; rw [zq_121]; rfl
theorem zre_121 : za_re 121 = (some FieldType.int) := by unfold za_re; rw [zq_121]; rfl
theorem znp_121 : za_np 121 = 1 := by unfold za_np; rw [zq_121]; rfl
theorem zfr_121 : za_fr 121 = 2 ∧ za_lo 121 = 42 ∧ za_im 121 = false := ⟨by unfold za_fr; rw [zq_121]; rfl, by unfold za_lo; rw [zq_121]; rfl, rfl⟩
theorem zcc_122 : za_cc 122 = cX11_length := by unfold za_cc; rw [zq_122]; rfl
theorem zow_122 : za_ow 122 = 12 := by unfold za_ow; rw [zq_122]; rfl
theorem zmx_122 : za_mx 122 = 3 := by unfold za_mx; rw [zq_122]; rfl
theorem zre_122 : za_re 122 = (some FieldType.int) := by unfold za_re; rw [zq_122]; rfl
theorem znp_122 : za_np 122 = 2 := by unfold za_np; rw [zq_122]; rfl
theorem zfr_122 : za_fr 122 = 1 ∧ za_lo 122 = 22 ∧ za_im 122 = false := ⟨by unfold za_fr; rw [zq_122]; rfl, by unfold za_lo; rw [zq_122]; rfl, rfl⟩
theorem zcc_123 : za_cc 123 = cX11_mark := by unfold za_cc; rw [zq_123]; rfl
theorem zow_123 : za_ow 123 = 12 := by unfold za_ow; rw [zq_123]; rfl
theorem zmx_123 : za_mx 123 = 2 := by unfold za_mx; rw [zq_123]; rfl
theorem zre_123 : za_re 123 = (some FieldType.int) := by unfold za_re; rw [zq_123]; rfl
theorem znp_123 : za_np 123 = 1 := by unfold za_np; rw [zq_123]; rfl
theorem zfr_123 : za_fr 123 = 3 ∧ za_lo 123 = 70 ∧ za_im 123 = false := ⟨by unfold za_fr; rw [zq_123]; rfl, by unfold za_lo; rw [zq_123]; rfl, rfl⟩
theorem zcc_124 : za_cc 124 = cX11_alone := by unfold za_cc; rw [zq_124]; rfl
theorem zow_124 : za_ow 124 = 12 := by unfold za_ow; rw [zq_124]; rfl
theorem zmx_124 : za_mx 124 = 3 := by unfold za_mx; rw [zq_124]; rfl
theorem zre_124 : za_re 124 = (some FieldType.int) := by unfold za_re; rw [zq_124]; rfl
theorem znp_124 : za_np 124 = 1 := by unfold za_np; rw [zq_124]; rfl
theorem zfr_124 : za_fr 124 = 6 ∧ za_lo 124 = 161 ∧ za_im 124 = false := ⟨by unfold za_fr; rw [zq_124]; rfl, by unfold za_lo; rw [zq_124]; rfl, rfl⟩
theorem zcc_125 : za_cc 125 = cX11_findMark := by unfold za_cc; rw [zq_125]; rfl
theorem zow_125 : za_ow 125 = 12 := by unfold za_ow; rw [zq_125]; rfl
theorem zmx_125 : za_mx 125 = 9 := by unfold za_mx; rw [zq_125]; rfl
theorem zre_125 : za_re 125 = (some FieldType.int) := by unfold za_re; rw [zq_125]; rfl
theorem znp_125 : za_np 125 = 1 := by unfold za_np; rw [zq_125]; rfl
theorem zfr_125 : za_fr 125 = 2 ∧ za_lo 125 = 42 ∧ za_im 125 = false := ⟨by unfold za_fr; rw [zq_125]; rfl, by unfold za_lo; rw [zq_125]; rfl, rfl⟩
theorem zcc_126 : za_cc 126 = cX11_stepSum := by unfold za_cc; rw [zq_126]; rfl
theorem zow_126 : za_ow 126 = 12 := by unfold za_ow; rw [zq_126]; rfl
theorem zmx_126 : za_mx 126 = 4 := by unfold za_mx; rw [zq_126]; rfl
theorem zre_126 : za_re 126 = (some FieldType.int) := by unfold za_re; rw [zq_126]; rfl
theorem znp_126 : za_np 126 = 2 := by unfold za_np; rw [zq_126]; rfl
theorem zfr_126 : za_fr 126 = 0 ∧ za_lo 126 = 0 ∧ za_im 126 = false := ⟨by unfold za_fr; rw [zq_126]; rfl, by unfold za_lo; rw [zq_126]; rfl, rfl⟩
theorem zcc_127 : za_cc 127 = cX11_joinSums := by unfold za_cc; rw [zq_127]; rfl
theorem zow_127 : za_ow 127 = 12 := by unfold za_ow; rw [zq_127]; rfl
theorem zmx_127 : za_mx 127 = 2 := by unfold za_mx; rw [zq_127]; rfl
theorem zre_127 : za_re 127 = (some FieldType.int) := by unfold za_re; rw [zq_127]; rfl
theorem znp_127 : za_np 127 = 2 := by unfold za_np; rw [zq_127]; rfl
theorem zfr_127 : za_fr 127 = 0 ∧ za_lo 127 = 0 ∧ za_im 127 = false := ⟨by unfold za_fr; rw [zq_127]; rfl, by unfold za_lo; rw [zq_127]; rfl, rfl⟩
theorem zcc_128 : za_cc 128 = cX12_init := by unfold za_cc; rw [zq_128]; rfl
theorem zow_128 : za_ow 128 = 13 := by unfold za_ow; rw [zq_128]; rfl
theorem zmx_128 : za_mx 128 = 1 := by unfold za_mx; rw [zq_128]; rfl
theorem zre_128 : za_re 128 = none := by unfold za_re; rw [zq_128]; rfl
theorem znp_128 : za_np 128 = 0 := by unfold za_np; rw [zq_128]; rfl
theorem zfr_128 : za_fr 128 = 4 ∧ za_lo 128 = 85 ∧ za_im 128 = true := ⟨by unfold za_fr; rw [zq_128]; rfl, by unfold za_lo; rw [zq_128]; rfl, rfl⟩
theorem zcc_129 : za_cc 129 = cX13_thrown := by unfold za_cc; rw [zq_129]; rfl
theorem zow_129 : za_ow 129 = 14 := by unfold za_ow; rw [zq_129]; rfl
theorem zmx_129 : za_mx 129 = 1 := by unfold za_mx; rw [zq_129]; rfl
theorem zre_129 : za_re 129 = (some FieldType.int) := by unfold za_re; rw [zq_129]; rfl
theorem znp_129 : za_np 129 = 0 := by unfold za_np; rw [zq_129]; rfl
theorem zfr_129 : za_fr 129 = 0 ∧ za_lo 129 = 0 ∧ za_im 129 = false := ⟨by unfold za_fr; rw [zq_129]; rfl, by unfold za_lo; rw [zq_129]; rfl, rfl⟩
theorem zcc_130 : za_cc 130 = cX13_in := by unfold za_cc; rw [zq_130]; rfl
theorem zow_130 : za_ow 130 = 14 := by unfold za_ow; rw [zq_130]; rfl
theorem zmx_130 : za_mx 130 = 6 := by unfold za_mx; rw [zq_130]; rfl
theorem zre_130 : za_re 130 = (some FieldType.boolean) := by unfold za_re; rw [zq_130]; rfl
theorem znp_130 : za_np 130 = 3 := by unfold za_np; rw [zq_130]; rfl
theorem zfr_130 : za_fr 130 = 0 ∧ za_lo 130 = 0 ∧ za_im 130 = false := ⟨by unfold za_fr; rw [zq_130]; rfl, by unfold za_lo; rw [zq_130]; rfl, rfl⟩
theorem zcc_131 : za_cc 131 = cX13_init := by unfold za_cc; rw [zq_131]; rfl
theorem zow_131 : za_ow 131 = 14 := by unfold za_ow; rw [zq_131]; rfl
theorem zmx_131 : za_mx 131 = 2 := by unfold za_mx; rw [zq_131]; rfl
theorem zre_131 : za_re 131 = none := by unfold za_re; rw [zq_131]; rfl
theorem znp_131 : za_np 131 = 1 := by unfold za_np; rw [zq_131]; rfl
theorem zfr_131 : za_fr 131 = 5 ∧ za_lo 131 = 105 ∧ za_im 131 = true := ⟨by unfold za_fr; rw [zq_131]; rfl, by unfold za_lo; rw [zq_131]; rfl, rfl⟩
theorem zcc_132 : za_cc 132 = cX13_feed := by unfold za_cc; rw [zq_132]; rfl
theorem zow_132 : za_ow 132 = 14 := by unfold za_ow; rw [zq_132]; rfl
theorem zmx_132 : za_mx 132 = 8 := by unfold za_mx; rw [zq_132]; rfl
theorem zre_132 : za_re 132 = (some FieldType.int) := by unfold za_re; rw [zq_132]; rfl
theorem znp_132 : za_np 132 = 5 := by unfold za_np; rw [zq_132]; rfl
theorem zfr_132 : za_fr 132 = 0 ∧ za_lo 132 = 0 ∧ za_im 132 = false := ⟨by unfold za_fr; rw [zq_132]; rfl, by unfold za_lo; rw [zq_132]; rfl, rfl⟩
theorem zcc_133 : za_cc 133 = cX13_end := by unfold za_cc; rw [zq_133]; rfl
theorem zow_133 : za_ow 133 = 14 := by unfold za_ow; rw [zq_133]; rfl
theorem zmx_133 : za_mx 133 = 2 := by unfold za_mx; rw [zq_133]; rfl
theorem zre_133 : za_re 133 = (some FieldType.int) := by unfold za_re; rw [zq_133]; rfl
theorem znp_133 : za_np 133 = 1 := by unfold za_np; rw [zq_133]; rfl
theorem zfr_133 : za_fr 133 = 1 ∧ za_lo 133 = 25 ∧ za_im 133 = false := ⟨by unfold za_fr; rw [zq_133]; rfl, by unfold za_lo; rw [zq_133]; rfl, rfl⟩
theorem zcc_134 : za_cc 134 = cX13_octets := by unfold za_cc; rw [zq_134]; rfl
theorem zow_134 : za_ow 134 = 14 := by unfold za_ow; rw [zq_134]; rfl
theorem zmx_134 : za_mx 134 = 4 := by unfold za_mx; rw [zq_134]; rfl
theorem zre_134 : za_re 134 = (some FieldType.int) := by unfold za_re; rw [zq_134]; rfl
theorem znp_134 : za_np 134 = 2 := by unfold za_np; rw [zq_134]; rfl
theorem zfr_134 : za_fr 134 = 1 ∧ za_lo 134 = 25 ∧ za_im 134 = false := ⟨by unfold za_fr; rw [zq_134]; rfl, by unfold za_lo; rw [zq_134]; rfl, rfl⟩
theorem zcc_135 : za_cc 135 = cX13_rule := by unfold za_cc; rw [zq_135]; rfl
theorem zow_135 : za_ow 135 = 14 := by unfold za_ow; rw [zq_135]; rfl
theorem zmx_135 : za_mx 135 = 1 := by unfold za_mx; rw [zq_135]; rfl
theorem zre_135 : za_re 135 = (some FieldType.int) := by unfold za_re; rw [zq_135]; rfl
theorem znp_135 : za_np 135 = 0 := by unfold za_np; rw [zq_135]; rfl
theorem zfr_135 : za_fr 135 = 0 ∧ za_lo 135 = 0 ∧ za_im 135 = false := ⟨by unfold za_fr; rw [zq_135]; rfl, by unfold za_lo; rw [zq_135]; rfl, rfl⟩
theorem zcc_136 : za_cc 136 = cX13_pass := by unfold za_cc; rw [zq_136]; rfl
theorem zow_136 : za_ow 136 = 14 := by unfold za_ow; rw [zq_136]; rfl
theorem zmx_136 : za_mx 136 = 2 := by unfold za_mx; rw [zq_136]; rfl
theorem zre_136 : za_re 136 = (some FieldType.int) := by unfold za_re; rw [zq_136]; rfl
theorem znp_136 : za_np 136 = 0 := by unfold za_np; rw [zq_136]; rfl
theorem zfr_136 : za_fr 136 = 0 ∧ za_lo 136 = 0 ∧ za_im 136 = false := ⟨by unfold za_fr; rw [zq_136]; rfl, by unfold za_lo; rw [zq_136]; rfl, rfl⟩
theorem zcc_137 : za_cc 137 = cX13_spoil := by unfold za_cc; rw [zq_137]; rfl
theorem zow_137 : za_ow 137 = 14 := by unfold za_ow; rw [zq_137]; rfl
theorem zmx_137 : za_mx 137 = 3 := by unfold za_mx; rw [zq_137]; rfl
theorem zre_137 : za_re 137 = (some FieldType.int) := by unfold za_re; rw [zq_137]; rfl
theorem znp_137 : za_np 137 = 2 := by unfold za_np; rw [zq_137]; rfl
theorem zfr_137 : za_fr 137 = 1 ∧ za_lo 137 = 25 ∧ za_im 137 = false := ⟨by unfold za_fr; rw [zq_137]; rfl, by unfold za_lo; rw [zq_137]; rfl, rfl⟩
theorem zcc_138 : za_cc 138 = cX13_drop := by unfold za_cc; rw [zq_138]; rfl
theorem zow_138 : za_ow 138 = 14 := by unfold za_ow; rw [zq_138]; rfl
theorem zmx_138 : za_mx 138 = 3 := by unfold za_mx; rw [zq_138]; rfl
theorem zre_138 : za_re 138 = (some FieldType.int) := by unfold za_re; rw [zq_138]; rfl
theorem znp_138 : za_np 138 = 1 := by unfold za_np; rw [zq_138]; rfl
theorem zfr_138 : za_fr 138 = 1 ∧ za_lo 138 = 25 ∧ za_im 138 = false := ⟨by unfold za_fr; rw [zq_138]; rfl, by unfold za_lo; rw [zq_138]; rfl, rfl⟩
theorem zcc_139 : za_cc 139 = cX13_out := by unfold za_cc; rw [zq_139]; rfl
theorem zow_139 : za_ow 139 = 14 := by unfold za_ow; rw [zq_139]; rfl
theorem zmx_139 : za_mx 139 = 2 := by unfold za_mx; rw [zq_139]; rfl
theorem zre_139 : za_re 139 = (some FieldType.int) := by unfold za_re; rw [zq_139]; rfl
theorem znp_139 : za_np 139 = 1 := by unfold za_np; rw [zq_139]; rfl
theorem zfr_139 : za_fr 139 = 1 ∧ za_lo 139 = 25 ∧ za_im 139 = false := ⟨by unfold za_fr; rw [zq_139]; rfl, by unfold za_lo; rw [zq_139]; rfl, rfl⟩
theorem zcc_140 : za_cc 140 = cX13_count := by unfold za_cc; rw [zq_140]; rfl
theorem zow_140 : za_ow 140 = 14 := by unfold za_ow; rw [zq_140]; rfl
theorem zmx_140 : za_mx 140 = 2 := by unfold za_mx; rw [zq_140]; rfl
theorem zre_140 : za_re 140 = (some FieldType.int) := by unfold za_re; rw [zq_140]; rfl
theorem znp_140 : za_np 140 = 1 := by unfold za_np; rw [zq_140]; rfl
theorem zfr_140 : za_fr 140 = 0 ∧ za_lo 140 = 0 ∧ za_im 140 = false := ⟨by unfold za_fr; rw [zq_140]; rfl, by unfold za_lo; rw [zq_140]; rfl, rfl⟩
theorem zcc_141 : za_cc 141 = cX13_note := by unfold za_cc; rw [zq_141]; rfl
theorem zow_141 : za_ow 141 = 14 := by unfold za_ow; rw [zq_141]; rfl
theorem zmx_141 : za_mx 141 = 12 := by unfold za_mx; rw [zq_141]; rfl
theorem zre_141 : za_re 141 = none := by unfold za_re; rw [zq_141]; rfl
theorem znp_141 : za_np 141 = 10 := by unfold za_np; rw [zq_141]; rfl
theorem zfr_141 : za_fr 141 = 0 ∧ za_lo 141 = 0 ∧ za_im 141 = false := ⟨by unfold za_fr; rw [zq_141]; rfl, by unfold za_lo; rw [zq_141]; rfl, rfl⟩
theorem zcc_142 : za_cc 142 = cX13_toldBlocks := by unfold za_cc; rw [zq_142]; rfl
theorem zow_142 : za_ow 142 = 14 := by unfold za_ow; rw [zq_142]; rfl
theorem zmx_142 : za_mx 142 = 1 := by unfold za_mx; rw [zq_142]; rfl
theorem zre_142 : za_re 142 = (some FieldType.int) := by unfold za_re; rw [zq_142]; rfl
theorem znp_142 : za_np 142 = 0 := by unfold za_np; rw [zq_142]; rfl
theorem zfr_142 : za_fr 142 = 0 ∧ za_lo 142 = 0 ∧ za_im 142 = false := ⟨by unfold za_fr; rw [zq_142]; rfl, by unfold za_lo; rw [zq_142]; rfl, rfl⟩
theorem zcc_143 : za_cc 143 = cX13_block := by unfold za_cc; rw [zq_143]; rfl
theorem zow_143 : za_ow 143 = 14 := by unfold za_ow; rw [zq_143]; rfl
theorem zmx_143 : za_mx 143 = 3 := by unfold za_mx; rw [zq_143]; rfl
theorem zre_143 : za_re 143 = (some FieldType.int) := by unfold za_re; rw [zq_143]; rfl
theorem znp_143 : za_np 143 = 2 := by unfold za_np; rw [zq_143]; rfl
theorem zfr_143 : za_fr 143 = 1 ∧ za_lo 143 = 25 ∧ za_im 143 = false := ⟨by unfold za_fr; rw [zq_143]; rfl, by unfold za_lo; rw [zq_143]; rfl, rfl⟩
theorem zcc_144 : za_cc 144 = cX13_sum := by unfold za_cc; rw [zq_144]; rfl
theorem zow_144 : za_ow 144 = 14 := by unfold za_ow; rw [zq_144]; rfl
theorem zmx_144 : za_mx 144 = 2 := by unfold za_mx; rw [zq_144]; rfl
theorem zre_144 : za_re 144 = (some FieldType.int) := by unfold za_re; rw [zq_144]; rfl
theorem znp_144 : za_np 144 = 1 := by unfold za_np; rw [zq_144]; rfl
theorem zfr_144 : za_fr 144 = 1 ∧ za_lo 144 = 25 ∧ za_im 144 = false := ⟨by unfold za_fr; rw [zq_144]; rfl, by unfold za_lo; rw [zq_144]; rfl, rfl⟩
theorem zcc_145 : za_cc 145 = cX13_keepTables := by unfold za_cc; rw [zq_145]; rfl
theorem zow_145 : za_ow 145 = 14 := by unfold za_ow; rw [zq_145]; rfl
theorem zmx_145 : za_mx 145 = 5 := by unfold za_mx; rw [zq_145]; rfl
theorem zre_145 : za_re 145 = none := by unfold za_re; rw [zq_145]; rfl
theorem znp_145 : za_np 145 = 3 := by unfold za_np; rw [zq_145]; rfl
theorem zfr_145 : za_fr 145 = 0 ∧ za_lo 145 = 0 ∧ za_im 145 = false := ⟨by unfold za_fr; rw [zq_145]; rfl, by unfold za_lo; rw [zq_145]; rfl, rfl⟩
theorem zcc_146 : za_cc 146 = cX13_choice := by unfold za_cc; rw [zq_146]; rfl
theorem zow_146 : za_ow 146 = 14 := by unfold za_ow; rw [zq_146]; rfl
theorem zmx_146 : za_mx 146 = 2 := by unfold za_mx; rw [zq_146]; rfl
theorem zre_146 : za_re 146 = (some FieldType.int) := by unfold za_re; rw [zq_146]; rfl
theorem znp_146 : za_np 146 = 1 := by unfold za_np; rw [zq_146]; rfl
theorem zfr_146 : za_fr 146 = 1 ∧ za_lo 146 = 25 ∧ za_im 146 = false := ⟨by unfold za_fr; rw [zq_146]; rfl, by unfold za_lo; rw [zq_146]; rfl, rfl⟩
theorem zcc_147 : za_cc 147 = cX13_length := by unfold za_cc; rw [zq_147]; rfl
theorem zow_147 : za_ow 147 = 14 := by unfold za_ow; rw [zq_147]; rfl
theorem zmx_147 : za_mx 147 = 3 := by unfold za_mx; rw [zq_147]; rfl
theorem zre_147 : za_re 147 = (some FieldType.int) := by unfold za_re; rw [zq_147]; rfl
theorem znp_147 : za_np 147 = 2 := by unfold za_np; rw [zq_147]; rfl
theorem zfr_147 : za_fr 147 = 1 ∧ za_lo 147 = 25 ∧ za_im 147 = false := ⟨by unfold za_fr; rw [zq_147]; rfl, by unfold za_lo; rw [zq_147]; rfl, rfl⟩
theorem zcc_148 : za_cc 148 = cX13_sumOf := by unfold za_cc; rw [zq_148]; rfl
theorem zow_148 : za_ow 148 = 14 := by unfold za_ow; rw [zq_148]; rfl
theorem zmx_148 : za_mx 148 = 6 := by unfold za_mx; rw [zq_148]; rfl
theorem zre_148 : za_re 148 = (some FieldType.int) := by unfold za_re; rw [zq_148]; rfl
theorem znp_148 : za_np 148 = 3 := by unfold za_np; rw [zq_148]; rfl
theorem zfr_148 : za_fr 148 = 0 ∧ za_lo 148 = 0 ∧ za_im 148 = false := ⟨by unfold za_fr; rw [zq_148]; rfl, by unfold za_lo; rw [zq_148]; rfl, rfl⟩
theorem zcc_149 : za_cc 149 = cX13_joined := by unfold za_cc; rw [zq_149]; rfl
theorem zow_149 : za_ow 149 = 14 := by unfold za_ow; rw [zq_149]; rfl
theorem zmx_149 : za_mx 149 = 2 := by unfold za_mx; rw [zq_149]; rfl
theorem zre_149 : za_re 149 = (some FieldType.int) := by unfold za_re; rw [zq_149]; rfl
theorem znp_149 : za_np 149 = 2 := by unfold za_np; rw [zq_149]; rfl
theorem zfr_149 : za_fr 149 = 0 ∧ za_lo 149 = 0 ∧ za_im 149 = false := ⟨by unfold za_fr; rw [zq_149]; rfl, by unfold za_lo; rw [zq_149]; rfl, rfl⟩
theorem zcc_150 : za_cc 150 = cX13_putBit := by unfold za_cc; rw [zq_150]; rfl
theorem zow_150 : za_ow 150 = 14 := by unfold za_ow; rw [zq_150]; rfl
theorem zmx_150 : za_mx 150 = 3 := by unfold za_mx; rw [zq_150]; rfl
theorem zre_150 : za_re 150 = none := by unfold za_re; rw [zq_150]; rfl
theorem znp_150 : za_np 150 = 1 := by unfold za_np; rw [zq_150]; rfl
theorem zfr_150 : za_fr 150 = 0 ∧ za_lo 150 = 0 ∧ za_im 150 = false := ⟨by unfold za_fr; rw [zq_150]; rfl, by unfold za_lo; rw [zq_150]; rfl, rfl⟩
theorem zcc_151 : za_cc 151 = cX13_put := by unfold za_cc; rw [zq_151]; rfl
theorem zow_151 : za_ow 151 = 14 := by unfold za_ow; rw [zq_151]; rfl
theorem zmx_151 : za_mx 151 = 5 := by unfold za_mx; rw [zq_151]; rfl
theorem zre_151 : za_re 151 = none := by unfold za_re; rw [zq_151]; rfl
theorem znp_151 : za_np 151 = 2 := by unfold za_np; rw [zq_151]; rfl
theorem zfr_151 : za_fr 151 = 1 ∧ za_lo 151 = 22 ∧ za_im 151 = false := ⟨by unfold za_fr; rw [zq_151]; rfl, by unfold za_lo; rw [zq_151]; rfl, rfl⟩
theorem zcc_152 : za_cc 152 = cX13_isAhead := by unfold za_cc; rw [zq_152]; rfl
theorem zow_152 : za_ow 152 = 14 := by unfold za_ow; rw [zq_152]; rfl
theorem zmx_152 : za_mx 152 = 8 := by unfold za_mx; rw [zq_152]; rfl
theorem zre_152 : za_re 152 = (some FieldType.boolean) := by unfold za_re; rw [zq_152]; rfl
theorem znp_152 : za_np 152 = 2 := by unfold za_np; rw [zq_152]; rfl
theorem zfr_152 : za_fr 152 = 0 ∧ za_lo 152 = 0 ∧ za_im 152 = false := ⟨by unfold za_fr; rw [zq_152]; rfl, by unfold za_lo; rw [zq_152]; rfl, rfl⟩
theorem zcc_153 : za_cc 153 = cX13_sortTurns := by unfold za_cc; rw [zq_153]; rfl
theorem zow_153 : za_ow 153 = 14 := by unfold za_ow; rw [zq_153]; rfl
theorem zmx_153 : za_mx 153 = 9 := by unfold za_mx; rw [zq_153]; rfl
theorem zre_153 : za_re 153 = none := by unfold za_re; rw [zq_153]; rfl
theorem znp_153 : za_np 153 = 0 := by unfold za_np; rw [zq_153]; rfl
theorem zfr_153 : za_fr 153 = 1 ∧ za_lo 153 = 27 ∧ za_im 153 = false := ⟨by unfold za_fr; rw [zq_153]; rfl, by unfold za_lo; rw [zq_153]; rfl, rfl⟩
theorem zcc_154 : za_cc 154 = cX13_findSigns := by unfold za_cc; rw [zq_154]; rfl
theorem zow_154 : za_ow 154 = 14 := by unfold za_ow; rw [zq_154]; rfl
theorem zmx_154 : za_mx 154 = 2 := by unfold za_mx; rw [zq_154]; rfl
theorem zre_154 : za_re 154 = none := by unfold za_re; rw [zq_154]; rfl
theorem znp_154 : za_np 154 = 0 := by unfold za_np; rw [zq_154]; rfl
theorem zfr_154 : za_fr 154 = 1 ∧ za_lo 154 = 21 ∧ za_im 154 = false := ⟨by unfold za_fr; rw [zq_154]; rfl, by unfold za_lo; rw [zq_154]; rfl, rfl⟩
theorem zcc_155 : za_cc 155 = cX13_takeSigns := by unfold za_cc; rw [zq_155]; rfl
theorem zow_155 : za_ow 155 = 14 := by unfold za_ow; rw [zq_155]; rfl
theorem zmx_155 : za_mx 155 = 2 := by unfold za_mx; rw [zq_155]; rfl
theorem zre_155 : za_re 155 = none := by unfold za_re; rw [zq_155]; rfl
theorem znp_155 : za_np 155 = 0 := by unfold za_np; rw [zq_155]; rfl
theorem zfr_155 : za_fr 155 = 0 ∧ za_lo 155 = 0 ∧ za_im 155 = false := ⟨by unfold za_fr; rw [zq_155]; rfl, by unfold za_lo; rw [zq_155]; rfl, rfl⟩
theorem zcc_156 : za_cc 156 = cX13_number := by unfold za_cc; rw [zq_156]; rfl
theorem zow_156 : za_ow 156 = 14 := by unfold za_ow; rw [zq_156]; rfl
theorem zmx_156 : za_mx 156 = 2 := by unfold za_mx; rw [zq_156]; rfl
theorem zre_156 : za_re 156 = none := by unfold za_re; rw [zq_156]; rfl
theorem znp_156 : za_np 156 = 1 := by unfold za_np; rw [zq_156]; rfl
theorem zfr_156 : za_fr 156 = 0 ∧ za_lo 156 = 0 ∧ za_im 156 = false := ⟨by unfold za_fr; rw [zq_156]; rfl, by unfold za_lo; rw [zq_156]; rfl, rfl⟩
theorem zcc_157 : za_cc 157 = cX13_digits := by unfold za_cc; rw [zq_157]; rfl
theorem zow_157 : za_ow 157 = 14 := by unfold za_ow; rw [zq_157]; rfl
theorem zmx_157 : za_mx 157 = 4 := by unfold za_mx; rw [zq_157]; rfl
theorem zre_157 : za_re 157 = none := by unfold za_re; rw [zq_157]; rfl
theorem znp_157 : za_np 157 = 1 := by unfold za_np; rw [zq_157]; rfl
theorem zfr_157 : za_fr 157 = 1 ∧ za_lo 157 = 21 ∧ za_im 157 = false := ⟨by unfold za_fr; rw [zq_157]; rfl, by unfold za_lo; rw [zq_157]; rfl, rfl⟩
theorem zcc_158 : za_cc 158 = cX13_makeNumbers := by unfold za_cc; rw [zq_158]; rfl
theorem zow_158 : za_ow 158 = 14 := by unfold za_ow; rw [zq_158]; rfl
theorem zmx_158 : za_mx 158 = 6 := by unfold za_mx; rw [zq_158]; rfl
theorem zre_158 : za_re 158 = none := by unfold za_re; rw [zq_158]; rfl
theorem znp_158 : za_np 158 = 0 := by unfold za_np; rw [zq_158]; rfl
theorem zfr_158 : za_fr 158 = 2 ∧ za_lo 158 = 44 ∧ za_im 158 = false := ⟨by unfold za_fr; rw [zq_158]; rfl, by unfold za_lo; rw [zq_158]; rfl, rfl⟩
theorem zcc_159 : za_cc 159 = cX13_makeLengths := by unfold za_cc; rw [zq_159]; rfl
theorem zow_159 : za_ow 159 = 14 := by unfold za_ow; rw [zq_159]; rfl
theorem zmx_159 : za_mx 159 = 8 := by unfold za_mx; rw [zq_159]; rfl
theorem zre_159 : za_re 159 = none := by unfold za_re; rw [zq_159]; rfl
theorem znp_159 : za_np 159 = 2 := by unfold za_np; rw [zq_159]; rfl
theorem zfr_159 : za_fr 159 = 1 ∧ za_lo 159 = 25 ∧ za_im 159 = false := ⟨by unfold za_fr; rw [zq_159]; rfl, by unfold za_lo; rw [zq_159]; rfl, rfl⟩
theorem zcc_160 : za_cc 160 = cX13_leastOne := by unfold za_cc; rw [zq_160]; rfl
theorem zow_160 : za_ow 160 = 14 := by unfold za_ow; rw [zq_160]; rfl
theorem zmx_160 : za_mx 160 = 6 := by unfold za_mx; rw [zq_160]; rfl
theorem zre_160 : za_re 160 = (some FieldType.int) := by unfold za_re; rw [zq_160]; rfl
theorem znp_160 : za_np 160 = 2 := by unfold za_np; rw [zq_160]; rfl
theorem zfr_160 : za_fr 160 = 0 ∧ za_lo 160 = 0 ∧ za_im 160 = false := ⟨by unfold za_fr; rw [zq_160]; rfl, by unfold za_lo; rw [zq_160]; rfl, rfl⟩
theorem zcc_161 : za_cc 161 = cX13_firstCosts := by unfold za_cc; rw [zq_161]; rfl
theorem zow_161 : za_ow 161 = 14 := by unfold za_ow; rw [zq_161]; rfl
theorem zmx_161 : za_mx 161 = 9 := by unfold za_mx; rw [zq_161]; rfl
theorem zre_161 : za_re 161 = none := by unfold za_re; rw [zq_161]; rfl
theorem znp_161 : za_np 161 = 1 := by unfold za_np; rw [zq_161]; rfl
theorem zfr_161 : za_fr 161 = 0 ∧ za_lo 161 = 0 ∧ za_im 161 = false := ⟨by unfold za_fr; rw [zq_161]; rfl, by unfold za_lo; rw [zq_161]; rfl, rfl⟩
theorem zcc_162 : za_cc 162 = cX13_chooseTables := by unfold za_cc; rw [zq_162]; rfl
theorem zow_162 : za_ow 162 = 14 := by unfold za_ow; rw [zq_162]; rfl
theorem zmx_162 : za_mx 162 = 10 := by unfold za_mx; rw [zq_162]; rfl
theorem zre_162 : za_re 162 = none := by unfold za_re; rw [zq_162]; rfl
theorem znp_162 : za_np 162 = 1 := by unfold za_np; rw [zq_162]; rfl
theorem zfr_162 : za_fr 162 = 2 ∧ za_lo 162 = 52 ∧ za_im 162 = false := ⟨by unfold za_fr; rw [zq_162]; rfl, by unfold za_lo; rw [zq_162]; rfl, rfl⟩
theorem zcc_163 : za_cc 163 = cX13_makeCodes := by unfold za_cc; rw [zq_163]; rfl
theorem zow_163 : za_ow 163 = 14 := by unfold za_ow; rw [zq_163]; rfl
theorem zmx_163 : za_mx 163 = 6 := by unfold za_mx; rw [zq_163]; rfl
theorem zre_163 : za_re 163 = none := by unfold za_re; rw [zq_163]; rfl
theorem znp_163 : za_np 163 = 2 := by unfold za_np; rw [zq_163]; rfl
theorem zfr_163 : za_fr 163 = 0 ∧ za_lo 163 = 0 ∧ za_im 163 = false := ⟨by unfold za_fr; rw [zq_163]; rfl, by unfold za_lo; rw [zq_163]; rfl, rfl⟩
theorem zcc_164 : za_cc 164 = cX13_putMap := by unfold za_cc; rw [zq_164]; rfl
theorem zow_164 : za_ow 164 = 14 := by unfold za_ow; rw [zq_164]; rfl
theorem zmx_164 : za_mx 164 = 4 := by unfold za_mx; rw [zq_164]; rfl
theorem zre_164 : za_re 164 = none := by unfold za_re; rw [zq_164]; rfl
theorem znp_164 : za_np 164 = 0 := by unfold za_np; rw [zq_164]; rfl
theorem zfr_164 : za_fr 164 = 1 ∧ za_lo 164 = 22 ∧ za_im 164 = false := ⟨by unfold za_fr; rw [zq_164]; rfl, by unfold za_lo; rw [zq_164]; rfl, rfl⟩
theorem zcc_165 : za_cc 165 = cX13_putChoices := by unfold za_cc; rw [zq_165]; rfl
theorem zow_165 : za_ow 165 = 14 := by unfold za_ow; rw [zq_165]; rfl
theorem zmx_165 : za_mx 165 = 4 := by unfold za_mx; rw [zq_165]; rfl
theorem zre_165 : za_re 165 = none := by unfold za_re; rw [zq_165]; rfl
theorem znp_165 : za_np 165 = 0 := by unfold za_np; rw [zq_165]; rfl
theorem zfr_165 : za_fr 165 = 1 ∧ za_lo 165 = 22 ∧ za_im 165 = false := ⟨by unfold za_fr; rw [zq_165]; rfl, by unfold za_lo; rw [zq_165]; rfl, rfl⟩
theorem zcc_166 : za_cc 166 = cX13_putLengths := by unfold za_cc; rw [zq_166]; rfl
theorem zow_166 : za_ow 166 = 14 := by unfold za_ow; rw [zq_166]; rfl
theorem zmx_166 : za_mx 166 = 6 := by unfold za_mx; rw [zq_166]; rfl
theorem zre_166 : za_re 166 = none := by unfold za_re; rw [zq_166]; rfl
theorem znp_166 : za_np 166 = 2 := by unfold za_np; rw [zq_166]; rfl
theorem zfr_166 : za_fr 166 = 2 ∧ za_lo 166 = 46 ∧ za_im 166 = false := ⟨by unfold za_fr; rw [zq_166]; rfl, by unfold za_lo; rw [zq_166]; rfl, rfl⟩
theorem zcc_167 : za_cc 167 = cX13_packBlock := by unfold za_cc; rw [zq_167]; rfl
theorem zow_167 : za_ow 167 = 14 := by unfold za_ow; rw [zq_167]; rfl
theorem zmx_167 : za_mx 167 = 9 := by unfold za_mx; rw [zq_167]; rfl
theorem zre_167 : za_re 167 = (some FieldType.int) := by unfold za_re; rw [zq_167]; rfl
theorem znp_167 : za_np 167 = 2 := by unfold za_np; rw [zq_167]; rfl
theorem zfr_167 : za_fr 167 = 3 ∧ za_lo 167 = 81 ∧ za_im 167 = false := ⟨by unfold za_fr; rw [zq_167]; rfl, by unfold za_lo; rw [zq_167]; rfl, rfl⟩
theorem zcc_168 : za_cc 168 = cX13_pack := by unfold za_cc; rw [zq_168]; rfl
theorem zow_168 : za_ow 168 = 14 := by unfold za_ow; rw [zq_168]; rfl
theorem zmx_168 : za_mx 168 = 8 := by unfold za_mx; rw [zq_168]; rfl
theorem zre_168 : za_re 168 = (some FieldType.int) := by unfold za_re; rw [zq_168]; rfl
theorem znp_168 : za_np 168 = 0 := by unfold za_np; rw [zq_168]; rfl
theorem zfr_168 : za_fr 168 = 4 ∧ za_lo 168 = 109 ∧ za_im 168 = false := ⟨by unfold za_fr; rw [zq_168]; rfl, by unfold za_lo; rw [zq_168]; rfl, rfl⟩
theorem zcc_169 : za_cc 169 = cX13_fail := by unfold za_cc; rw [zq_169]; rfl
theorem zow_169 : za_ow 169 = 14 := by unfold za_ow; rw [zq_169]; rfl
theorem zmx_169 : za_mx 169 = 2 := by unfold za_mx; rw [zq_169]; rfl
theorem zre_169 : za_re 169 = none := by unfold za_re; rw [zq_169]; rfl
theorem znp_169 : za_np 169 = 1 := by unfold za_np; rw [zq_169]; rfl
theorem zfr_169 : za_fr 169 = 0 ∧ za_lo 169 = 0 ∧ za_im 169 = false := ⟨by unfold za_fr; rw [zq_169]; rfl, by unfold za_lo; rw [zq_169]; rfl, rfl⟩
theorem zcc_170 : za_cc 170 = cX13_bit := by unfold za_cc; rw [zq_170]; rfl
theorem zow_170 : za_ow 170 = 14 := by unfold za_ow; rw [zq_170]; rfl
theorem zmx_170 : za_mx 170 = 2 := by unfold za_mx; rw [zq_170]; rfl
theorem zre_170 : za_re 170 = (some FieldType.int) := by unfold za_re; rw [zq_170]; rfl
theorem znp_170 : za_np 170 = 0 := by unfold za_np; rw [zq_170]; rfl
theorem zfr_170 : za_fr 170 = 1 ∧ za_lo 170 = 21 ∧ za_im 170 = false := ⟨by unfold za_fr; rw [zq_170]; rfl, by unfold za_lo; rw [zq_170]; rfl, rfl⟩
theorem zcc_171 : za_cc 171 = cX13_bits := by unfold za_cc; rw [zq_171]; rfl
theorem zow_171 : za_ow 171 = 14 := by unfold za_ow; rw [zq_171]; rfl
theorem zmx_171 : za_mx 171 = 5 := by unfold za_mx; rw [zq_171]; rfl
theorem zre_171 : za_re 171 = (some FieldType.long) := by unfold za_re; rw [zq_171]; rfl
theorem znp_171 : za_np 171 = 1 := by unfold za_np; rw [zq_171]; rfl
theorem zfr_171 : za_fr 171 = 2 ∧ za_lo 171 = 42 ∧ za_im 171 = false := ⟨by unfold za_fr; rw [zq_171]; rfl, by unfold za_lo; rw [zq_171]; rfl, rfl⟩
theorem zcc_172 : za_cc 172 = cX13_readMap := by unfold za_cc; rw [zq_172]; rfl
theorem zow_172 : za_ow 172 = 14 := by unfold za_ow; rw [zq_172]; rfl
theorem zmx_172 : za_mx 172 = 5 := by unfold za_mx; rw [zq_172]; rfl
theorem zre_172 : za_re 172 = none := by unfold za_re; rw [zq_172]; rfl
theorem znp_172 : za_np 172 = 0 := by unfold za_np; rw [zq_172]; rfl
theorem zfr_172 : za_fr 172 = 3 ∧ za_lo 172 = 66 ∧ za_im 172 = false := ⟨by unfold za_fr; rw [zq_172]; rfl, by unfold za_lo; rw [zq_172]; rfl, rfl⟩
theorem zcc_173 : za_cc 173 = cX13_readChoices := by unfold za_cc; rw [zq_173]; rfl
theorem zow_173 : za_ow 173 = 14 := by unfold za_ow; rw [zq_173]; rfl
theorem zmx_173 : za_mx 173 = 5 := by unfold za_mx; rw [zq_173]; rfl
theorem zre_173 : za_re 173 = none := by unfold za_re; rw [zq_173]; rfl
theorem znp_173 : za_np 173 = 0 := by unfold za_np; rw [zq_173]; rfl
theorem zfr_173 : za_fr 173 = 3 ∧ za_lo 173 = 66 ∧ za_im 173 = false := ⟨by unfold za_fr; rw [zq_173]; rfl, by unfold za_lo; rw [zq_173]; rfl, rfl⟩
theorem zcc_174 : za_cc 174 = cX13_readLengths := by unfold za_cc; rw [zq_174]; rfl
theorem zow_174 : za_ow 174 = 14 := by unfold za_ow; rw [zq_174]; rfl
theorem zmx_174 : za_mx 174 = 5 := by unfold za_mx; rw [zq_174]; rfl
theorem zre_174 : za_re 174 = none := by unfold za_re; rw [zq_174]; rfl
theorem znp_174 : za_np 174 = 2 := by unfold za_np; rw [zq_174]; rfl
theorem zfr_174 : za_fr 174 = 3 ∧ za_lo 174 = 66 ∧ za_im 174 = false := ⟨by unfold za_fr; rw [zq_174]; rfl, by unfold za_lo; rw [zq_174]; rfl, rfl⟩
theorem zcc_175 : za_cc 175 = cX13_mustBeLength := by unfold za_cc; rw [zq_175]; rfl
theorem zow_175 : za_ow 175 = 14 := by unfold za_ow; rw [zq_175]; rfl
theorem zmx_175 : za_mx 175 = 2 := by unfold za_mx; rw [zq_175]; rfl
theorem zre_175 : za_re 175 = none := by unfold za_re; rw [zq_175]; rfl
theorem znp_175 : za_np 175 = 1 := by unfold za_np; rw [zq_175]; rfl
theorem zfr_175 : za_fr 175 = 1 ∧ za_lo 175 = 25 ∧ za_im 175 = false := ⟨by unfold za_fr; rw [zq_175]; rfl, by unfold za_lo; rw [zq_175]; rfl, rfl⟩
theorem zcc_176 : za_cc 176 = cX13_readCode := by unfold za_cc; rw [zq_176]; rfl
theorem zow_176 : za_ow 176 = 14 := by unfold za_ow; rw [zq_176]; rfl
theorem zmx_176 : za_mx 176 = 8 := by unfold za_mx; rw [zq_176]; rfl
theorem zre_176 : za_re 176 = (some FieldType.int) := by unfold za_re; rw [zq_176]; rfl
theorem znp_176 : za_np 176 = 2 := by unfold za_np; rw [zq_176]; rfl
theorem zfr_176 : za_fr 176 = 2 ∧ za_lo 176 = 42 ∧ za_im 176 = false := ⟨by unfold za_fr; rw [zq_176]; rfl, by unfold za_lo; rw [zq_176]; rfl, rfl⟩
theorem zcc_177 : za_cc 177 = cX13_addBytes := by unfold za_cc; rw [zq_177]; rfl
theorem zow_177 : za_ow 177 = 14 := by unfold za_ow; rw [zq_177]; rfl
theorem zmx_177 : za_mx 177 = 4 := by unfold za_mx; rw [zq_177]; rfl
theorem zre_177 : za_re 177 = none := by unfold za_re; rw [zq_177]; rfl
theorem znp_177 : za_np 177 = 2 := by unfold za_np; rw [zq_177]; rfl
theorem zfr_177 : za_fr 177 = 0 ∧ za_lo 177 = 0 ∧ za_im 177 = false := ⟨by unfold za_fr; rw [zq_177]; rfl, by unfold za_lo; rw [zq_177]; rfl, rfl⟩
theorem zcc_178 : za_cc 178 = cX13_readNumbers := by unfold za_cc; rw [zq_178]; rfl
theorem zow_178 : za_ow 178 = 14 := by unfold za_ow; rw [zq_178]; rfl
theorem zmx_178 : za_mx 178 = 8 := by unfold za_mx; rw [zq_178]; rfl
theorem zre_178 : za_re 178 = none := by unfold za_re; rw [zq_178]; rfl
theorem znp_178 : za_np 178 = 2 := by unfold za_np; rw [zq_178]; rfl
theorem zfr_178 : za_fr 178 = 3 ∧ za_lo 178 = 69 ∧ za_im 178 = false := ⟨by unfold za_fr; rw [zq_178]; rfl, by unfold za_lo; rw [zq_178]; rfl, rfl⟩
theorem zcc_179 : za_cc 179 = cX13_turnBack := by unfold za_cc; rw [zq_179]; rfl
theorem zow_179 : za_ow 179 = 14 := by unfold za_ow; rw [zq_179]; rfl
theorem zmx_179 : za_mx 179 = 4 := by unfold za_mx; rw [zq_179]; rfl
theorem zre_179 : za_re 179 = none := by unfold za_re; rw [zq_179]; rfl
theorem znp_179 : za_np 179 = 1 := by unfold za_np; rw [zq_179]; rfl
theorem zfr_179 : za_fr 179 = 0 ∧ za_lo 179 = 0 ∧ za_im 179 = false := ⟨by unfold za_fr; rw [zq_179]; rfl, by unfold za_lo; rw [zq_179]; rfl, rfl⟩
theorem zcc_180 : za_cc 180 = cX13_runSize := by unfold za_cc; rw [zq_180]; rfl
theorem zow_180 : za_ow 180 = 14 := by unfold za_ow; rw [zq_180]; rfl
theorem zmx_180 : za_mx 180 = 8 := by unfold za_mx; rw [zq_180]; rfl
theorem zre_180 : za_re 180 = (some FieldType.int) := by unfold za_re; rw [zq_180]; rfl
theorem znp_180 : za_np 180 = 1 := by unfold za_np; rw [zq_180]; rfl
theorem zfr_180 : za_fr 180 = 0 ∧ za_lo 180 = 0 ∧ za_im 180 = false := ⟨by unfold za_fr; rw [zq_180]; rfl, by unfold za_lo; rw [zq_180]; rfl, rfl⟩
theorem zcc_181 : za_cc 181 = cX13_readBlock := by unfold za_cc; rw [zq_181]; rfl
theorem zow_181 : za_ow 181 = 14 := by unfold za_ow; rw [zq_181]; rfl
theorem zmx_181 : za_mx 181 = 10 := by unfold za_mx; rw [zq_181]; rfl
theorem zre_181 : za_re 181 = (some FieldType.int) := by unfold za_re; rw [zq_181]; rfl
theorem znp_181 : za_np 181 = 5 := by unfold za_np; rw [zq_181]; rfl
theorem zfr_181 : za_fr 181 = 4 ∧ za_lo 181 = 96 ∧ za_im 181 = false := ⟨by unfold za_fr; rw [zq_181]; rfl, by unfold za_lo; rw [zq_181]; rfl, rfl⟩
theorem zcc_182 : za_cc 182 = cX13_readRow := by unfold za_cc; rw [zq_182]; rfl
theorem zow_182 : za_ow 182 = 14 := by unfold za_ow; rw [zq_182]; rfl
theorem zmx_182 : za_mx 182 = 9 := by unfold za_mx; rw [zq_182]; rfl
theorem zre_182 : za_re 182 = none := by unfold za_re; rw [zq_182]; rfl
theorem znp_182 : za_np 182 = 1 := by unfold za_np; rw [zq_182]; rfl
theorem zfr_182 : za_fr 182 = 5 ∧ za_lo 182 = 125 ∧ za_im 182 = false := ⟨by unfold za_fr; rw [zq_182]; rfl, by unfold za_lo; rw [zq_182]; rfl, rfl⟩
theorem zcc_183 : za_cc 183 = cX13_markAt := by unfold za_cc; rw [zq_183]; rfl
theorem zow_183 : za_ow 183 = 14 := by unfold za_ow; rw [zq_183]; rfl
theorem zmx_183 : za_mx 183 = 6 := by unfold za_mx; rw [zq_183]; rfl
theorem zre_183 : za_re 183 = (some FieldType.int) := by unfold za_re; rw [zq_183]; rfl
theorem znp_183 : za_np 183 = 1 := by unfold za_np; rw [zq_183]; rfl
theorem zfr_183 : za_fr 183 = 0 ∧ za_lo 183 = 0 ∧ za_im 183 = false := ⟨by unfold za_fr; rw [zq_183]; rfl, by unfold za_lo; rw [zq_183]; rfl, rfl⟩
theorem zcc_184 : za_cc 184 = cX13_mark := by unfold za_cc; rw [zq_184]; rfl
theorem zow_184 : za_ow 184 = 14 := by unfold za_ow; rw [zq_184]; rfl
theorem zmx_184 : za_mx 184 = 3 := by unfold za_mx; rw [zq_184]; rfl
theorem zre_184 : za_re 184 = (some FieldType.int) := by unfold za_re; rw [zq_184]; rfl
theorem znp_184 : za_np 184 = 1 := by unfold za_np; rw [zq_184]; rfl
theorem zfr_184 : za_fr 184 = 1 ∧ za_lo 184 = 25 ∧ za_im 184 = false := ⟨by unfold za_fr; rw [zq_184]; rfl, by unfold za_lo; rw [zq_184]; rfl, rfl⟩
theorem zcc_185 : za_cc 185 = cJ7_fill_53178 := by unfold za_cc; rw [zq_185]; rfl
theorem zow_185 : za_ow 185 = 16 := by unfold za_ow; rw [zq_185]; rfl
theorem zmx_185 : za_mx 185 = 4 := by unfold za_mx; rw [zq_185]; rfl
theorem zre_185 : za_re 185 = none := by unfold za_re; rw [zq_185]; rfl
theorem znp_185 : za_np 185 = 2 := by unfold za_np; rw [zq_185]; rfl
theorem zfr_185 : za_fr 185 = 0 ∧ za_lo 185 = 0 ∧ za_im 185 = false := ⟨by unfold za_fr; rw [zq_185]; rfl, by unfold za_lo; rw [zq_185]; rfl, rfl⟩
theorem zcc_186 : za_cc 186 = cL_cell := by unfold za_cc; rw [zq_186]; rfl
theorem zow_186 : za_ow 186 = 15 := by unfold za_ow; rw [zq_186]; rfl
theorem zmx_186 : za_mx 186 = 2 := by unfold za_mx; rw [zq_186]; rfl
theorem zre_186 : za_re 186 = (some FieldType.int) := by unfold za_re; rw [zq_186]; rfl
theorem znp_186 : za_np 186 = 2 := by unfold za_np; rw [zq_186]; rfl
theorem zfr_186 : za_fr 186 = 0 ∧ za_lo 186 = 0 ∧ za_im 186 = false := ⟨by unfold za_fr; rw [zq_186]; rfl, by unfold za_lo; rw [zq_186]; rfl, rfl⟩
theorem zcc_187 : za_cc 187 = cX13_open := by unfold za_cc; rw [zq_187]; rfl
theorem zow_187 : za_ow 187 = 14 := by unfold za_ow; rw [zq_187]; rfl
theorem zmx_187 : za_mx 187 = 3 := by unfold za_mx; rw [zq_187]; rfl
theorem zre_187 : za_re 187 = (some FieldType.int) := by unfold za_re; rw [zq_187]; rfl
theorem znp_187 : za_np 187 = 0 := by unfold za_np; rw [zq_187]; rfl
theorem zfr_187 : za_fr 187 = 6 ∧ za_lo 187 = 153 ∧ za_im 187 = false := ⟨by unfold za_fr; rw [zq_187]; rfl, by unfold za_lo; rw [zq_187]; rfl, rfl⟩
theorem zcc_188 : za_cc 188 = cX13_alone := by unfold za_cc; rw [zq_188]; rfl
theorem zow_188 : za_ow 188 = 14 := by unfold za_ow; rw [zq_188]; rfl
theorem zmx_188 : za_mx 188 = 5 := by unfold za_mx; rw [zq_188]; rfl
theorem zre_188 : za_re 188 = (some FieldType.int) := by unfold za_re; rw [zq_188]; rfl
theorem znp_188 : za_np 188 = 1 := by unfold za_np; rw [zq_188]; rfl
theorem zfr_188 : za_fr 188 = 5 ∧ za_lo 188 = 125 ∧ za_im 188 = false := ⟨by unfold za_fr; rw [zq_188]; rfl, by unfold za_lo; rw [zq_188]; rfl, rfl⟩
theorem zcc_189 : za_cc 189 = cL_out := by unfold za_cc; rw [zq_189]; rfl
theorem zow_189 : za_ow 189 = 15 := by unfold za_ow; rw [zq_189]; rfl
theorem zmx_189 : za_mx 189 = 4 := by unfold za_mx; rw [zq_189]; rfl
theorem zre_189 : za_re 189 = (some FieldType.int) := by unfold za_re; rw [zq_189]; rfl
theorem znp_189 : za_np 189 = 3 := by unfold za_np; rw [zq_189]; rfl
theorem zfr_189 : za_fr 189 = 3 ∧ za_lo 189 = 63 ∧ za_im 189 = false := ⟨by unfold za_fr; rw [zq_189]; rfl, by unfold za_lo; rw [zq_189]; rfl, rfl⟩
theorem zf_1_9 : za_fd 1 9 = some (1, 0) := by decide +kernel
theorem zf_1_15 : za_fd 1 15 = some (1, 1) := by decide +kernel
theorem zf_1_19 : za_fd 1 19 = some (8, 1) := by decide +kernel
theorem zf_1_24 : za_fd 1 24 = some (8, 0) := by decide +kernel
theorem zf_2_7 : za_fd 2 7 = some (2, 0) := by decide +kernel
theorem zf_2_19 : za_fd 2 19 = some (2, 1) := by decide +kernel
theorem zf_2_23 : za_fd 2 23 = some (2, 2) := by decide +kernel
theorem zf_2_32 : za_fd 2 32 = some (8, 1) := by decide +kernel
theorem zf_3_9 : za_fd 3 9 = some (3, 0) := by decide +kernel
theorem zf_3_15 : za_fd 3 15 = some (3, 1) := by decide +kernel
theorem zf_3_18 : za_fd 3 18 = some (3, 2) := by decide +kernel
theorem zf_3_21 : za_fd 3 21 = some (3, 3) := by decide +kernel
theorem zf_3_24 : za_fd 3 24 = some (3, 4) := by decide +kernel
theorem zf_4_9 : za_fd 4 9 = some (4, 3) := by decide +kernel
theorem zf_4_17 : za_fd 4 17 = some (4, 4) := by decide +kernel
theorem zf_4_20 : za_fd 4 20 = some (4, 0) := by decide +kernel
theorem zf_4_24 : za_fd 4 24 = some (4, 1) := by decide +kernel
theorem zf_4_27 : za_fd 4 27 = some (4, 2) := by decide +kernel
theorem zf_5_13 : za_fd 5 13 = some (5, 0) := by decide +kernel
theorem zf_5_19 : za_fd 5 19 = some (5, 1) := by decide +kernel
theorem zf_6_14 : za_fd 6 14 = some (6, 4) := by decide +kernel
theorem zf_6_20 : za_fd 6 20 = some (6, 5) := by decide +kernel
theorem zf_6_25 : za_fd 6 25 = some (6, 6) := by decide +kernel
theorem zf_6_29 : za_fd 6 29 = some (6, 7) := by decide +kernel
theorem zf_6_33 : za_fd 6 33 = some (6, 8) := by decide +kernel
theorem zf_6_36 : za_fd 6 36 = some (6, 0) := by decide +kernel
theorem zf_6_40 : za_fd 6 40 = some (6, 1) := by decide +kernel
theorem zf_6_44 : za_fd 6 44 = some (6, 2) := by decide +kernel
theorem zf_6_53 : za_fd 6 53 = some (6, 3) := by decide +kernel
theorem zf_6_84 : za_fd 6 84 = some (1, 1) := by decide +kernel
theorem zf_6_88 : za_fd 6 88 = some (6, 12) := by decide +kernel
theorem zf_6_119 : za_fd 6 119 = some (6, 11) := by decide +kernel
theorem zf_6_122 : za_fd 6 122 = some (10, 3) := by decide +kernel
theorem zf_6_141 : za_fd 6 141 = some (10, 6) := by decide +kernel
theorem zf_6_168 : za_fd 6 168 = some (6, 10) := by decide +kernel
theorem zf_6_177 : za_fd 6 177 = some (5, 1) := by decide +kernel
theorem zf_6_180 : za_fd 6 180 = some (4, 2) := by decide +kernel
theorem zf_6_185 : za_fd 6 185 = some (4, 0) := by decide +kernel
theorem zf_6_188 : za_fd 6 188 = some (4, 1) := by decide +kernel
theorem zf_6_208 : za_fd 6 208 = some (4, 4) := by decide +kernel
theorem zf_6_216 : za_fd 6 216 = some (6, 9) := by decide +kernel
theorem zf_6_240 : za_fd 6 240 = some (8, 1) := by decide +kernel
theorem zf_7_14 : za_fd 7 14 = some (7, 3) := by decide +kernel
theorem zf_7_20 : za_fd 7 20 = some (7, 4) := by decide +kernel
theorem zf_7_26 : za_fd 7 26 = some (7, 5) := by decide +kernel
theorem zf_7_32 : za_fd 7 32 = some (7, 6) := by decide +kernel
theorem zf_7_36 : za_fd 7 36 = some (7, 7) := by decide +kernel
theorem zf_7_40 : za_fd 7 40 = some (7, 8) := by decide +kernel
theorem zf_7_44 : za_fd 7 44 = some (7, 10) := by decide +kernel
theorem zf_7_47 : za_fd 7 47 = some (7, 0) := by decide +kernel
theorem zf_7_51 : za_fd 7 51 = some (7, 1) := by decide +kernel
theorem zf_7_60 : za_fd 7 60 = some (7, 2) := by decide +kernel
theorem zf_7_83 : za_fd 7 83 = some (8, 1) := by decide +kernel
theorem zf_7_100 : za_fd 7 100 = some (10, 3) := by decide +kernel
theorem zf_7_125 : za_fd 7 125 = some (7, 9) := by decide +kernel
theorem zf_7_142 : za_fd 7 142 = some (10, 6) := by decide +kernel
theorem zf_7_146 : za_fd 7 146 = some (5, 1) := by decide +kernel
theorem zf_7_147 : za_fd 7 147 = some (4, 2) := by decide +kernel
theorem zf_7_152 : za_fd 7 152 = some (7, 11) := by decide +kernel
theorem zf_7_185 : za_fd 7 185 = some (2, 1) := by decide +kernel
theorem zf_7_194 : za_fd 7 194 = some (4, 0) := by decide +kernel
theorem zf_7_197 : za_fd 7 197 = some (4, 1) := by decide +kernel
theorem zf_7_241 : za_fd 7 241 = some (4, 4) := by decide +kernel
theorem zf_7_252 : za_fd 7 252 = some (3, 4) := by decide +kernel
theorem zf_8_13 : za_fd 8 13 = some (8, 0) := by decide +kernel
theorem zf_8_19 : za_fd 8 19 = some (8, 1) := by decide +kernel
theorem zf_9_11 : za_fd 9 11 = some (9, 0) := by decide +kernel
theorem zf_9_16 : za_fd 9 16 = some (9, 1) := by decide +kernel
theorem zf_9_20 : za_fd 9 20 = some (9, 2) := by decide +kernel
theorem zf_9_23 : za_fd 9 23 = some (9, 3) := by decide +kernel
theorem zf_9_26 : za_fd 9 26 = some (9, 4) := by decide +kernel
theorem zf_9_29 : za_fd 9 29 = some (9, 5) := by decide +kernel
theorem zf_9_36 : za_fd 9 36 = some (4, 0) := by decide +kernel
theorem zf_9_42 : za_fd 9 42 = some (4, 1) := by decide +kernel
theorem zf_9_52 : za_fd 9 52 = some (4, 2) := by decide +kernel
theorem zf_9_55 : za_fd 9 55 = some (4, 4) := by decide +kernel
theorem zf_9_96 : za_fd 9 96 = some (9, 6) := by decide +kernel
theorem zf_9_99 : za_fd 9 99 = some (9, 7) := by decide +kernel
theorem zf_9_102 : za_fd 9 102 = some (9, 8) := by decide +kernel
theorem zf_10_9 : za_fd 10 9 = some (10, 0) := by decide +kernel
theorem zf_10_15 : za_fd 10 15 = some (10, 1) := by decide +kernel
theorem zf_10_18 : za_fd 10 18 = some (10, 2) := by decide +kernel
theorem zf_10_24 : za_fd 10 24 = some (10, 5) := by decide +kernel
theorem zf_10_28 : za_fd 10 28 = some (10, 6) := by decide +kernel
theorem zf_10_31 : za_fd 10 31 = some (10, 4) := by decide +kernel
theorem zf_10_48 : za_fd 10 48 = some (10, 3) := by decide +kernel
theorem zf_11_9 : za_fd 11 9 = some (11, 0) := by decide +kernel
theorem zf_11_15 : za_fd 11 15 = some (11, 1) := by decide +kernel
theorem zf_11_18 : za_fd 11 18 = some (11, 2) := by decide +kernel
theorem zf_11_21 : za_fd 11 21 = some (11, 3) := by decide +kernel
theorem zf_12_18 : za_fd 12 18 = some (12, 0) := by decide +kernel
theorem zf_12_27 : za_fd 12 27 = some (12, 1) := by decide +kernel
theorem zf_12_31 : za_fd 12 31 = some (12, 2) := by decide +kernel
theorem zf_12_34 : za_fd 12 34 = some (12, 3) := by decide +kernel
theorem zf_12_40 : za_fd 12 40 = some (12, 4) := by decide +kernel
theorem zf_12_52 : za_fd 12 52 = some (12, 5) := by decide +kernel
theorem zf_12_61 : za_fd 12 61 = some (12, 6) := by decide +kernel
theorem zf_12_72 : za_fd 12 72 = some (8, 1) := by decide +kernel
theorem zf_12_100 : za_fd 12 100 = some (6, 12) := by decide +kernel
theorem zf_12_124 : za_fd 12 124 = some (10, 4) := by decide +kernel
theorem zf_12_133 : za_fd 12 133 = some (10, 5) := by decide +kernel
theorem zf_12_149 : za_fd 12 149 = some (4, 4) := by decide +kernel
theorem zf_14_1 : za_fd 14 1 = some (14, 0) := by decide +kernel
theorem zf_14_16 : za_fd 14 16 = some (14, 1) := by decide +kernel
theorem zf_14_20 : za_fd 14 20 = some (14, 3) := by decide +kernel
theorem zf_14_24 : za_fd 14 24 = some (14, 5) := by decide +kernel
theorem zf_14_27 : za_fd 14 27 = some (14, 7) := by decide +kernel
theorem zf_14_30 : za_fd 14 30 = some (14, 11) := by decide +kernel
theorem zf_14_34 : za_fd 14 34 = some (14, 12) := by decide +kernel
theorem zf_14_38 : za_fd 14 38 = some (14, 13) := by decide +kernel
theorem zf_14_41 : za_fd 14 41 = some (14, 15) := by decide +kernel
theorem zf_14_44 : za_fd 14 44 = some (14, 20) := by decide +kernel
theorem zf_14_47 : za_fd 14 47 = some (14, 22) := by decide +kernel
theorem zf_14_50 : za_fd 14 50 = some (14, 23) := by decide +kernel
theorem zf_14_53 : za_fd 14 53 = some (14, 24) := by decide +kernel
theorem zf_14_56 : za_fd 14 56 = some (14, 26) := by decide +kernel
theorem zf_14_59 : za_fd 14 59 = some (14, 27) := by decide +kernel
theorem zf_14_63 : za_fd 14 63 = some (14, 29) := by decide +kernel
theorem zf_14_66 : za_fd 14 66 = some (14, 30) := by decide +kernel
theorem zf_14_69 : za_fd 14 69 = some (14, 31) := by decide +kernel
theorem zf_14_72 : za_fd 14 72 = some (14, 32) := by decide +kernel
theorem zf_14_75 : za_fd 14 75 = some (14, 35) := by decide +kernel
theorem zf_14_79 : za_fd 14 79 = some (14, 36) := by decide +kernel
theorem zf_14_82 : za_fd 14 82 = some (14, 37) := by decide +kernel
theorem zf_14_85 : za_fd 14 85 = some (14, 38) := by decide +kernel
theorem zf_14_88 : za_fd 14 88 = some (14, 39) := by decide +kernel
theorem zf_14_91 : za_fd 14 91 = some (14, 40) := by decide +kernel
theorem zf_14_94 : za_fd 14 94 = some (14, 41) := by decide +kernel
theorem zf_14_97 : za_fd 14 97 = some (14, 43) := by decide +kernel
theorem zf_14_100 : za_fd 14 100 = some (14, 44) := by decide +kernel
theorem zf_14_103 : za_fd 14 103 = some (14, 45) := by decide +kernel
theorem zf_14_106 : za_fd 14 106 = some (14, 2) := by decide +kernel
theorem zf_14_109 : za_fd 14 109 = some (14, 4) := by decide +kernel
theorem zf_14_120 : za_fd 14 120 = some (14, 9) := by decide +kernel
theorem zf_14_123 : za_fd 14 123 = some (14, 6) := by decide +kernel
theorem zf_14_128 : za_fd 14 128 = some (14, 8) := by decide +kernel
theorem zf_14_131 : za_fd 14 131 = some (14, 10) := by decide +kernel
theorem zf_14_140 : za_fd 14 140 = some (14, 16) := by decide +kernel
theorem zf_14_143 : za_fd 14 143 = some (14, 17) := by decide +kernel
theorem zf_14_146 : za_fd 14 146 = some (14, 14) := by decide +kernel
theorem zf_14_150 : za_fd 14 150 = some (14, 18) := by decide +kernel
theorem zf_14_153 : za_fd 14 153 = some (14, 19) := by decide +kernel
theorem zf_14_161 : za_fd 14 161 = some (14, 21) := by decide +kernel
theorem zf_14_171 : za_fd 14 171 = some (14, 28) := by decide +kernel
theorem zf_14_174 : za_fd 14 174 = some (14, 25) := by decide +kernel
theorem zf_14_189 : za_fd 14 189 = some (14, 34) := by decide +kernel
theorem zf_14_195 : za_fd 14 195 = some (14, 33) := by decide +kernel
theorem zf_14_262 : za_fd 14 262 = some (13, 6) := by decide +kernel
theorem zf_14_265 : za_fd 14 265 = some (14, 42) := by decide +kernel
theorem zf_14_308 : za_fd 14 308 = some (14, 46) := by decide +kernel
theorem zp_1_9 : za_fpl 1 9 = true := by decide +kernel
theorem zp_1_15 : za_fpl 1 15 = true := by decide +kernel
theorem zp_2_7 : za_fpl 2 7 = true := by decide +kernel
theorem zp_2_19 : za_fpl 2 19 = true := by decide +kernel
theorem zp_2_23 : za_fpl 2 23 = true := by decide +kernel
theorem zp_3_9 : za_fpl 3 9 = true := by decide +kernel
theorem zp_3_15 : za_fpl 3 15 = true := by decide +kernel
theorem zp_3_18 : za_fpl 3 18 = true := by decide +kernel
theorem zp_3_21 : za_fpl 3 21 = true := by decide +kernel
theorem zp_3_24 : za_fpl 3 24 = true := by decide +kernel
theorem zp_4_9 : za_fpl 4 9 = true := by decide +kernel
theorem zp_4_17 : za_fpl 4 17 = true := by decide +kernel
theorem zp_4_20 : za_fpl 4 20 = true := by decide +kernel
theorem zp_4_24 : za_fpl 4 24 = true := by decide +kernel
theorem zp_4_27 : za_fpl 4 27 = true := by decide +kernel
theorem zp_5_13 : za_fpl 5 13 = true := by decide +kernel
theorem zp_5_19 : za_fpl 5 19 = true := by decide +kernel
theorem zp_6_14 : za_fpl 6 14 = true := by decide +kernel
theorem zp_6_20 : za_fpl 6 20 = true := by decide +kernel
theorem zp_6_25 : za_fpl 6 25 = true := by decide +kernel
theorem zp_6_29 : za_fpl 6 29 = true := by decide +kernel
theorem zp_6_33 : za_fpl 6 33 = true := by decide +kernel
theorem zp_6_36 : za_fpl 6 36 = true := by decide +kernel
theorem zp_6_40 : za_fpl 6 40 = true := by decide +kernel
theorem zp_6_44 : za_fpl 6 44 = true := by decide +kernel
theorem zp_6_53 : za_fpl 6 53 = true := by decide +kernel
theorem zp_6_88 : za_fpl 6 88 = true := by decide +kernel
theorem zp_6_119 : za_fpl 6 119 = true := by decide +kernel
theorem zp_6_168 : za_fpl 6 168 = true := by decide +kernel
theorem zp_6_216 : za_fpl 6 216 = true := by decide +kernel
theorem zp_7_14 : za_fpl 7 14 = true := by decide +kernel
theorem zp_7_20 : za_fpl 7 20 = true := by decide +kernel
theorem zp_7_26 : za_fpl 7 26 = true := by decide +kernel
theorem zp_7_32 : za_fpl 7 32 = true := by decide +kernel
theorem zp_7_36 : za_fpl 7 36 = true := by decide +kernel
theorem zp_7_40 : za_fpl 7 40 = true := by decide +kernel
theorem zp_7_44 : za_fpl 7 44 = true := by decide +kernel
theorem zp_7_47 : za_fpl 7 47 = true := by decide +kernel
theorem zp_7_51 : za_fpl 7 51 = true := by decide +kernel
theorem zp_7_60 : za_fpl 7 60 = true := by decide +kernel
theorem zp_7_125 : za_fpl 7 125 = true := by decide +kernel
theorem zp_7_152 : za_fpl 7 152 = true := by decide +kernel
theorem zp_8_13 : za_fpl 8 13 = true := by decide +kernel
theorem zp_8_19 : za_fpl 8 19 = true := by decide +kernel
theorem zp_9_11 : za_fpl 9 11 = true := by decide +kernel
theorem zp_9_16 : za_fpl 9 16 = true := by decide +kernel
theorem zp_9_20 : za_fpl 9 20 = true := by decide +kernel
theorem zp_9_23 : za_fpl 9 23 = true := by decide +kernel
theorem zp_9_26 : za_fpl 9 26 = true := by decide +kernel
theorem zp_9_29 : za_fpl 9 29 = true := by decide +kernel
theorem zp_9_96 : za_fpl 9 96 = true := by decide +kernel
theorem zp_9_99 : za_fpl 9 99 = true := by decide +kernel
theorem zp_9_102 : za_fpl 9 102 = true := by decide +kernel
theorem zp_10_9 : za_fpl 10 9 = true := by decide +kernel
theorem zp_10_15 : za_fpl 10 15 = true := by decide +kernel
theorem zp_10_18 : za_fpl 10 18 = true := by decide +kernel
theorem zp_10_24 : za_fpl 10 24 = true := by decide +kernel
theorem zp_10_28 : za_fpl 10 28 = true := by decide +kernel
theorem zp_10_31 : za_fpl 10 31 = true := by decide +kernel
theorem zp_10_48 : za_fpl 10 48 = true := by decide +kernel
theorem zp_11_9 : za_fpl 11 9 = true := by decide +kernel
theorem zp_11_15 : za_fpl 11 15 = true := by decide +kernel
theorem zp_11_18 : za_fpl 11 18 = true := by decide +kernel
theorem zp_11_21 : za_fpl 11 21 = true := by decide +kernel
theorem zp_12_18 : za_fpl 12 18 = true := by decide +kernel
theorem zp_12_27 : za_fpl 12 27 = true := by decide +kernel
theorem zp_12_31 : za_fpl 12 31 = true := by decide +kernel
theorem zp_12_34 : za_fpl 12 34 = true := by decide +kernel
theorem zp_12_40 : za_fpl 12 40 = true := by decide +kernel
theorem zp_12_52 : za_fpl 12 52 = true := by decide +kernel
theorem zp_12_61 : za_fpl 12 61 = true := by decide +kernel
theorem zp_14_1 : za_fpl 14 1 = true := by decide +kernel
theorem zp_14_16 : za_fpl 14 16 = true := by decide +kernel
theorem zp_14_20 : za_fpl 14 20 = true := by decide +kernel
theorem zp_14_24 : za_fpl 14 24 = true := by decide +kernel
theorem zp_14_27 : za_fpl 14 27 = true := by decide +kernel
theorem zp_14_30 : za_fpl 14 30 = true := by decide +kernel
theorem zp_14_34 : za_fpl 14 34 = true := by decide +kernel
theorem zp_14_38 : za_fpl 14 38 = true := by decide +kernel
theorem zp_14_41 : za_fpl 14 41 = true := by decide +kernel
theorem zp_14_44 : za_fpl 14 44 = true := by decide +kernel
theorem zp_14_47 : za_fpl 14 47 = true := by decide +kernel
theorem zp_14_50 : za_fpl 14 50 = true := by decide +kernel
theorem zp_14_53 : za_fpl 14 53 = true := by decide +kernel
theorem zp_14_56 : za_fpl 14 56 = true := by decide +kernel
theorem zp_14_59 : za_fpl 14 59 = true := by decide +kernel
theorem zp_14_63 : za_fpl 14 63 = true := by decide +kernel
theorem zp_14_66 : za_fpl 14 66 = true := by decide +kernel
theorem zp_14_69 : za_fpl 14 69 = true := by decide +kernel
theorem zp_14_72 : za_fpl 14 72 = true := by decide +kernel
theorem zp_14_75 : za_fpl 14 75 = true := by decide +kernel
theorem zp_14_79 : za_fpl 14 79 = true := by decide +kernel
theorem zp_14_82 : za_fpl 14 82 = true := by decide +kernel
theorem zp_14_85 : za_fpl 14 85 = true := by decide +kernel
theorem zp_14_88 : za_fpl 14 88 = true := by decide +kernel
theorem zp_14_91 : za_fpl 14 91 = true := by decide +kernel
theorem zp_14_94 : za_fpl 14 94 = true := by decide +kernel
theorem zp_14_97 : za_fpl 14 97 = true := by decide +kernel
theorem zp_14_100 : za_fpl 14 100 = true := by decide +kernel
theorem zp_14_103 : za_fpl 14 103 = true := by decide +kernel
theorem zp_14_106 : za_fpl 14 106 = true := by decide +kernel
theorem zp_14_109 : za_fpl 14 109 = true := by decide +kernel
theorem zp_14_120 : za_fpl 14 120 = true := by decide +kernel
theorem zp_14_123 : za_fpl 14 123 = true := by decide +kernel
theorem zp_14_128 : za_fpl 14 128 = true := by decide +kernel
theorem zp_14_131 : za_fpl 14 131 = true := by decide +kernel
theorem zp_14_140 : za_fpl 14 140 = true := by decide +kernel
theorem zp_14_143 : za_fpl 14 143 = true := by decide +kernel
theorem zp_14_146 : za_fpl 14 146 = true := by decide +kernel
theorem zp_14_150 : za_fpl 14 150 = true := by decide +kernel
theorem zp_14_153 : za_fpl 14 153 = true := by decide +kernel
theorem zp_14_161 : za_fpl 14 161 = true := by decide +kernel
theorem zp_14_171 : za_fpl 14 171 = true := by decide +kernel
theorem zp_14_174 : za_fpl 14 174 = true := by decide +kernel
theorem zp_14_189 : za_fpl 14 189 = true := by decide +kernel
theorem zp_14_195 : za_fpl 14 195 = true := by decide +kernel
theorem zp_14_265 : za_fpl 14 265 = true := by decide +kernel
theorem zp_14_308 : za_fpl 14 308 = true := by decide +kernel
theorem zl_1_0 : za_ft 1 0 = .object "SortPacks$Row" ∧ za_fi 1 0 = true := by decide +kernel
theorem zl_1_1 : za_ft 1 1 = .int ∧ za_fi 1 1 = false := by decide +kernel
theorem zl_2_0 : za_ft 2 0 = .object "SortPacks$Row" ∧ za_fi 2 0 = true := by decide +kernel
theorem zl_2_1 : za_ft 2 1 = .int ∧ za_fi 2 1 = false := by decide +kernel
theorem zl_2_2 : za_ft 2 2 = .int ∧ za_fi 2 2 = false := by decide +kernel
theorem zl_3_0 : za_ft 3 0 = .array .int ∧ za_fi 3 0 = true := by decide +kernel
theorem zl_3_1 : za_ft 3 1 = .array .int ∧ za_fi 3 1 = true := by decide +kernel
theorem zl_3_2 : za_ft 3 2 = .array .int ∧ za_fi 3 2 = true := by decide +kernel
theorem zl_3_3 : za_ft 3 3 = .array .int ∧ za_fi 3 3 = true := by decide +kernel
theorem zl_3_4 : za_ft 3 4 = .array .int ∧ za_fi 3 4 = true := by decide +kernel
theorem zl_4_0 : za_ft 4 0 = .int ∧ za_fi 4 0 = false := by decide +kernel
theorem zl_4_1 : za_ft 4 1 = .int ∧ za_fi 4 1 = false := by decide +kernel
theorem zl_4_2 : za_ft 4 2 = .int ∧ za_fi 4 2 = false := by decide +kernel
theorem zl_4_3 : za_ft 4 3 = .array .byte ∧ za_fi 4 3 = true := by decide +kernel
theorem zl_4_4 : za_ft 4 4 = .array (.array .int) ∧ za_fi 4 4 = true := by decide +kernel
theorem zl_5_0 : za_ft 5 0 = .array .int ∧ za_fi 5 0 = true := by decide +kernel
theorem zl_5_1 : za_ft 5 1 = .int ∧ za_fi 5 1 = false := by decide +kernel
theorem zl_6_0 : za_ft 6 0 = .object "SortPacks$Row" ∧ za_fi 6 0 = true := by decide +kernel
theorem zl_6_1 : za_ft 6 1 = .object "SortPacks$Told" ∧ za_fi 6 1 = true := by decide +kernel
theorem zl_6_2 : za_ft 6 2 = .object "SortPacks$Turns" ∧ za_fi 6 2 = true := by decide +kernel
theorem zl_6_3 : za_ft 6 3 = .object "SortPacks$BitReader" ∧ za_fi 6 3 = true := by decide +kernel
theorem zl_6_4 : za_ft 6 4 = .object "SortPacks$Front" ∧ za_fi 6 4 = true := by decide +kernel
theorem zl_6_5 : za_ft 6 5 = .object "SortPacks$Front" ∧ za_fi 6 5 = true := by decide +kernel
theorem zl_6_6 : za_ft 6 6 = .array (.object "SortPacks$Codes") ∧ za_fi 6 6 = true := by decide +kernel
theorem zl_6_7 : za_ft 6 7 = .array .byte ∧ za_fi 6 7 = true := by decide +kernel
theorem zl_6_8 : za_ft 6 8 = .array .byte ∧ za_fi 6 8 = true := by decide +kernel
theorem zl_6_9 : za_ft 6 9 = .int ∧ za_fi 6 9 = false := by decide +kernel
theorem zl_6_10 : za_ft 6 10 = .int ∧ za_fi 6 10 = false := by decide +kernel
theorem zl_6_11 : za_ft 6 11 = .int ∧ za_fi 6 11 = false := by decide +kernel
theorem zl_6_12 : za_ft 6 12 = .int ∧ za_fi 6 12 = false := by decide +kernel
theorem zl_7_0 : za_ft 7 0 = .object "SortPacks$Told" ∧ za_fi 7 0 = true := by decide +kernel
theorem zl_7_1 : za_ft 7 1 = .object "SortPacks$Turns" ∧ za_fi 7 1 = true := by decide +kernel
theorem zl_7_2 : za_ft 7 2 = .object "SortPacks$BitWriter" ∧ za_fi 7 2 = true := by decide +kernel
theorem zl_7_3 : za_ft 7 3 = .object "SortPacks$Front" ∧ za_fi 7 3 = true := by decide +kernel
theorem zl_7_4 : za_ft 7 4 = .object "SortPacks$Front" ∧ za_fi 7 4 = true := by decide +kernel
theorem zl_7_5 : za_ft 7 5 = .object "SortPacks$TableMaker" ∧ za_fi 7 5 = true := by decide +kernel
theorem zl_7_6 : za_ft 7 6 = .array (.object "SortPacks$Codes") ∧ za_fi 7 6 = true := by decide +kernel
theorem zl_7_7 : za_ft 7 7 = .array .int ∧ za_fi 7 7 = true := by decide +kernel
theorem zl_7_8 : za_ft 7 8 = .array .byte ∧ za_fi 7 8 = true := by decide +kernel
theorem zl_7_9 : za_ft 7 9 = .int ∧ za_fi 7 9 = false := by decide +kernel
theorem zl_7_10 : za_ft 7 10 = .array .int ∧ za_fi 7 10 = true := by decide +kernel
theorem zl_7_11 : za_ft 7 11 = .int ∧ za_fi 7 11 = false := by decide +kernel
theorem zl_8_0 : za_ft 8 0 = .array .byte ∧ za_fi 8 0 = true := by decide +kernel
theorem zl_8_1 : za_ft 8 1 = .int ∧ za_fi 8 1 = false := by decide +kernel
theorem zl_9_0 : za_ft 9 0 = .array (.array .int) ∧ za_fi 9 0 = true := by decide +kernel
theorem zl_9_1 : za_ft 9 1 = .array .int ∧ za_fi 9 1 = true := by decide +kernel
theorem zl_9_2 : za_ft 9 2 = .array .int ∧ za_fi 9 2 = true := by decide +kernel
theorem zl_9_3 : za_ft 9 3 = .array .int ∧ za_fi 9 3 = true := by decide +kernel
theorem zl_9_4 : za_ft 9 4 = .array .int ∧ za_fi 9 4 = true := by decide +kernel
theorem zl_9_5 : za_ft 9 5 = .array .int ∧ za_fi 9 5 = true := by decide +kernel
theorem zl_9_6 : za_ft 9 6 = .int ∧ za_fi 9 6 = false := by decide +kernel
theorem zl_9_7 : za_ft 9 7 = .int ∧ za_fi 9 7 = false := by decide +kernel
theorem zl_9_8 : za_ft 9 8 = .int ∧ za_fi 9 8 = false := by decide +kernel
theorem zl_10_0 : za_ft 10 0 = .array .int ∧ za_fi 10 0 = true := by decide +kernel
theorem zl_10_1 : za_ft 10 1 = .array .int ∧ za_fi 10 1 = true := by decide +kernel
theorem zl_10_2 : za_ft 10 2 = .array .int ∧ za_fi 10 2 = true := by decide +kernel
theorem zl_10_3 : za_ft 10 3 = .int ∧ za_fi 10 3 = false := by decide +kernel
theorem zl_10_4 : za_ft 10 4 = .int ∧ za_fi 10 4 = false := by decide +kernel
theorem zl_10_5 : za_ft 10 5 = .object "SortPacks$Coding" ∧ za_fi 10 5 = false := by decide +kernel
theorem zl_10_6 : za_ft 10 6 = .object "SortPacks$Coding" ∧ za_fi 10 6 = false := by decide +kernel
theorem zl_11_0 : za_ft 11 0 = .array .int ∧ za_fi 11 0 = true := by decide +kernel
theorem zl_11_1 : za_ft 11 1 = .array .int ∧ za_fi 11 1 = true := by decide +kernel
theorem zl_11_2 : za_ft 11 2 = .array .int ∧ za_fi 11 2 = true := by decide +kernel
theorem zl_11_3 : za_ft 11 3 = .array .int ∧ za_fi 11 3 = true := by decide +kernel
theorem zl_12_0 : za_ft 12 0 = .int ∧ za_fi 12 0 = true := by decide +kernel
theorem zl_12_1 : za_ft 12 1 = .object "SortPacks$Row" ∧ za_fi 12 1 = true := by decide +kernel
theorem zl_12_2 : za_ft 12 2 = .object "SortPacks$Row" ∧ za_fi 12 2 = true := by decide +kernel
theorem zl_12_3 : za_ft 12 3 = .object "SortPacks$Row" ∧ za_fi 12 3 = true := by decide +kernel
theorem zl_12_4 : za_ft 12 4 = .object "SortPacks$Told" ∧ za_fi 12 4 = true := by decide +kernel
theorem zl_12_5 : za_ft 12 5 = .object "SortPacks$Packer" ∧ za_fi 12 5 = true := by decide +kernel
theorem zl_12_6 : za_ft 12 6 = .object "SortPacks$Opener" ∧ za_fi 12 6 = true := by decide +kernel
theorem zl_13_6 : za_ft 13 6 = .int ∧ za_fi 13 6 = false := by decide +kernel
theorem zl_14_0 : za_ft 14 0 = .int ∧ za_fi 14 0 = false := by decide +kernel
theorem zl_14_1 : za_ft 14 1 = .object "SortPacksModel$Broken" ∧ za_fi 14 1 = true := by decide +kernel
theorem zl_14_2 : za_ft 14 2 = .int ∧ za_fi 14 2 = true := by decide +kernel
theorem zl_14_3 : za_ft 14 3 = .array .byte ∧ za_fi 14 3 = true := by decide +kernel
theorem zl_14_4 : za_ft 14 4 = .int ∧ za_fi 14 4 = false := by decide +kernel
theorem zl_14_5 : za_ft 14 5 = .array .byte ∧ za_fi 14 5 = true := by decide +kernel
theorem zl_14_6 : za_ft 14 6 = .int ∧ za_fi 14 6 = false := by decide +kernel
theorem zl_14_7 : za_ft 14 7 = .array .byte ∧ za_fi 14 7 = true := by decide +kernel
theorem zl_14_8 : za_ft 14 8 = .int ∧ za_fi 14 8 = false := by decide +kernel
theorem zl_14_9 : za_ft 14 9 = .int ∧ za_fi 14 9 = false := by decide +kernel
theorem zl_14_10 : za_ft 14 10 = .int ∧ za_fi 14 10 = false := by decide +kernel
theorem zl_14_11 : za_ft 14 11 = .array .int ∧ za_fi 14 11 = true := by decide +kernel
theorem zl_14_12 : za_ft 14 12 = .array .int ∧ za_fi 14 12 = true := by decide +kernel
theorem zl_14_13 : za_ft 14 13 = .array .int ∧ za_fi 14 13 = true := by decide +kernel
theorem zl_14_14 : za_ft 14 14 = .int ∧ za_fi 14 14 = false := by decide +kernel
theorem zl_14_15 : za_ft 14 15 = .array .int ∧ za_fi 14 15 = true := by decide +kernel
theorem zl_14_16 : za_ft 14 16 = .int ∧ za_fi 14 16 = false := by decide +kernel
theorem zl_14_17 : za_ft 14 17 = .int ∧ za_fi 14 17 = false := by decide +kernel
theorem zl_14_18 : za_ft 14 18 = .int ∧ za_fi 14 18 = false := by decide +kernel
theorem zl_14_19 : za_ft 14 19 = .boolean ∧ za_fi 14 19 = false := by decide +kernel
theorem zl_14_20 : za_ft 14 20 = .array .byte ∧ za_fi 14 20 = true := by decide +kernel
theorem zl_14_21 : za_ft 14 21 = .int ∧ za_fi 14 21 = false := by decide +kernel
theorem zl_14_22 : za_ft 14 22 = .array .int ∧ za_fi 14 22 = true := by decide +kernel
theorem zl_14_23 : za_ft 14 23 = .array .int ∧ za_fi 14 23 = true := by decide +kernel
theorem zl_14_24 : za_ft 14 24 = .array .int ∧ za_fi 14 24 = true := by decide +kernel
theorem zl_14_25 : za_ft 14 25 = .int ∧ za_fi 14 25 = false := by decide +kernel
theorem zl_14_26 : za_ft 14 26 = .array .int ∧ za_fi 14 26 = true := by decide +kernel
theorem zl_14_27 : za_ft 14 27 = .array .boolean ∧ za_fi 14 27 = true := by decide +kernel
theorem zl_14_28 : za_ft 14 28 = .int ∧ za_fi 14 28 = false := by decide +kernel
theorem zl_14_29 : za_ft 14 29 = .array .int ∧ za_fi 14 29 = true := by decide +kernel
theorem zl_14_30 : za_ft 14 30 = .array .int ∧ za_fi 14 30 = true := by decide +kernel
theorem zl_14_31 : za_ft 14 31 = .array .int ∧ za_fi 14 31 = true := by decide +kernel
theorem zl_14_32 : za_ft 14 32 = .array .int ∧ za_fi 14 32 = true := by decide +kernel
theorem zl_14_33 : za_ft 14 33 = .int ∧ za_fi 14 33 = false := by decide +kernel
theorem zl_14_34 : za_ft 14 34 = .int ∧ za_fi 14 34 = false := by decide +kernel
theorem zl_14_35 : za_ft 14 35 = .array .long ∧ za_fi 14 35 = true := by decide +kernel
theorem zl_14_36 : za_ft 14 36 = .array .int ∧ za_fi 14 36 = true := by decide +kernel
theorem zl_14_37 : za_ft 14 37 = .array .long ∧ za_fi 14 37 = true := by decide +kernel
theorem zl_14_38 : za_ft 14 38 = .array .int ∧ za_fi 14 38 = true := by decide +kernel
theorem zl_14_39 : za_ft 14 39 = .array .int ∧ za_fi 14 39 = true := by decide +kernel
theorem zl_14_40 : za_ft 14 40 = .array .int ∧ za_fi 14 40 = true := by decide +kernel
theorem zl_14_41 : za_ft 14 41 = .array .int ∧ za_fi 14 41 = true := by decide +kernel
theorem zl_14_42 : za_ft 14 42 = .int ∧ za_fi 14 42 = false := by decide +kernel
theorem zl_14_43 : za_ft 14 43 = .array .int ∧ za_fi 14 43 = true := by decide +kernel
theorem zl_14_44 : za_ft 14 44 = .array .byte ∧ za_fi 14 44 = true := by decide +kernel
theorem zl_14_45 : za_ft 14 45 = .array .byte ∧ za_fi 14 45 = true := by decide +kernel
theorem zl_14_46 : za_ft 14 46 = .int ∧ za_fi 14 46 = false := by decide +kernel
theorem zc_1_3 : za_cl 1 3 = some (6, 0) := by decide +kernel
theorem zc_1_28 : za_cl 1 28 = some (0, 2) := by decide +kernel
theorem zc_2_1 : za_cl 2 1 = some (6, 0) := by decide +kernel
theorem zc_2_13 : za_cl 2 13 = some (0, 77) := by decide +kernel
theorem zc_2_26 : za_cl 2 26 = some (0, 74) := by decide +kernel
theorem zc_2_29 : za_cl 2 29 = some (0, 7) := by decide +kernel
theorem zc_3_3 : za_cl 3 3 = some (6, 0) := by decide +kernel
theorem zc_3_27 : za_cl 3 27 = some (0, 2) := by decide +kernel
theorem zc_4_3 : za_cl 4 3 = some (6, 0) := by decide +kernel
theorem zc_4_30 : za_cl 4 30 = some (0, 17) := by decide +kernel
theorem zc_5_1 : za_cl 5 1 = some (6, 0) := by decide +kernel
theorem zc_5_7 : za_cl 5 7 = some (7, 0) := by decide +kernel
theorem zc_5_23 : za_cl 5 23 = some (0, 22) := by decide +kernel
theorem zc_5_26 : za_cl 5 26 = some (0, 23) := by decide +kernel
theorem zc_5_30 : za_cl 5 30 = some (9, 0) := by decide +kernel
theorem zc_5_36 : za_cl 5 36 = some (0, 26) := by decide +kernel
theorem zc_6_3 : za_cl 6 3 = some (6, 0) := by decide +kernel
theorem zc_6_11 : za_cl 6 11 = some (4, 21) := by decide +kernel
theorem zc_6_50 : za_cl 6 50 = some (4, 0) := by decide +kernel
theorem zc_6_57 : za_cl 6 57 = some (5, 12) := by decide +kernel
theorem zc_6_58 : za_cl 6 58 = some (0, 4) := by decide +kernel
theorem zc_6_62 : za_cl 6 62 = some (0, 32) := by decide +kernel
theorem zc_6_65 : za_cl 6 65 = some (0, 91) := by decide +kernel
theorem zc_6_70 : za_cl 6 70 = some (0, 34) := by decide +kernel
theorem zc_6_74 : za_cl 6 74 = some (0, 1) := by decide +kernel
theorem zc_6_78 : za_cl 6 78 = some (0, 38) := by decide +kernel
theorem zc_6_81 : za_cl 6 81 = some (0, 97) := by decide +kernel
theorem zc_6_91 : za_cl 6 91 = some (0, 77) := by decide +kernel
theorem zc_6_96 : za_cl 6 96 = some (0, 35) := by decide +kernel
theorem zc_6_99 : za_cl 6 99 = some (0, 3) := by decide +kernel
theorem zc_6_105 : za_cl 6 105 = some (0, 33) := by decide +kernel
theorem zc_6_110 : za_cl 6 110 = some (0, 37) := by decide +kernel
theorem zc_6_115 : za_cl 6 115 = some (0, 95) := by decide +kernel
theorem zc_6_125 : za_cl 6 125 = some (3, 127) := by decide +kernel
theorem zc_6_129 : za_cl 6 129 = some (0, 96) := by decide +kernel
theorem zc_6_132 : za_cl 6 132 = some (2, 36) := by decide +kernel
theorem zc_6_138 : za_cl 6 138 = some (0, 2) := by decide +kernel
theorem zc_6_145 : za_cl 6 145 = some (0, 39) := by decide +kernel
theorem zc_6_148 : za_cl 6 148 = some (0, 40) := by decide +kernel
theorem zc_6_151 : za_cl 6 151 = some (0, 41) := by decide +kernel
theorem zc_6_155 : za_cl 6 155 = some (0, 43) := by decide +kernel
theorem zc_6_158 : za_cl 6 158 = some (0, 46) := by decide +kernel
theorem zc_6_162 : za_cl 6 162 = some (0, 48) := by decide +kernel
theorem zc_6_165 : za_cl 6 165 = some (0, 49) := by decide +kernel
theorem zc_6_171 : za_cl 6 171 = some (0, 22) := by decide +kernel
theorem zc_6_174 : za_cl 6 174 = some (0, 23) := by decide +kernel
theorem zc_6_191 : za_cl 6 191 = some (0, 24) := by decide +kernel
theorem zc_6_192 : za_cl 6 192 = some (0, 42) := by decide +kernel
theorem zc_6_195 : za_cl 6 195 = some (0, 26) := by decide +kernel
theorem zc_6_199 : za_cl 6 199 = some (0, 20) := by decide +kernel
theorem zc_6_202 : za_cl 6 202 = some (2, 45) := by decide +kernel
theorem zc_6_205 : za_cl 6 205 = some (0, 44) := by decide +kernel
theorem zc_6_212 : za_cl 6 212 = some (0, 13) := by decide +kernel
theorem zc_6_217 : za_cl 6 217 = some (0, 19) := by decide +kernel
theorem zc_6_220 : za_cl 6 220 = some (0, 14) := by decide +kernel
theorem zc_6_224 : za_cl 6 224 = some (0, 25) := by decide +kernel
theorem zc_6_227 : za_cl 6 227 = some (0, 47) := by decide +kernel
theorem zc_6_231 : za_cl 6 231 = some (0, 106) := by decide +kernel
theorem zc_6_237 : za_cl 6 237 = some (0, 50) := by decide +kernel
theorem zc_6_241 : za_cl 6 241 = some (0, 51) := by decide +kernel
theorem zc_6_244 : za_cl 6 244 = some (0, 74) := by decide +kernel
theorem zc_6_245 : za_cl 6 245 = some (3, 126) := by decide +kernel
theorem zc_7_3 : za_cl 7 3 = some (6, 0) := by decide +kernel
theorem zc_7_11 : za_cl 7 11 = some (4, 21) := by decide +kernel
theorem zc_7_25 : za_cl 7 25 = some (5, 79) := by decide +kernel
theorem zc_7_57 : za_cl 7 57 = some (4, 5) := by decide +kernel
theorem zc_7_64 : za_cl 7 64 = some (5, 12) := by decide +kernel
theorem zc_7_65 : za_cl 7 65 = some (0, 91) := by decide +kernel
theorem zc_7_70 : za_cl 7 70 = some (0, 6) := by decide +kernel
theorem zc_7_75 : za_cl 7 75 = some (0, 8) := by decide +kernel
theorem zc_7_89 : za_cl 7 89 = some (0, 55) := by decide +kernel
theorem zc_7_93 : za_cl 7 93 = some (2, 54) := by decide +kernel
theorem zc_7_96 : za_cl 7 96 = some (0, 57) := by decide +kernel
theorem zc_7_103 : za_cl 7 103 = some (3, 127) := by decide +kernel
theorem zc_7_111 : za_cl 7 111 = some (0, 10) := by decide +kernel
theorem zc_7_114 : za_cl 7 114 = some (0, 11) := by decide +kernel
theorem zc_7_118 : za_cl 7 118 = some (0, 72) := by decide +kernel
theorem zc_7_122 : za_cl 7 122 = some (3, 126) := by decide +kernel
theorem zc_7_126 : za_cl 7 126 = some (2, 56) := by decide +kernel
theorem zc_7_130 : za_cl 7 130 = some (0, 99) := by decide +kernel
theorem zc_7_136 : za_cl 7 136 = some (0, 59) := by decide +kernel
theorem zc_7_139 : za_cl 7 139 = some (0, 60) := by decide +kernel
theorem zc_7_155 : za_cl 7 155 = some (0, 80) := by decide +kernel
theorem zc_7_159 : za_cl 7 159 = some (0, 58) := by decide +kernel
theorem zc_7_163 : za_cl 7 163 = some (0, 63) := by decide +kernel
theorem zc_7_166 : za_cl 7 166 = some (0, 64) := by decide +kernel
theorem zc_7_169 : za_cl 7 169 = some (0, 66) := by decide +kernel
theorem zc_7_173 : za_cl 7 173 = some (0, 67) := by decide +kernel
theorem zc_7_176 : za_cl 7 176 = some (0, 68) := by decide +kernel
theorem zc_7_179 : za_cl 7 179 = some (0, 96) := by decide +kernel
theorem zc_7_182 : za_cl 7 182 = some (0, 97) := by decide +kernel
theorem zc_7_188 : za_cl 7 188 = some (0, 95) := by decide +kernel
theorem zc_7_191 : za_cl 7 191 = some (0, 105) := by decide +kernel
theorem zc_7_200 : za_cl 7 200 = some (2, 185) := by decide +kernel
theorem zc_7_206 : za_cl 7 206 = some (0, 22) := by decide +kernel
theorem zc_7_209 : za_cl 7 209 = some (0, 23) := by decide +kernel
theorem zc_7_212 : za_cl 7 212 = some (0, 104) := by decide +kernel
theorem zc_7_216 : za_cl 7 216 = some (0, 27) := by decide +kernel
theorem zc_7_219 : za_cl 7 219 = some (0, 61) := by decide +kernel
theorem zc_7_222 : za_cl 7 222 = some (0, 62) := by decide +kernel
theorem zc_7_227 : za_cl 7 227 = some (0, 7) := by decide +kernel
theorem zc_7_230 : za_cl 7 230 = some (0, 65) := by decide +kernel
theorem zc_7_233 : za_cl 7 233 = some (0, 24) := by decide +kernel
theorem zc_7_235 : za_cl 7 235 = some (0, 19) := by decide +kernel
theorem zc_7_238 : za_cl 7 238 = some (0, 9) := by decide +kernel
theorem zc_7_249 : za_cl 7 249 = some (0, 13) := by decide +kernel
theorem zc_8_1 : za_cl 8 1 = some (6, 0) := by decide +kernel
theorem zc_8_7 : za_cl 8 7 = some (7, 0) := by decide +kernel
theorem zc_8_23 : za_cl 8 23 = some (0, 71) := by decide +kernel
theorem zc_8_27 : za_cl 8 27 = some (0, 74) := by decide +kernel
theorem zc_8_31 : za_cl 8 31 = some (8, 0) := by decide +kernel
theorem zc_8_34 : za_cl 8 34 = some (9, 0) := by decide +kernel
theorem zc_9_3 : za_cl 9 3 = some (6, 0) := by decide +kernel
theorem zc_9_32 : za_cl 9 32 = some (2, 81) := by decide +kernel
theorem zc_9_45 : za_cl 9 45 = some (0, 82) := by decide +kernel
theorem zc_9_49 : za_cl 9 49 = some (0, 83) := by decide +kernel
theorem zc_9_58 : za_cl 9 58 = some (0, 85) := by decide +kernel
theorem zc_9_62 : za_cl 9 62 = some (2, 185) := by decide +kernel
theorem zc_9_68 : za_cl 9 68 = some (8, 0) := by decide +kernel
theorem zc_9_74 : za_cl 9 74 = some (2, 84) := by decide +kernel
theorem zc_9_78 : za_cl 9 78 = some (0, 20) := by decide +kernel
theorem zc_9_82 : za_cl 9 82 = some (7, 0) := by decide +kernel
theorem zc_9_85 : za_cl 9 85 = some (0, 86) := by decide +kernel
theorem zc_9_89 : za_cl 9 89 = some (0, 89) := by decide +kernel
theorem zc_9_93 : za_cl 9 93 = some (0, 87) := by decide +kernel
theorem zc_9_105 : za_cl 9 105 = some (0, 88) := by decide +kernel
theorem zc_10_3 : za_cl 10 3 = some (6, 0) := by decide +kernel
theorem zc_10_23 : za_cl 10 23 = some (5, 15) := by decide +kernel
theorem zc_10_35 : za_cl 10 35 = some (0, 16) := by decide +kernel
theorem zc_10_38 : za_cl 10 38 = some (0, 92) := by decide +kernel
theorem zc_10_42 : za_cl 10 42 = some (9, 0) := by decide +kernel
theorem zc_11_3 : za_cl 11 3 = some (6, 0) := by decide +kernel
theorem zc_11_24 : za_cl 11 24 = some (0, 100) := by decide +kernel
theorem zc_11_28 : za_cl 11 28 = some (0, 101) := by decide +kernel
theorem zc_11_31 : za_cl 11 31 = some (0, 102) := by decide +kernel
theorem zc_11_35 : za_cl 11 35 = some (2, 185) := by decide +kernel
theorem zc_11_41 : za_cl 11 41 = some (0, 103) := by decide +kernel
theorem zc_11_45 : za_cl 11 45 = some (9, 0) := by decide +kernel
theorem zc_12_3 : za_cl 12 3 = some (6, 0) := by decide +kernel
theorem zc_12_9 : za_cl 12 9 = some (8, 0) := by decide +kernel
theorem zc_12_15 : za_cl 12 15 = some (7, 0) := by decide +kernel
theorem zc_12_24 : za_cl 12 24 = some (4, 69) := by decide +kernel
theorem zc_12_39 : za_cl 12 39 = some (5, 90) := by decide +kernel
theorem zc_12_46 : za_cl 12 46 = some (5, 98) := by decide +kernel
theorem zc_12_49 : za_cl 12 49 = some (4, 52) := by decide +kernel
theorem zc_12_58 : za_cl 12 58 = some (4, 28) := by decide +kernel
theorem zc_12_65 : za_cl 12 65 = some (0, 70) := by decide +kernel
theorem zc_12_69 : za_cl 12 69 = some (0, 75) := by decide +kernel
theorem zc_12_75 : za_cl 12 75 = some (0, 77) := by decide +kernel
theorem zc_12_78 : za_cl 12 78 = some (0, 74) := by decide +kernel
theorem zc_12_81 : za_cl 12 81 = some (0, 53) := by decide +kernel
theorem zc_12_85 : za_cl 12 85 = some (0, 91) := by decide +kernel
theorem zc_12_88 : za_cl 12 88 = some (0, 76) := by decide +kernel
theorem zc_12_92 : za_cl 12 92 = some (0, 30) := by decide +kernel
theorem zc_12_96 : za_cl 12 96 = some (0, 29) := by decide +kernel
theorem zc_12_103 : za_cl 12 103 = some (0, 71) := by decide +kernel
theorem zc_12_106 : za_cl 12 106 = some (0, 72) := by decide +kernel
theorem zc_12_110 : za_cl 12 110 = some (0, 73) := by decide +kernel
theorem zc_12_114 : za_cl 12 114 = some (0, 78) := by decide +kernel
theorem zc_12_127 : za_cl 12 127 = some (0, 93) := by decide +kernel
theorem zc_12_130 : za_cl 12 130 = some (0, 94) := by decide +kernel
theorem zc_12_137 : za_cl 12 137 = some (0, 17) := by decide +kernel
theorem zc_12_142 : za_cl 12 142 = some (0, 19) := by decide +kernel
theorem zc_12_145 : za_cl 12 145 = some (0, 18) := by decide +kernel
theorem zc_12_153 : za_cl 12 153 = some (0, 125) := by decide +kernel
theorem zc_12_156 : za_cl 12 156 = some (0, 31) := by decide +kernel
theorem zc_13_1 : za_cl 13 1 = some (10, 0) := by decide +kernel
theorem zc_14_7 : za_cl 14 7 = some (6, 0) := by decide +kernel
theorem zc_14_15 : za_cl 14 15 = some (4, 128) := by decide +kernel
theorem zc_14_114 : za_cl 14 114 = some (2, 130) := by decide +kernel
theorem zc_14_134 : za_cl 14 134 = some (0, 142) := by decide +kernel
theorem zc_14_157 : za_cl 14 157 = some (0, 150) := by decide +kernel
theorem zc_14_164 : za_cl 14 164 = some (0, 152) := by decide +kernel
theorem zc_14_168 : za_cl 14 168 = some (0, 155) := by decide +kernel
theorem zc_14_177 : za_cl 14 177 = some (0, 156) := by decide +kernel
theorem zc_14_180 : za_cl 14 180 = some (0, 157) := by decide +kernel
theorem zc_14_183 : za_cl 14 183 = some (0, 160) := by decide +kernel
theorem zc_14_192 : za_cl 14 192 = some (0, 161) := by decide +kernel
theorem zc_14_198 : za_cl 14 198 = some (0, 159) := by decide +kernel
theorem zc_14_202 : za_cl 14 202 = some (0, 151) := by decide +kernel
theorem zc_14_208 : za_cl 14 208 = some (2, 148) := by decide +kernel
theorem zc_14_212 : za_cl 14 212 = some (0, 153) := by decide +kernel
theorem zc_14_215 : za_cl 14 215 = some (0, 154) := by decide +kernel
theorem zc_14_218 : za_cl 14 218 = some (0, 158) := by decide +kernel
theorem zc_14_221 : za_cl 14 221 = some (0, 162) := by decide +kernel
theorem zc_14_228 : za_cl 14 228 = some (0, 164) := by decide +kernel
theorem zc_14_231 : za_cl 14 231 = some (0, 165) := by decide +kernel
theorem zc_14_234 : za_cl 14 234 = some (0, 163) := by decide +kernel
theorem zc_14_237 : za_cl 14 237 = some (0, 166) := by decide +kernel
theorem zc_14_240 : za_cl 14 240 = some (0, 141) := by decide +kernel
theorem zc_14_244 : za_cl 14 244 = some (0, 145) := by decide +kernel
theorem zc_14_254 : za_cl 14 254 = some (0, 167) := by decide +kernel
theorem zc_14_257 : za_cl 14 257 = some (2, 149) := by decide +kernel
theorem zc_14_268 : za_cl 14 268 = some (0, 169) := by decide +kernel
theorem zc_14_271 : za_cl 14 271 = some (0, 170) := by decide +kernel
theorem zc_14_274 : za_cl 14 274 = some (0, 171) := by decide +kernel
theorem zc_14_280 : za_cl 14 280 = some (0, 175) := by decide +kernel
theorem zc_14_283 : za_cl 14 283 = some (0, 176) := by decide +kernel
theorem zc_14_286 : za_cl 14 286 = some (0, 177) := by decide +kernel
theorem zc_14_289 : za_cl 14 289 = some (0, 172) := by decide +kernel
theorem zc_14_292 : za_cl 14 292 = some (0, 173) := by decide +kernel
theorem zc_14_295 : za_cl 14 295 = some (0, 174) := by decide +kernel
theorem zc_14_298 : za_cl 14 298 = some (0, 178) := by decide +kernel
theorem zc_14_301 : za_cl 14 301 = some (0, 179) := by decide +kernel
theorem zc_14_304 : za_cl 14 304 = some (0, 180) := by decide +kernel
theorem zc_14_313 : za_cl 14 313 = some (0, 181) := by decide +kernel
theorem zc_14_317 : za_cl 14 317 = some (0, 182) := by decide +kernel
theorem zc_14_322 : za_cl 14 322 = some (0, 183) := by decide +kernel
theorem zc_15_7 : za_cl 15 7 = some (0, 117) := by decide +kernel
theorem ze_3_2 : za_rm 3 2 = true := by decide +kernel
theorem ze_6_77 : za_rm 6 77 = true := by decide +kernel
theorem ze_7_74 : za_rm 7 74 = true := by decide +kernel
theorem ze_8_7 : za_rm 8 7 = true := by decide +kernel
theorem ze_9_7 : za_rm 9 7 = true := by decide +kernel
theorem ze_10_7 : za_rm 10 7 = true := by decide +kernel
theorem ze_14_2 : za_rm 14 2 = true := by decide +kernel
theorem ze_19_17 : za_rm 19 17 = true := by decide +kernel
theorem ze_24_22 : za_rm 24 22 = true := by decide +kernel
theorem ze_24_23 : za_rm 24 23 = true := by decide +kernel
theorem ze_27_26 : za_rm 27 26 = true := by decide +kernel
theorem ze_28_0 : za_rm 28 0 = true := by decide +kernel
theorem ze_28_12 : za_rm 28 12 = true := by decide +kernel
theorem ze_28_21 : za_rm 28 21 = true := by decide +kernel
theorem ze_29_4 : za_rm 29 4 = true := by decide +kernel
theorem ze_30_1 : za_rm 30 1 = true := by decide +kernel
theorem ze_30_32 : za_rm 30 32 = true := by decide +kernel
theorem ze_30_34 : za_rm 30 34 = true := by decide +kernel
theorem ze_30_91 : za_rm 30 91 = true := by decide +kernel
theorem ze_31_32 : za_rm 31 32 = true := by decide +kernel
theorem ze_31_38 : za_rm 31 38 = true := by decide +kernel
theorem ze_31_97 : za_rm 31 97 = true := by decide +kernel
theorem ze_32_77 : za_rm 32 77 = true := by decide +kernel
theorem ze_34_3 : za_rm 34 3 = true := by decide +kernel
theorem ze_34_33 : za_rm 34 33 = true := by decide +kernel
theorem ze_34_35 : za_rm 34 35 = true := by decide +kernel
theorem ze_34_37 : za_rm 34 37 = true := by decide +kernel
theorem ze_34_38 : za_rm 34 38 = true := by decide +kernel
theorem ze_34_95 : za_rm 34 95 = true := by decide +kernel
theorem ze_34_96 : za_rm 34 96 = true := by decide +kernel
theorem ze_34_97 : za_rm 34 97 = true := by decide +kernel
theorem ze_34_127 : za_rm 34 127 = true := by decide +kernel
theorem ze_35_3 : za_rm 35 3 = true := by decide +kernel
theorem ze_35_33 : za_rm 35 33 = true := by decide +kernel
theorem ze_35_36 : za_rm 35 36 = true := by decide +kernel
theorem ze_37_2 : za_rm 37 2 = true := by decide +kernel
theorem ze_37_3 : za_rm 37 3 = true := by decide +kernel
theorem ze_37_33 : za_rm 37 33 = true := by decide +kernel
theorem ze_38_39 : za_rm 38 39 = true := by decide +kernel
theorem ze_38_40 : za_rm 38 40 = true := by decide +kernel
theorem ze_38_41 : za_rm 38 41 = true := by decide +kernel
theorem ze_38_43 : za_rm 38 43 = true := by decide +kernel
theorem ze_38_46 : za_rm 38 46 = true := by decide +kernel
theorem ze_38_48 : za_rm 38 48 = true := by decide +kernel
theorem ze_38_49 : za_rm 38 49 = true := by decide +kernel
theorem ze_39_2 : za_rm 39 2 = true := by decide +kernel
theorem ze_39_3 : za_rm 39 3 = true := by decide +kernel
theorem ze_39_33 : za_rm 39 33 = true := by decide +kernel
theorem ze_39_95 : za_rm 39 95 = true := by decide +kernel
theorem ze_40_3 : za_rm 40 3 = true := by decide +kernel
theorem ze_40_22 : za_rm 40 22 = true := by decide +kernel
theorem ze_40_23 : za_rm 40 23 = true := by decide +kernel
theorem ze_40_33 : za_rm 40 33 = true := by decide +kernel
theorem ze_40_95 : za_rm 40 95 = true := by decide +kernel
theorem ze_41_3 : za_rm 41 3 = true := by decide +kernel
theorem ze_41_24 : za_rm 41 24 = true := by decide +kernel
theorem ze_41_33 : za_rm 41 33 = true := by decide +kernel
theorem ze_41_42 : za_rm 41 42 = true := by decide +kernel
theorem ze_41_95 : za_rm 41 95 = true := by decide +kernel
theorem ze_42_2 : za_rm 42 2 = true := by decide +kernel
theorem ze_42_20 : za_rm 42 20 = true := by decide +kernel
theorem ze_42_26 : za_rm 42 26 = true := by decide +kernel
theorem ze_42_33 : za_rm 42 33 = true := by decide +kernel
theorem ze_43_3 : za_rm 43 3 = true := by decide +kernel
theorem ze_43_13 : za_rm 43 13 = true := by decide +kernel
theorem ze_43_33 : za_rm 43 33 = true := by decide +kernel
theorem ze_43_44 : za_rm 43 44 = true := by decide +kernel
theorem ze_43_45 : za_rm 43 45 = true := by decide +kernel
theorem ze_44_2 : za_rm 44 2 = true := by decide +kernel
theorem ze_44_33 : za_rm 44 33 = true := by decide +kernel
theorem ze_44_45 : za_rm 44 45 = true := by decide +kernel
theorem ze_46_14 : za_rm 46 14 = true := by decide +kernel
theorem ze_46_19 : za_rm 46 19 = true := by decide +kernel
theorem ze_46_25 : za_rm 46 25 = true := by decide +kernel
theorem ze_46_26 : za_rm 46 26 = true := by decide +kernel
theorem ze_46_33 : za_rm 46 33 = true := by decide +kernel
theorem ze_46_47 : za_rm 46 47 = true := by decide +kernel
theorem ze_46_95 : za_rm 46 95 = true := by decide +kernel
theorem ze_48_33 : za_rm 48 33 = true := by decide +kernel
theorem ze_48_95 : za_rm 48 95 = true := by decide +kernel
theorem ze_48_106 : za_rm 48 106 = true := by decide +kernel
theorem ze_49_33 : za_rm 49 33 = true := by decide +kernel
theorem ze_49_50 : za_rm 49 50 = true := by decide +kernel
theorem ze_49_51 : za_rm 49 51 = true := by decide +kernel
theorem ze_49_77 : za_rm 49 77 = true := by decide +kernel
theorem ze_49_95 : za_rm 49 95 = true := by decide +kernel
theorem ze_51_74 : za_rm 51 74 = true := by decide +kernel
theorem ze_51_126 : za_rm 51 126 = true := by decide +kernel
theorem ze_52_5 : za_rm 52 5 = true := by decide +kernel
theorem ze_52_12 : za_rm 52 12 = true := by decide +kernel
theorem ze_52_21 : za_rm 52 21 = true := by decide +kernel
theorem ze_52_79 : za_rm 52 79 = true := by decide +kernel
theorem ze_53_6 : za_rm 53 6 = true := by decide +kernel
theorem ze_53_8 : za_rm 53 8 = true := by decide +kernel
theorem ze_53_10 : za_rm 53 10 = true := by decide +kernel
theorem ze_53_11 : za_rm 53 11 = true := by decide +kernel
theorem ze_53_54 : za_rm 53 54 = true := by decide +kernel
theorem ze_53_55 : za_rm 53 55 = true := by decide +kernel
theorem ze_53_57 : za_rm 53 57 = true := by decide +kernel
theorem ze_53_91 : za_rm 53 91 = true := by decide +kernel
theorem ze_53_127 : za_rm 53 127 = true := by decide +kernel
theorem ze_54_72 : za_rm 54 72 = true := by decide +kernel
theorem ze_54_126 : za_rm 54 126 = true := by decide +kernel
theorem ze_55_56 : za_rm 55 56 = true := by decide +kernel
theorem ze_55_72 : za_rm 55 72 = true := by decide +kernel
theorem ze_56_72 : za_rm 56 72 = true := by decide +kernel
theorem ze_57_58 : za_rm 57 58 = true := by decide +kernel
theorem ze_57_59 : za_rm 57 59 = true := by decide +kernel
theorem ze_57_60 : za_rm 57 60 = true := by decide +kernel
theorem ze_57_63 : za_rm 57 63 = true := by decide +kernel
theorem ze_57_64 : za_rm 57 64 = true := by decide +kernel
theorem ze_57_66 : za_rm 57 66 = true := by decide +kernel
theorem ze_57_67 : za_rm 57 67 = true := by decide +kernel
theorem ze_57_68 : za_rm 57 68 = true := by decide +kernel
theorem ze_57_80 : za_rm 57 80 = true := by decide +kernel
theorem ze_57_96 : za_rm 57 96 = true := by decide +kernel
theorem ze_57_97 : za_rm 57 97 = true := by decide +kernel
theorem ze_57_99 : za_rm 57 99 = true := by decide +kernel
theorem ze_58_95 : za_rm 58 95 = true := by decide +kernel
theorem ze_58_105 : za_rm 58 105 = true := by decide +kernel
theorem ze_59_22 : za_rm 59 22 = true := by decide +kernel
theorem ze_59_23 : za_rm 59 23 = true := by decide +kernel
theorem ze_59_185 : za_rm 59 185 = true := by decide +kernel
theorem ze_60_27 : za_rm 60 27 = true := by decide +kernel
theorem ze_60_61 : za_rm 60 61 = true := by decide +kernel
theorem ze_60_62 : za_rm 60 62 = true := by decide +kernel
theorem ze_60_104 : za_rm 60 104 = true := by decide +kernel
theorem ze_61_62 : za_rm 61 62 = true := by decide +kernel
theorem ze_63_7 : za_rm 63 7 = true := by decide +kernel
theorem ze_63_8 : za_rm 63 8 = true := by decide +kernel
theorem ze_63_105 : za_rm 63 105 = true := by decide +kernel
theorem ze_64_7 : za_rm 64 7 = true := by decide +kernel
theorem ze_64_8 : za_rm 64 8 = true := by decide +kernel
theorem ze_64_65 : za_rm 64 65 = true := by decide +kernel
theorem ze_66_7 : za_rm 66 7 = true := by decide +kernel
theorem ze_66_8 : za_rm 66 8 = true := by decide +kernel
theorem ze_66_9 : za_rm 66 9 = true := by decide +kernel
theorem ze_66_19 : za_rm 66 19 = true := by decide +kernel
theorem ze_66_24 : za_rm 66 24 = true := by decide +kernel
theorem ze_66_27 : za_rm 66 27 = true := by decide +kernel
theorem ze_67_7 : za_rm 67 7 = true := by decide +kernel
theorem ze_67_8 : za_rm 67 8 = true := by decide +kernel
theorem ze_68_8 : za_rm 68 8 = true := by decide +kernel
theorem ze_68_13 : za_rm 68 13 = true := by decide +kernel
theorem ze_68_19 : za_rm 68 19 = true := by decide +kernel
theorem ze_72_71 : za_rm 72 71 = true := by decide +kernel
theorem ze_73_71 : za_rm 73 71 = true := by decide +kernel
theorem ze_75_74 : za_rm 75 74 = true := by decide +kernel
theorem ze_80_81 : za_rm 80 81 = true := by decide +kernel
theorem ze_80_82 : za_rm 80 82 = true := by decide +kernel
theorem ze_80_83 : za_rm 80 83 = true := by decide +kernel
theorem ze_80_85 : za_rm 80 85 = true := by decide +kernel
theorem ze_82_185 : za_rm 82 185 = true := by decide +kernel
theorem ze_83_20 : za_rm 83 20 = true := by decide +kernel
theorem ze_83_84 : za_rm 83 84 = true := by decide +kernel
theorem ze_83_185 : za_rm 83 185 = true := by decide +kernel
theorem ze_85_86 : za_rm 85 86 = true := by decide +kernel
theorem ze_85_89 : za_rm 85 89 = true := by decide +kernel
theorem ze_86_87 : za_rm 86 87 = true := by decide +kernel
theorem ze_86_88 : za_rm 86 88 = true := by decide +kernel
theorem ze_90_15 : za_rm 90 15 = true := by decide +kernel
theorem ze_91_16 : za_rm 91 16 = true := by decide +kernel
theorem ze_93_92 : za_rm 93 92 = true := by decide +kernel
theorem ze_94_92 : za_rm 94 92 = true := by decide +kernel
theorem ze_99_100 : za_rm 99 100 = true := by decide +kernel
theorem ze_99_101 : za_rm 99 101 = true := by decide +kernel
theorem ze_99_102 : za_rm 99 102 = true := by decide +kernel
theorem ze_100_101 : za_rm 100 101 = true := by decide +kernel
theorem ze_101_185 : za_rm 101 185 = true := by decide +kernel
theorem ze_102_103 : za_rm 102 103 = true := by decide +kernel
theorem ze_106_185 : za_rm 106 185 = true := by decide +kernel
theorem ze_107_28 : za_rm 107 28 = true := by decide +kernel
theorem ze_107_52 : za_rm 107 52 = true := by decide +kernel
theorem ze_107_69 : za_rm 107 69 = true := by decide +kernel
theorem ze_107_90 : za_rm 107 90 = true := by decide +kernel
theorem ze_107_98 : za_rm 107 98 = true := by decide +kernel
theorem ze_108_70 : za_rm 108 70 = true := by decide +kernel
theorem ze_108_75 : za_rm 108 75 = true := by decide +kernel
theorem ze_109_77 : za_rm 109 77 = true := by decide +kernel
theorem ze_110_70 : za_rm 110 70 = true := by decide +kernel
theorem ze_110_74 : za_rm 110 74 = true := by decide +kernel
theorem ze_111_53 : za_rm 111 53 = true := by decide +kernel
theorem ze_111_77 : za_rm 111 77 = true := by decide +kernel
theorem ze_111_91 : za_rm 111 91 = true := by decide +kernel
theorem ze_112_29 : za_rm 112 29 = true := by decide +kernel
theorem ze_112_30 : za_rm 112 30 = true := by decide +kernel
theorem ze_112_76 : za_rm 112 76 = true := by decide +kernel
theorem ze_112_77 : za_rm 112 77 = true := by decide +kernel
theorem ze_114_70 : za_rm 114 70 = true := by decide +kernel
theorem ze_114_76 : za_rm 114 76 = true := by decide +kernel
theorem ze_115_71 : za_rm 115 71 = true := by decide +kernel
theorem ze_115_72 : za_rm 115 72 = true := by decide +kernel
theorem ze_115_73 : za_rm 115 73 = true := by decide +kernel
theorem ze_116_78 : za_rm 116 78 = true := by decide +kernel
theorem ze_117_71 : za_rm 117 71 = true := by decide +kernel
theorem ze_117_72 : za_rm 117 72 = true := by decide +kernel
theorem ze_119_93 : za_rm 119 93 = true := by decide +kernel
theorem ze_120_94 : za_rm 120 94 = true := by decide +kernel
theorem ze_121_17 : za_rm 121 17 = true := by decide +kernel
theorem ze_121_19 : za_rm 121 19 = true := by decide +kernel
theorem ze_122_18 : za_rm 122 18 = true := by decide +kernel
theorem ze_123_125 : za_rm 123 125 = true := by decide +kernel
theorem ze_124_29 : za_rm 124 29 = true := by decide +kernel
theorem ze_124_31 : za_rm 124 31 = true := by decide +kernel
theorem ze_124_125 : za_rm 124 125 = true := by decide +kernel
theorem ze_125_72 : za_rm 125 72 = true := by decide +kernel
theorem ze_131_128 : za_rm 131 128 = true := by decide +kernel
theorem ze_133_130 : za_rm 133 130 = true := by decide +kernel
theorem ze_134_130 : za_rm 134 130 = true := by decide +kernel
theorem ze_137_130 : za_rm 137 130 = true := by decide +kernel
theorem ze_138_130 : za_rm 138 130 = true := by decide +kernel
theorem ze_139_130 : za_rm 139 130 = true := by decide +kernel
theorem ze_143_130 : za_rm 143 130 = true := by decide +kernel
theorem ze_143_142 : za_rm 143 142 = true := by decide +kernel
theorem ze_144_130 : za_rm 144 130 = true := by decide +kernel
theorem ze_144_142 : za_rm 144 142 = true := by decide +kernel
theorem ze_146_130 : za_rm 146 130 = true := by decide +kernel
theorem ze_147_130 : za_rm 147 130 = true := by decide +kernel
theorem ze_151_150 : za_rm 151 150 = true := by decide +kernel
theorem ze_153_152 : za_rm 153 152 = true := by decide +kernel
theorem ze_154_155 : za_rm 154 155 = true := by decide +kernel
theorem ze_157_156 : za_rm 157 156 = true := by decide +kernel
theorem ze_158_156 : za_rm 158 156 = true := by decide +kernel
theorem ze_158_157 : za_rm 158 157 = true := by decide +kernel
theorem ze_159_160 : za_rm 159 160 = true := by decide +kernel
theorem ze_162_159 : za_rm 162 159 = true := by decide +kernel
theorem ze_162_161 : za_rm 162 161 = true := by decide +kernel
theorem ze_164_150 : za_rm 164 150 = true := by decide +kernel
theorem ze_165_150 : za_rm 165 150 = true := by decide +kernel
theorem ze_166_150 : za_rm 166 150 = true := by decide +kernel
theorem ze_166_151 : za_rm 166 151 = true := by decide +kernel
theorem ze_167_141 : za_rm 167 141 = true := by decide +kernel
theorem ze_167_145 : za_rm 167 145 = true := by decide +kernel
theorem ze_167_148 : za_rm 167 148 = true := by decide +kernel
theorem ze_167_150 : za_rm 167 150 = true := by decide +kernel
theorem ze_167_151 : za_rm 167 151 = true := by decide +kernel
theorem ze_167_153 : za_rm 167 153 = true := by decide +kernel
theorem ze_167_154 : za_rm 167 154 = true := by decide +kernel
theorem ze_167_158 : za_rm 167 158 = true := by decide +kernel
theorem ze_167_162 : za_rm 167 162 = true := by decide +kernel
theorem ze_167_163 : za_rm 167 163 = true := by decide +kernel
theorem ze_167_164 : za_rm 167 164 = true := by decide +kernel
theorem ze_167_165 : za_rm 167 165 = true := by decide +kernel
theorem ze_167_166 : za_rm 167 166 = true := by decide +kernel
theorem ze_168_149 : za_rm 168 149 = true := by decide +kernel
theorem ze_168_151 : za_rm 168 151 = true := by decide +kernel
theorem ze_168_167 : za_rm 168 167 = true := by decide +kernel
theorem ze_170_169 : za_rm 170 169 = true := by decide +kernel
theorem ze_171_170 : za_rm 171 170 = true := by decide +kernel
theorem ze_172_155 : za_rm 172 155 = true := by decide +kernel
theorem ze_172_169 : za_rm 172 169 = true := by decide +kernel
theorem ze_172_170 : za_rm 172 170 = true := by decide +kernel
theorem ze_172_171 : za_rm 172 171 = true := by decide +kernel
theorem ze_173_130 : za_rm 173 130 = true := by decide +kernel
theorem ze_173_169 : za_rm 173 169 = true := by decide +kernel
theorem ze_173_170 : za_rm 173 170 = true := by decide +kernel
theorem ze_173_171 : za_rm 173 171 = true := by decide +kernel
theorem ze_174_170 : za_rm 174 170 = true := by decide +kernel
theorem ze_174_171 : za_rm 174 171 = true := by decide +kernel
theorem ze_174_175 : za_rm 174 175 = true := by decide +kernel
theorem ze_175_130 : za_rm 175 130 = true := by decide +kernel
theorem ze_175_169 : za_rm 175 169 = true := by decide +kernel
theorem ze_176_169 : za_rm 176 169 = true := by decide +kernel
theorem ze_176_170 : za_rm 176 170 = true := by decide +kernel
theorem ze_178_169 : za_rm 178 169 = true := by decide +kernel
theorem ze_178_176 : za_rm 178 176 = true := by decide +kernel
theorem ze_178_177 : za_rm 178 177 = true := by decide +kernel
theorem ze_181_141 : za_rm 181 141 = true := by decide +kernel
theorem ze_181_145 : za_rm 181 145 = true := by decide +kernel
theorem ze_181_148 : za_rm 181 148 = true := by decide +kernel
theorem ze_181_163 : za_rm 181 163 = true := by decide +kernel
theorem ze_181_169 : za_rm 181 169 = true := by decide +kernel
theorem ze_181_170 : za_rm 181 170 = true := by decide +kernel
theorem ze_181_171 : za_rm 181 171 = true := by decide +kernel
theorem ze_181_172 : za_rm 181 172 = true := by decide +kernel
theorem ze_181_173 : za_rm 181 173 = true := by decide +kernel
theorem ze_181_174 : za_rm 181 174 = true := by decide +kernel
theorem ze_181_178 : za_rm 181 178 = true := by decide +kernel
theorem ze_181_179 : za_rm 181 179 = true := by decide +kernel
theorem ze_181_180 : za_rm 181 180 = true := by decide +kernel
theorem ze_182_130 : za_rm 182 130 = true := by decide +kernel
theorem ze_182_149 : za_rm 182 149 = true := by decide +kernel
theorem ze_182_169 : za_rm 182 169 = true := by decide +kernel
theorem ze_182_170 : za_rm 182 170 = true := by decide +kernel
theorem ze_182_171 : za_rm 182 171 = true := by decide +kernel
theorem ze_182_181 : za_rm 182 181 = true := by decide +kernel
theorem ze_184_183 : za_rm 184 183 = true := by decide +kernel
theorem ze_187_182 : za_rm 187 182 = true := by decide +kernel
theorem ze_188_181 : za_rm 188 181 = true := by decide +kernel
theorem ze_188_183 : za_rm 188 183 = true := by decide +kernel
theorem ze_189_117 : za_rm 189 117 = true := by decide +kernel
theorem zi_12_163 : za_ki 12 163 = some (79764919) := by decide +kernel
theorem zi_14_37 : za_ki 14 37 = some (32768) := by decide +kernel
theorem zi_14_149 : za_ki 14 149 = some (79764919) := by decide +kernel
theorem zj_1_32 : za_kl 1 32 = some (-1) := by decide +kernel
theorem zj_6_103 : za_kl 6 103 = some (-1) := by decide +kernel
theorem zj_6_108 : za_kl 6 108 = some (25779555029136) := by decide +kernel
theorem zj_6_113 : za_kl 6 113 = some (54156738319193) := by decide +kernel
theorem zj_6_136 : za_kl 6 136 = some (4294967295) := by decide +kernel
theorem zj_7_73 : za_kl 7 73 = some (66) := by decide +kernel
theorem zj_7_79 : za_kl 7 79 = some (90) := by decide +kernel
theorem zj_7_81 : za_kl 7 81 = some (104) := by decide +kernel
theorem zj_7_107 : za_kl 7 107 = some (25779555029136) := by decide +kernel
theorem zj_7_109 : za_kl 7 109 = some (4294967295) := by decide +kernel
theorem zj_7_225 : za_kl 7 225 = some (54156738319193) := by decide +kernel
theorem zj_7_245 : za_kl 7 245 = some (2) := by decide +kernel
theorem zj_7_247 : za_kl 7 247 = some (3) := by decide +kernel
theorem zj_12_159 : za_kl 12 159 = some (281474976710655) := by decide +kernel
theorem zj_12_161 : za_kl 12 161 = some (54156738319193) := by decide +kernel
theorem zj_14_112 : za_kl 14 112 = some (20) := by decide +kernel
theorem zj_14_118 : za_kl 14 118 = some (400) := by decide +kernel
theorem zj_14_126 : za_kl 14 126 = some (255) := by decide +kernel
theorem zj_14_138 : za_kl 14 138 = some (8) := by decide +kernel
theorem zj_14_187 : za_kl 14 187 = some (2) := by decide +kernel
theorem zj_14_206 : za_kl 14 206 = some (3) := by decide +kernel
theorem zj_14_224 : za_kl 14 224 = some (54156738319193) := by decide +kernel
theorem zj_14_226 : za_kl 14 226 = some (4294967295) := by decide +kernel
theorem zj_14_248 : za_kl 14 248 = some (66) := by decide +kernel
theorem zj_14_250 : za_kl 14 250 = some (90) := by decide +kernel
theorem zj_14_252 : za_kl 14 252 = some (104) := by decide +kernel
theorem zj_14_260 : za_kl 14 260 = some (25779555029136) := by decide +kernel
theorem zj_14_278 : za_kl 14 278 = some (6) := by decide +kernel
theorem zj_14_311 : za_kl 14 311 = some (9) := by decide +kernel
theorem zj_14_320 : za_kl 14 320 = some (281474976710655) := by decide +kernel
theorem zmm_4_15 : za_mm 4 15 = true := by decide +kernel
theorem zmm_9_9 : za_mm 9 9 = true := by decide +kernel
theorem zn_6_9 : za_nw 6 9 = some 5 := by decide +kernel
theorem zn_6_23 : za_nw 6 23 = some 3 := by decide +kernel
theorem zn_6_48 : za_nw 6 48 = some 1 := by decide +kernel
theorem zn_7_9 : za_nw 7 9 = some 5 := by decide +kernel
theorem zn_7_23 : za_nw 7 23 = some 9 := by decide +kernel
theorem zn_7_30 : za_nw 7 30 = some 3 := by decide +kernel
theorem zn_7_55 : za_nw 7 55 = some 2 := by decide +kernel
theorem zn_10_21 : za_nw 10 21 = some 4 := by decide +kernel
theorem zn_12_22 : za_nw 12 22 = some 8 := by decide +kernel
theorem zn_12_37 : za_nw 12 37 = some 10 := by decide +kernel
theorem zn_12_44 : za_nw 12 44 = some 11 := by decide +kernel
theorem zn_12_47 : za_nw 12 47 = some 7 := by decide +kernel
theorem zn_12_56 : za_nw 12 56 = some 6 := by decide +kernel
theorem zn_12_117 : za_nw 12 117 = some 0 := by decide +kernel
theorem zn_14_13 : za_nw 14 13 = some 13 := by decide +kernel
