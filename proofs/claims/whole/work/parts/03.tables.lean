/-! TABLES, written by wip/whole/mktables.py out of what TURN printed: numbers for classes (their places in vwCl; then the law, Arrays), methods, pool entries. -/
def zt_rn : List String := ["java/lang/ArrayIndexOutOfBoundsException", "SortPacks$BitReader", "SortPacks$BitWriter", "SortPacks$Codes", "SortPacks$Coding", "SortPacks$Front", "SortPacks$Opener", "SortPacks$Packer", "SortPacks$Row", "SortPacks$TableMaker", "SortPacks$Told", "SortPacks$Turns", "SortPacks", "SortPacksModel$Broken", "SortPacksModel", "SortPacksLaw", "java/util/Arrays"]
def za_rn (o : Nat) : String := zt_rn.getD o ""
/-- the methods: name, code, words of locals, answer, own class, how many arguments (the receiver not counted), frames and words of locals of the room, the place of its code in lw_tbl -/
def zt_m0 : List (MethodName × ByteArray × Nat × Option FieldType × Nat × Nat × Nat × Nat × Nat) := [(yX0_init, cX0_init, 2, none, 1, 1, 1, 20, 377),
  (yX0_isAtEnd, cX0_isAtEnd, 1, (some FieldType.boolean), 1, 0, 0, 0, 870),
  (yX0_next, cX0_next, 3, (some FieldType.int), 1, 0, 0, 0, 768),
  (yX0_number, cX0_number, 6, (some FieldType.long), 1, 1, 1, 22, 764),
  (yX0_bytesTouched, cX0_bytesTouched, 1, (some FieldType.int), 1, 0, 0, 0, 878),
  (yX1_init, cX1_init, 2, none, 2, 1, 1, 20, 292),
  (yX1_restart, cX1_restart, 1, none, 2, 0, 2, 42, 500),
  (yX1_putBit, cX1_putBit, 2, none, 2, 1, 1, 21, 510),
  (yX1_put, cX1_put, 5, none, 2, 2, 2, 42, 506),
  (yX1_putOnes, cX1_putOnes, 3, none, 2, 1, 2, 42, 697),
  (yX1_fillByte, cX1_fillByte, 2, none, 2, 0, 2, 42, 728),
  (yX1_allFitted, cX1_allFitted, 1, (some FieldType.boolean), 2, 0, 0, 0, 732),
  (yX2_init, cX2_init, 1, none, 3, 0, 1, 20, 308),
  (yX2_make, cX2_make, 7, none, 3, 2, 0, 0, 711),
  (yX2_read, cX2_read, 6, (some FieldType.int), 3, 1, 1, 22, 832),
  (yX3_init, cX3_init, 1, none, 4, 0, 1, 20, 148),
  (yX3_forget, cX3_forget, 1, none, 4, 0, 0, 0, 496),
  (yX3_hasChoice, cX3_hasChoice, 2, (some FieldType.boolean), 4, 1, 0, 0, 693),
  (yX3_hasLength, cX3_hasLength, 3, (some FieldType.boolean), 4, 2, 0, 0, 942),
  (yX3_chosen, cX3_chosen, 2, (some FieldType.int), 4, 1, 1, 21, 689),
  (yX3_choose, cX3_choose, 3, none, 4, 2, 0, 0, 627),
  (yX4_init, cX4_init, 2, none, 5, 1, 1, 21, 239),
  (yX4_clear, cX4_clear, 1, none, 5, 0, 0, 0, 574),
  (yX4_add, cX4_add, 2, none, 5, 1, 0, 0, 578),
  (yX4_restart, cX4_restart, 3, none, 5, 1, 1, 21, 683),
  (yX4_first, cX4_first, 1, (some FieldType.int), 5, 0, 0, 0, 837),
  (yX4_takeAt, cX4_takeAt, 3, (some FieldType.int), 5, 1, 1, 48, 594),
  (yX4_placeOf, cX4_placeOf, 3, (some FieldType.int), 5, 1, 2, 70, 590),
  (yX5_init, cX5_init, 6, none, 6, 4, 2, 42, 368),
  (yX5_brokenAnswer, cX5_brokenAnswer, 1, (some FieldType.int), 6, 0, 1, 20, 874),
  (yX5_openRows, cX5_openRows, 2, (some FieldType.boolean), 6, 0, 6, 166, 746),
  (yX5_openAlone, cX5_openAlone, 2, (some FieldType.boolean), 6, 1, 5, 140, 960),
  (yX5_restart, cX5_restart, 2, none, 6, 1, 2, 42, 750),
  (yX5_breaks, cX5_breaks, 2, (some FieldType.boolean), 6, 1, 0, 0, 773),
  (yX5_openRow, cX5_openRow, 7, (some FieldType.boolean), 6, 1, 5, 140, 756),
  (yX5_readRowHead, cX5_readRowHead, 3, (some FieldType.boolean), 6, 0, 2, 47, 760),
  (yX5_fitsHead, cX5_fitsHead, 2, (some FieldType.boolean), 6, 2, 0, 0, 776),
  (yX5_readRowEnd, cX5_readRowEnd, 5, (some FieldType.boolean), 6, 1, 2, 47, 782),
  (yX5_openBlock, cX5_openBlock, 3, (some FieldType.boolean), 6, 1, 4, 118, 790),
  (yX5_readHead, cX5_readHead, 4, (some FieldType.boolean), 6, 0, 2, 47, 794)]
def zt_m1 : List (MethodName × ByteArray × Nat × Option FieldType × Nat × Nat × Nat × Nat × Nat) := [(yX5_readMap, cX5_readMap, 5, (some FieldType.boolean), 6, 0, 2, 47, 798),
  (yX5_readChoices, cX5_readChoices, 5, (some FieldType.boolean), 6, 1, 3, 94, 804),
  (yX5_readChoice, cX5_readChoice, 5, (some FieldType.boolean), 6, 2, 2, 70, 809),
  (yX5_readLengths, cX5_readLengths, 5, (some FieldType.boolean), 6, 1, 2, 47, 815),
  (yX5_changedLength, cX5_changedLength, 6, (some FieldType.int), 6, 1, 1, 22, 822),
  (yX5_isLength, cX5_isLength, 1, (some FieldType.boolean), 6, 1, 0, 0, 818),
  (yX5_readNumbers, cX5_readNumbers, 7, (some FieldType.boolean), 6, 2, 2, 70, 827),
  (yX5_addLast, cX5_addLast, 5, (some FieldType.boolean), 6, 3, 0, 0, 841),
  (yX5_turnBlockBack, cX5_turnBlockBack, 1, (some FieldType.boolean), 6, 0, 2, 49, 845),
  (yX5_writeOut, cX5_writeOut, 3, (some FieldType.boolean), 6, 0, 2, 49, 853),
  (yX5_plainSize, cX5_plainSize, 4, (some FieldType.int), 6, 0, 0, 0, 857),
  (yX5_lengthenRuns, cX5_lengthenRuns, 7, (some FieldType.int), 6, 0, 1, 23, 861),
  (yX6_init, cX6_init, 5, none, 7, 3, 2, 42, 233),
  (yX6_packAll, cX6_packAll, 7, (some FieldType.boolean), 7, 2, 5, 138, 488),
  (yX6_sumBetween, cX6_sumBetween, 5, (some FieldType.int), 7, 3, 2, 42, 531),
  (yX6_shortenRuns, cX6_shortenRuns, 8, (some FieldType.int), 7, 3, 3, 64, 517),
  (yX6_runFrom, cX6_runFrom, 3, (some FieldType.int), 7, 2, 2, 42, 520),
  (yX6_packBlock, cX6_packBlock, 4, none, 7, 2, 4, 115, 539),
  (yX6_noteFacts, cX6_noteFacts, 4, none, 7, 3, 1, 22, 652),
  (yX6_findSigns, cX6_findSigns, 2, none, 7, 0, 1, 23, 569),
  (yX6_makeNumbers, cX6_makeNumbers, 4, none, 7, 0, 3, 92, 582),
  (yX6_addDigits, cX6_addDigits, 3, none, 7, 1, 1, 21, 599),
  (yX6_addNumber, cX6_addNumber, 2, none, 7, 1, 0, 0, 603),
  (yX6_writeHead, cX6_writeHead, 2, none, 7, 1, 3, 66, 664),
  (yX6_writeMap, cX6_writeMap, 3, none, 7, 0, 3, 66, 671),
  (yX6_sixteenFrom, cX6_sixteenFrom, 4, (some FieldType.int), 7, 1, 0, 0, 675),
  (yX6_writeChoices, cX6_writeChoices, 3, none, 7, 1, 3, 92, 679),
  (yX6_writeLengths, cX6_writeLengths, 7, none, 7, 1, 3, 66, 701),
  (yX6_writeCodes, cX6_writeCodes, 4, none, 7, 1, 3, 66, 707),
  (yX7_init, cX7_init, 2, none, 8, 1, 1, 21, 121),
  (yX7_hasRoom, cX7_hasRoom, 2, (some FieldType.boolean), 8, 1, 0, 0, 458),
  (yX7_has, cX7_has, 2, (some FieldType.boolean), 8, 1, 0, 0, 528),
  (yX7_at, cX7_at, 2, (some FieldType.int), 8, 1, 1, 21, 524),
  (yX7_set, cX7_set, 3, none, 8, 2, 1, 21, 896),
  (yX7_add, cX7_add, 2, none, 8, 1, 0, 0, 466),
  (yX7_addNumber, cX7_addNumber, 3, none, 8, 1, 1, 21, 462),
  (yX7_addAll, cX7_addAll, 3, none, 8, 1, 1, 48, 741),
  (yX7_cutTo, cX7_cutTo, 2, none, 8, 1, 1, 21, 474),
  (yX7_dropFirst, cX7_dropFirst, 3, none, 8, 1, 1, 48, 904),
  (yX8_init, cX8_init, 1, none, 9, 0, 1, 20, 255)]
def zt_m2 : List (MethodName × ByteArray × Nat × Option FieldType × Nat × Nat × Nat × Nat × Nat) := [(yX8_makeTables, cX8_makeTables, 6, none, 9, 3, 3, 73, 607),
  (yX8_tablesFor, cX8_tablesFor, 1, (some FieldType.int), 9, 1, 0, 0, 610),
  (yX8_setFirstCosts, cX8_setFirstCosts, 12, none, 9, 3, 1, 23, 614),
  (yX8_chooseAll, cX8_chooseAll, 9, none, 9, 3, 1, 28, 619),
  (yX8_cheapest, cX8_cheapest, 9, (some FieldType.int), 9, 4, 0, 0, 623),
  (yX8_makeLengths, cX8_makeLengths, 6, none, 9, 3, 2, 48, 631),
  (yX8_joinAll, cX8_joinAll, 6, none, 9, 1, 1, 23, 636),
  (yX8_sortByWeight, cX8_sortByWeight, 4, none, 9, 1, 0, 0, 640),
  (yX8_takeLeast, cX8_takeLeast, 4, (some FieldType.int), 9, 1, 0, 0, 644),
  (yX8_setLengths, cX8_setLengths, 6, (some FieldType.int), 9, 2, 1, 21, 648),
  (yX9_init, cX9_init, 1, none, 10, 0, 2, 40, 142),
  (yX9_forget, cX9_forget, 1, none, 10, 0, 1, 20, 492),
  (yX9_tells, cX9_tells, 2, (some FieldType.boolean), 10, 1, 0, 0, 920),
  (yX9_fact, cX9_fact, 3, (some FieldType.int), 10, 2, 1, 21, 916),
  (yX9_sumOf, cX9_sumOf, 2, (some FieldType.int), 10, 1, 1, 21, 928),
  (yX9_note, cX9_note, 3, none, 10, 2, 0, 0, 656),
  (yX9_keepBlock, cX9_keepBlock, 1, none, 10, 0, 1, 48, 715),
  (yX9_keepCoding, cX9_keepCoding, 2, none, 10, 0, 0, 0, 720),
  (yX10_init, cX10_init, 1, none, 11, 0, 1, 20, 214),
  (yX10_sortTurns, cX10_sortTurns, 5, none, 11, 2, 3, 72, 543),
  (yX10_sortPlaces, cX10_sortPlaces, 3, none, 11, 1, 2, 46, 547),
  (yX10_sortWaiting, cX10_sortWaiting, 4, none, 11, 1, 1, 23, 551),
  (yX10_rankAnew, cX10_rankAnew, 5, none, 11, 2, 1, 48, 558),
  (yX10_differ, cX10_differ, 5, (some FieldType.boolean), 11, 4, 0, 0, 562),
  (yX10_lastByte, cX10_lastByte, 5, (some FieldType.int), 11, 3, 0, 0, 586),
  (yX10_origin, cX10_origin, 3, (some FieldType.int), 11, 1, 0, 0, 660),
  (yX10_turnBack, cX10_turnBack, 7, none, 11, 4, 1, 23, 849),
  (yX11_init, cX11_init, 3, none, 12, 1, 3, 67, 107),
  (yX11_feed, cX11_feed, 6, (some FieldType.int), 12, 5, 2, 43, 454),
  (yX11_end, cX11_end, 2, (some FieldType.int), 12, 1, 2, 42, 470),
  (yX11_octets, cX11_octets, 4, (some FieldType.int), 12, 2, 1, 21, 479),
  (yX11_pack, cX11_pack, 2, (some FieldType.int), 12, 0, 6, 164, 484),
  (yX11_open, cX11_open, 1, (some FieldType.int), 12, 0, 7, 187, 737),
  (yX11_rule, cX11_rule, 1, (some FieldType.int), 12, 0, 0, 0, 882),
  (yX11_pass, cX11_pass, 1, (some FieldType.int), 12, 0, 2, 70, 886),
  (yX11_spoil, cX11_spoil, 3, (some FieldType.int), 12, 2, 2, 43, 890),
  (yX11_drop, cX11_drop, 2, (some FieldType.int), 12, 1, 2, 70, 900),
  (yX11_out, cX11_out, 2, (some FieldType.int), 12, 1, 2, 42, 971),
  (yX11_count, cX11_count, 2, (some FieldType.int), 12, 1, 0, 0, 908),
  (yX11_block, cX11_block, 3, (some FieldType.int), 12, 2, 2, 43, 912)]
def zt_m3 : List (MethodName × ByteArray × Nat × Option FieldType × Nat × Nat × Nat × Nat × Nat) := [(yX11_sum, cX11_sum, 2, (some FieldType.int), 12, 1, 2, 42, 924),
  (yX11_choice, cX11_choice, 2, (some FieldType.int), 12, 1, 2, 42, 932),
  (yX11_length, cX11_length, 3, (some FieldType.int), 12, 2, 1, 22, 938),
  (yX11_mark, cX11_mark, 2, (some FieldType.int), 12, 1, 3, 70, 946),
  (yX11_alone, cX11_alone, 3, (some FieldType.int), 12, 1, 6, 161, 956),
  (yX11_findMark, cX11_findMark, 9, (some FieldType.int), 12, 1, 2, 42, 950),
  (yX11_stepSum, cX11_stepSum, 4, (some FieldType.int), 12, 2, 0, 0, 534),
  (yX11_joinSums, cX11_joinSums, 2, (some FieldType.int), 12, 2, 0, 0, 723),
  (yX12_init, cX12_init, 1, none, 13, 0, 4, 85, 1064),
  (yX13_thrown, cX13_thrown, 1, (some FieldType.int), 14, 0, 0, 0, 1046),
  (yX13_in, cX13_in, 6, (some FieldType.boolean), 14, 3, 0, 0, 1235),
  (yX13_init, cX13_init, 2, none, 14, 1, 5, 105, 1051),
  (yX13_feed, cX13_feed, 8, (some FieldType.int), 14, 5, 0, 0, 1227),
  (yX13_end, cX13_end, 2, (some FieldType.int), 14, 1, 1, 25, 1231),
  (yX13_octets, cX13_octets, 4, (some FieldType.int), 14, 2, 1, 25, 1239),
  (yX13_rule, cX13_rule, 1, (some FieldType.int), 14, 0, 0, 0, 1244),
  (yX13_pass, cX13_pass, 2, (some FieldType.int), 14, 0, 0, 0, 1248),
  (yX13_spoil, cX13_spoil, 3, (some FieldType.int), 14, 2, 1, 25, 1252),
  (yX13_drop, cX13_drop, 3, (some FieldType.int), 14, 1, 1, 25, 1257),
  (yX13_out, cX13_out, 2, (some FieldType.int), 14, 1, 1, 25, 1261),
  (yX13_count, cX13_count, 2, (some FieldType.int), 14, 1, 0, 0, 1265),
  (yX13_note, cX13_note, 12, none, 14, 10, 0, 0, 1377),
  (yX13_toldBlocks, cX13_toldBlocks, 1, (some FieldType.int), 14, 0, 0, 0, 1273),
  (yX13_block, cX13_block, 3, (some FieldType.int), 14, 2, 1, 25, 1269),
  (yX13_sum, cX13_sum, 2, (some FieldType.int), 14, 1, 1, 25, 1278),
  (yX13_keepTables, cX13_keepTables, 5, none, 14, 3, 0, 0, 1381),
  (yX13_choice, cX13_choice, 2, (some FieldType.int), 14, 1, 1, 25, 1282),
  (yX13_length, cX13_length, 3, (some FieldType.int), 14, 2, 1, 25, 1286),
  (yX13_sumOf, cX13_sumOf, 6, (some FieldType.int), 14, 3, 0, 0, 1308),
  (yX13_joined, cX13_joined, 2, (some FieldType.int), 14, 2, 0, 0, 1384),
  (yX13_putBit, cX13_putBit, 3, none, 14, 1, 0, 0, 1299),
  (yX13_put, cX13_put, 5, none, 14, 2, 1, 22, 1295),
  (yX13_isAhead, cX13_isAhead, 8, (some FieldType.boolean), 14, 2, 0, 0, 1317),
  (yX13_sortTurns, cX13_sortTurns, 9, none, 14, 0, 1, 27, 1313),
  (yX13_findSigns, cX13_findSigns, 2, none, 14, 0, 1, 21, 1321),
  (yX13_takeSigns, cX13_takeSigns, 2, none, 14, 0, 0, 0, 1325),
  (yX13_number, cX13_number, 2, none, 14, 1, 0, 0, 1337),
  (yX13_digits, cX13_digits, 4, none, 14, 1, 1, 21, 1333),
  (yX13_makeNumbers, cX13_makeNumbers, 6, none, 14, 0, 2, 44, 1329),
  (yX13_makeLengths, cX13_makeLengths, 8, none, 14, 2, 1, 25, 1349)]
def zt_m4 : List (MethodName × ByteArray × Nat × Option FieldType × Nat × Nat × Nat × Nat × Nat) := [(yX13_leastOne, cX13_leastOne, 6, (some FieldType.int), 14, 2, 0, 0, 1353),
  (yX13_firstCosts, cX13_firstCosts, 9, none, 14, 1, 0, 0, 1345),
  (yX13_chooseTables, cX13_chooseTables, 10, none, 14, 1, 2, 52, 1341),
  (yX13_makeCodes, cX13_makeCodes, 6, none, 14, 2, 0, 0, 1368),
  (yX13_putMap, cX13_putMap, 4, none, 14, 0, 1, 22, 1360),
  (yX13_putChoices, cX13_putChoices, 4, none, 14, 0, 1, 22, 1364),
  (yX13_putLengths, cX13_putLengths, 6, none, 14, 2, 2, 46, 1372),
  (yX13_packBlock, cX13_packBlock, 9, (some FieldType.int), 14, 2, 3, 81, 1305),
  (yX13_pack, cX13_pack, 8, (some FieldType.int), 14, 0, 4, 109, 1290),
  (yX13_fail, cX13_fail, 2, none, 14, 1, 0, 0, 1405),
  (yX13_bit, cX13_bit, 2, (some FieldType.int), 14, 0, 1, 21, 1401),
  (yX13_bits, cX13_bits, 5, (some FieldType.long), 14, 1, 2, 42, 1397),
  (yX13_readMap, cX13_readMap, 5, none, 14, 0, 3, 66, 1414),
  (yX13_readChoices, cX13_readChoices, 5, none, 14, 0, 3, 66, 1418),
  (yX13_readLengths, cX13_readLengths, 5, none, 14, 2, 3, 66, 1423),
  (yX13_mustBeLength, cX13_mustBeLength, 2, none, 14, 1, 1, 25, 1427),
  (yX13_readCode, cX13_readCode, 8, (some FieldType.int), 14, 2, 2, 42, 1435),
  (yX13_addBytes, cX13_addBytes, 4, none, 14, 2, 0, 0, 1439),
  (yX13_readNumbers, cX13_readNumbers, 8, none, 14, 2, 3, 69, 1431),
  (yX13_turnBack, cX13_turnBack, 4, none, 14, 1, 0, 0, 1443),
  (yX13_runSize, cX13_runSize, 8, (some FieldType.int), 14, 1, 0, 0, 1447),
  (yX13_readBlock, cX13_readBlock, 10, (some FieldType.int), 14, 5, 4, 96, 1410),
  (yX13_readRow, cX13_readRow, 9, none, 14, 1, 5, 125, 1393),
  (yX13_markAt, cX13_markAt, 6, (some FieldType.int), 14, 1, 0, 0, 1455),
  (yX13_mark, cX13_mark, 3, (some FieldType.int), 14, 1, 1, 25, 1451),
  (yJ7_fill_53178, cJ7_fill_53178, 4, none, 16, 2, 0, 0, 554),
  (yL_cell, cL_cell, 2, (some FieldType.int), 15, 2, 0, 0, 963)]
/-- the methods that are walked by hand: those with handlers -/
def zt_mh : List (MethodName × ByteArray × Nat × Option FieldType × Nat × Nat × Nat × Nat × Nat) := [(yX13_open, cX13_open, 3, (some FieldType.int), 14, 0, 6, 153, 1389),
  (yX13_alone, cX13_alone, 5, (some FieldType.int), 14, 1, 5, 125, 1460),
  (yL_out, cL_out, 4, (some FieldType.int), 15, 3, 3, 63, 966)]
def zt_mp0 : List (MethodName × ByteArray × Nat × Option FieldType × Nat × Nat × Nat × Nat × Nat) := zt_m0 ++ (zt_m1 ++ (zt_m2 ++ (zt_m3 ++ (zt_m4))))
def zt_m : List (MethodName × ByteArray × Nat × Option FieldType × Nat × Nat × Nat × Nat × Nat) := zt_mp0 ++ zt_mh
/-- fields by pool entries: own class, index, class, field, the nest's host or nothing, the place of the word in lw_tbl -/
def zt_f : List (Nat × Nat × Nat × Nat × String × Nat) := [(8, 13, 8, 0, "", 124), (1, 24, 8, 0, "SortPacks", 125), (8, 19, 8, 1, "", 126), (1, 19, 8, 1, "SortPacks", 127), (12, 72, 8, 1, "SortPacks", 128), (7, 83, 8, 1, "SortPacks", 129), (2, 32, 8, 1, "SortPacks", 130), (6, 240, 8, 1, "SortPacks", 131), (4, 20, 4, 0, "", 152), (9, 36, 4, 0, "SortPacks", 153), (7, 194, 4, 0, "SortPacks", 154), (6, 185, 4, 0, "SortPacks", 155), (4, 24, 4, 1, "", 156), (9, 42, 4, 1, "SortPacks", 157), (7, 197, 4, 1, "SortPacks", 158), (6, 188, 4, 1, "SortPacks", 159), (4, 27, 4, 2, "", 160), (9, 52, 4, 2, "SortPacks", 161), (7, 147, 4, 2, "SortPacks", 162), (6, 180, 4, 2, "SortPacks", 163), (4, 9, 4, 3, "", 164), (4, 17, 4, 4, "", 165), (9, 55, 4, 4, "SortPacks", 166), (7, 241, 4, 4, "SortPacks", 167), (12, 149, 4, 4, "SortPacks", 168), (6, 208, 4, 4, "SortPacks", 169), (10, 9, 10, 0, "", 182), (10, 15, 10, 1, "", 183), (10, 18, 10, 2, "", 184), (7, 100, 10, 3, "SortPacks", 185), (10, 48, 10, 3, "", 186), (6, 122, 10, 3, "SortPacks", 187), (10, 31, 10, 4, "", 188), (12, 124, 10, 4, "SortPacks", 189), (10, 24, 10, 5, "", 190), (12, 133, 10, 5, "SortPacks", 191), (10, 28, 10, 6, "", 192), (7, 142, 10, 6, "SortPacks", 193), (6, 141, 10, 6, "SortPacks", 194), (11, 9, 11, 0, "", 216), (11, 15, 11, 1, "", 217), (11, 18, 11, 2, "", 218), (11, 21, 11, 3, "", 219), (5, 13, 5, 0, "", 242), (5, 19, 5, 1, "", 243), (7, 146, 5, 1, "SortPacks", 244), (6, 177, 5, 1, "SortPacks", 245), (9, 11, 9, 0, "", 258), (9, 16, 9, 1, "", 259), (9, 20, 9, 2, "", 260), (9, 23, 9, 3, "", 261), (9, 26, 9, 4, "", 262), (9, 29, 9, 5, "", 263), (9, 96, 9, 6, "", 264), (9, 99, 9, 7, "", 265), (9, 102, 9, 8, "", 266), (2, 7, 2, 0, "", 294), (2, 19, 2, 1, "", 295), (7, 185, 2, 1, "SortPacks", 296), (2, 23, 2, 2, "", 297), (3, 9, 3, 0, "", 310), (3, 15, 3, 1, "", 311), (3, 18, 3, 2, "", 312), (3, 21, 3, 3, "", 313), (3, 24, 3, 4, "", 314), (7, 252, 3, 4, "SortPacks", 315), (7, 47, 7, 0, "", 327), (7, 51, 7, 1, "", 328), (7, 60, 7, 2, "", 329), (7, 14, 7, 3, "", 330), (7, 20, 7, 4, "", 331), (7, 26, 7, 5, "", 332), (7, 32, 7, 6, "", 333), (7, 36, 7, 7, "", 334), (7, 40, 7, 8, "", 335), (7, 125, 7, 9, "", 336), (7, 44, 7, 10, "", 337), (7, 152, 7, 11, "", 338), (1, 9, 1, 0, "", 379), (1, 15, 1, 1, "", 380), (6, 84, 1, 1, "SortPacks", 381), (6, 36, 6, 0, "", 388), (6, 40, 6, 1, "", 389), (6, 44, 6, 2, "", 390), (6, 53, 6, 3, "", 391), (6, 14, 6, 4, "", 392), (6, 20, 6, 5, "", 393), (6, 25, 6, 6, "", 394), (6, 29, 6, 7, "", 395), (6, 33, 6, 8, "", 396), (6, 216, 6, 9, "", 397), (6, 168, 6, 10, "", 398), (6, 119, 6, 11, "", 399), (6, 88, 6, 12, "", 400), (12, 100, 6, 12, "SortPacks", 401), (12, 18, 12, 0, "", 429), (12, 27, 12, 1, "", 430), (12, 31, 12, 2, "", 431), (12, 34, 12, 3, "", 432), (12, 40, 12, 4, "", 433), (12, 52, 12, 5, "", 434), (12, 61, 12, 6, "", 435), (14, 262, 13, 6, "SortPacksModel", 1074), (14, 1, 14, 0, "", 1080), (14, 16, 14, 1, "", 1081), (14, 106, 14, 2, "", 1082), (14, 20, 14, 3, "", 1083), (14, 109, 14, 4, "", 1084), (14, 24, 14, 5, "", 1085), (14, 123, 14, 6, "", 1086), (14, 27, 14, 7, "", 1087), (14, 128, 14, 8, "", 1088), (14, 120, 14, 9, "", 1089), (14, 131, 14, 10, "", 1090), (14, 30, 14, 11, "", 1091), (14, 34, 14, 12, "", 1092), (14, 38, 14, 13, "", 1093), (14, 146, 14, 14, "", 1094), (14, 41, 14, 15, "", 1095), (14, 140, 14, 16, "", 1096), (14, 143, 14, 17, "", 1097), (14, 150, 14, 18, "", 1098), (14, 153, 14, 19, "", 1099), (14, 44, 14, 20, "", 1100), (14, 161, 14, 21, "", 1101), (14, 47, 14, 22, "", 1102), (14, 50, 14, 23, "", 1103), (14, 53, 14, 24, "", 1104), (14, 174, 14, 25, "", 1105), (14, 56, 14, 26, "", 1106), (14, 59, 14, 27, "", 1107), (14, 171, 14, 28, "", 1108), (14, 63, 14, 29, "", 1109), (14, 66, 14, 30, "", 1110), (14, 69, 14, 31, "", 1111), (14, 72, 14, 32, "", 1112), (14, 195, 14, 33, "", 1113), (14, 189, 14, 34, "", 1114), (14, 75, 14, 35, "", 1115), (14, 79, 14, 36, "", 1116), (14, 82, 14, 37, "", 1117), (14, 85, 14, 38, "", 1118), (14, 88, 14, 39, "", 1119), (14, 91, 14, 40, "", 1120), (14, 94, 14, 41, "", 1121), (14, 265, 14, 42, "", 1122), (14, 97, 14, 43, "", 1123), (14, 100, 14, 44, "", 1124), (14, 103, 14, 45, "", 1125), (14, 308, 14, 46, "", 1126)]
/-- a field by its pool entry: the class's number, the field's -/
def za_fd (o i : Nat) : Option (Nat × Nat) := (zt_f.find? (fun e => e.1 == o && e.2.1 == i)).map (fun e => (e.2.2.1, e.2.2.2.1))
/-- the field's link is a plain one -/
def za_fpl (o i : Nat) : Bool := ((zt_f.find? (fun e => e.1 == o && e.2.1 == i)).map (fun e => decide (e.2.2.2.2.1 = ""))).getD false
/-- calls by pool entries: own class, index, kind, method, host, place -/
def zt_c : List (Nat × Nat × Nat × Nat × String × Nat) := [(15, 21, 4, 107, "", 105), (12, 3, 6, 0, "", 108), (12, 9, 8, 0, "", 111), (12, 15, 7, 0, "", 114), (12, 24, 4, 69, "", 119), (8, 1, 6, 0, "", 122), (8, 7, 7, 0, "", 123), (12, 39, 5, 90, "SortPacks", 140), (10, 3, 6, 0, "", 143), (10, 23, 5, 15, "SortPacks", 146), (4, 3, 6, 0, "", 149), (12, 46, 5, 98, "SortPacks", 212), (11, 3, 6, 0, "", 215), (12, 49, 4, 52, "", 231), (7, 3, 6, 0, "", 234), (7, 11, 4, 21, "", 237), (5, 1, 6, 0, "", 240), (5, 7, 7, 0, "", 241), (7, 25, 5, 79, "SortPacks", 253), (9, 3, 6, 0, "", 256), (7, 57, 4, 5, "", 290), (2, 1, 6, 0, "", 293), (7, 64, 5, 12, "SortPacks", 306), (3, 3, 6, 0, "", 309), (12, 58, 4, 28, "", 366), (6, 3, 6, 0, "", 369), (6, 11, 4, 21, "", 371), (6, 50, 4, 0, "", 375), (1, 3, 6, 0, "", 378), (6, 57, 5, 12, "SortPacks", 387), (15, 27, 0, 108, "", 451), (12, 65, 0, 70, "", 455), (12, 69, 0, 75, "", 459), (8, 27, 0, 74, "", 463), (15, 32, 0, 109, "", 467), (12, 75, 0, 77, "", 471), (8, 31, 8, 0, "", 475), (15, 36, 0, 110, "", 476), (12, 78, 0, 74, "", 480), (15, 41, 0, 111, "", 481), (12, 81, 0, 53, "", 485), (7, 65, 0, 91, "", 489), (10, 35, 0, 16, "", 493), (7, 70, 0, 6, "", 497), (2, 13, 0, 77, "", 501), (7, 75, 0, 8, "", 503), (2, 29, 0, 7, "", 507), (2, 26, 0, 74, "", 511), (7, 89, 0, 55, "", 514), (7, 126, 2, 56, "", 518), (7, 118, 0, 72, "", 521), (8, 23, 0, 71, "", 525), (7, 93, 2, 54, "", 529), (7, 122, 3, 126, "SortPacks", 532), (7, 96, 0, 57, "", 536), (7, 130, 0, 99, "", 540), (11, 24, 0, 100, "", 544), (11, 28, 0, 101, "", 548), (11, 35, 2, 185, "", 552), (11, 31, 0, 102, "", 555), (11, 41, 0, 103, "", 559), (11, 45, 9, 0, "", 563), (7, 136, 0, 59, "", 566), (7, 200, 2, 185, "", 570), (7, 206, 0, 22, "", 571), (7, 209, 0, 23, "", 575), (7, 139, 0, 60, "", 579), (7, 212, 0, 104, "", 583), (7, 216, 0, 27, "", 587), (5, 36, 0, 26, "", 591), (5, 30, 9, 0, "", 595), (7, 219, 0, 61, "", 596), (7, 222, 0, 62, "", 600), (7, 155, 0, 80, "", 604), (9, 32, 2, 81, "", 608), (9, 45, 0, 82, "", 611), (9, 62, 2, 185, "", 615), (9, 49, 0, 83, "", 616), (9, 68, 8, 0, "", 620), (9, 74, 2, 84, "", 621), (9, 78, 0, 20, "", 624), (9, 58, 0, 85, "", 628), (9, 82, 7, 0, "", 632), (9, 85, 0, 86, "", 633), (9, 93, 0, 87, "", 637), (9, 105, 0, 88, "", 641), (9, 89, 0, 89, "", 645), (7, 159, 0, 58, "", 649), (7, 188, 0, 95, "", 653), (7, 191, 0, 105, "", 657), (7, 163, 0, 63, "", 661), (7, 227, 0, 7, "", 667), (7, 166, 0, 64, "", 668), (7, 230, 0, 65, "", 672), (7, 169, 0, 66, "", 676), (7, 233, 0, 24, "", 680), (5, 23, 0, 22, "", 684), (5, 26, 0, 23, "", 685), (7, 235, 0, 19, "", 686), (4, 30, 0, 17, "", 690), (7, 238, 0, 9, "", 694), (7, 173, 0, 67, "", 698), (7, 176, 0, 68, "", 704), (7, 249, 0, 13, "", 708), (7, 179, 0, 96, "", 712), (10, 42, 9, 0, "", 716), (7, 182, 0, 97, "", 717), (7, 103, 3, 127, "SortPacks", 721), (7, 111, 0, 10, "", 725), (7, 114, 0, 11, "", 729), (12, 85, 0, 91, "", 733), (15, 46, 0, 112, "", 734), (12, 88, 0, 76, "", 738), (8, 34, 9, 0, "", 742), (12, 92, 0, 30, "", 743), (6, 62, 0, 32, "", 747), (6, 91, 0, 77, "", 751), (6, 65, 0, 91, "", 752), (6, 70, 0, 34, "", 753), (6, 96, 0, 35, "", 757), (6, 99, 0, 3, "", 761), (1, 28, 0, 2, "", 765), (6, 105, 0, 33, "", 770), (6, 132, 2, 36, "", 774), (6, 110, 0, 37, "", 779), (6, 138, 0, 2, "", 784), (6, 115, 0, 95, "", 786), (6, 78, 0, 38, "", 787), (6, 145, 0, 39, "", 791), (6, 148, 0, 40, "", 795), (6, 171, 0, 22, "", 799), (6, 174, 0, 23, "", 800), (6, 151, 0, 41, "", 801), (6, 191, 0, 24, "", 805), (6, 192, 0, 42, "", 806), (6, 195, 0, 26, "", 810), (6, 199, 0, 20, "", 811), (6, 155, 0, 43, "", 812), (6, 202, 2, 45, "", 816), (6, 205, 0, 44, "", 819), (6, 212, 0, 13, "", 823), (6, 158, 0, 46, "", 824), (6, 217, 0, 19, "", 828), (6, 220, 0, 14, "", 829), (3, 27, 0, 2, "", 833), (6, 224, 0, 25, "", 834), (6, 227, 0, 47, "", 838), (6, 162, 0, 48, "", 842), (6, 231, 0, 106, "", 846), (6, 165, 0, 49, "", 850), (6, 237, 0, 50, "", 854), (6, 241, 0, 51, "", 858), (6, 244, 0, 74, "", 862), (6, 245, 3, 126, "SortPacks", 863), (6, 125, 3, 127, "SortPacks", 864), (6, 129, 0, 96, "", 865), (6, 81, 0, 97, "", 866), (6, 74, 0, 1, "", 867), (12, 96, 0, 29, "", 871), (6, 58, 0, 4, "", 875), (15, 50, 0, 113, "", 879), (15, 54, 0, 114, "", 883), (15, 58, 0, 115, "", 887), (12, 103, 0, 71, "", 891), (12, 106, 0, 72, "", 892), (12, 110, 0, 73, "", 893), (15, 62, 0, 116, "", 897), (12, 114, 0, 78, "", 901), (15, 73, 0, 118, "", 905), (15, 77, 0, 119, "", 909), (12, 127, 0, 93, "", 913), (10, 38, 0, 92, "", 917), (15, 81, 0, 120, "", 921), (12, 130, 0, 94, "", 925), (15, 85, 0, 121, "", 929), (12, 137, 0, 17, "", 933), (12, 142, 0, 19, "", 934), (15, 89, 0, 122, "", 935), (12, 145, 0, 18, "", 939), (15, 93, 0, 123, "", 943), (12, 153, 0, 125, "", 947), (15, 97, 0, 124, "", 953), (12, 156, 0, 31, "", 957), (15, 15, 2, 186, "", 961), (15, 66, 2, 189, "", 964), (15, 7, 0, 117, "", 968), (15, 70, 0, 129, "", 1043), (15, 26, 4, 131, "", 1049), (14, 7, 6, 0, "", 1052), (14, 15, 4, 128, "", 1062), (13, 1, 10, 0, "", 1065), (15, 31, 0, 132, "", 1224), (15, 35, 0, 133, "", 1228), (14, 114, 2, 130, "", 1233), (15, 40, 0, 134, "", 1236), (15, 53, 0, 135, "", 1241), (15, 57, 0, 136, "", 1245), (15, 61, 0, 137, "", 1249), (15, 65, 0, 138, "", 1254), (15, 69, 0, 139, "", 1258), (15, 76, 0, 140, "", 1262), (15, 80, 0, 143, "", 1266), (14, 134, 0, 142, "", 1270), (15, 84, 0, 144, "", 1275), (15, 88, 0, 146, "", 1279), (15, 92, 0, 147, "", 1283), (15, 45, 0, 168, "", 1287), (14, 202, 0, 151, "", 1292), (14, 157, 0, 150, "", 1296), (14, 254, 0, 167, "", 1302), (14, 208, 2, 148, "", 1306), (14, 212, 0, 153, "", 1310), (14, 164, 0, 152, "", 1314), (14, 215, 0, 154, "", 1318), (14, 168, 0, 155, "", 1322), (14, 218, 0, 158, "", 1326), (14, 180, 0, 157, "", 1330), (14, 177, 0, 156, "", 1334), (14, 221, 0, 162, "", 1338), (14, 192, 0, 161, "", 1342), (14, 198, 0, 159, "", 1346), (14, 183, 0, 160, "", 1350), (14, 228, 0, 164, "", 1357), (14, 231, 0, 165, "", 1361), (14, 234, 0, 163, "", 1365), (14, 237, 0, 166, "", 1369), (14, 240, 0, 141, "", 1374), (14, 244, 0, 145, "", 1378), (14, 257, 2, 149, "", 1382), (15, 49, 0, 187, "", 1386), (14, 317, 0, 182, "", 1390), (14, 274, 0, 171, "", 1394), (14, 271, 0, 170, "", 1398), (14, 268, 0, 169, "", 1402), (14, 313, 0, 181, "", 1407), (14, 289, 0, 172, "", 1411), (14, 292, 0, 173, "", 1415), (14, 295, 0, 174, "", 1420), (14, 280, 0, 175, "", 1424), (14, 298, 0, 178, "", 1428), (14, 283, 0, 176, "", 1432), (14, 286, 0, 177, "", 1436), (14, 301, 0, 179, "", 1440), (14, 304, 0, 180, "", 1444), (15, 96, 0, 184, "", 1448), (14, 322, 0, 183, "", 1452), (15, 100, 0, 188, "", 1457)]
/-- a call by its pool entry: its kind, the method's number. Kinds: 0 virtual, 1 virtual of a nest mate, 2 static, 3 static of a nest mate, 4 constructor, 5 constructor of a nest mate, 6 Object(), 7 max, 8 min, 9 arraycopy, 10 RuntimeException(null, null, false, false) -/
def za_cl (o i : Nat) : Option (Nat × Nat) := (zt_c.find? (fun e => e.1 == o && e.2.1 == i)).map (fun e => (e.2.2.1, e.2.2.2.1))
def zt_ki : List (Nat × Nat × Int32 × Nat) := [(12, 163, 79764919, 535), (14, 37, 32768, 1079), (14, 149, 79764919, 1309)]
def za_ki (o i : Nat) : Option Int32 := (zt_ki.find? (fun e => e.1 == o && e.2.1 == i)).map (fun e => e.2.2.1)
def zt_kl : List (Nat × Nat × Int64 × Nat) := [(7, 73, 66, 502), (7, 79, 90, 512), (7, 81, 104, 513), (7, 225, 54156738319193, 665), (7, 109, 4294967295, 666), (7, 245, 2, 702), (7, 247, 3, 703), (7, 107, 25779555029136, 724), (1, 32, -1, 769), (6, 103, -1, 777), (6, 108, 25779555029136, 778), (6, 136, 4294967295, 783), (6, 113, 54156738319193, 785), (12, 159, 281474976710655, 951), (12, 161, 54156738319193, 952), (14, 112, 20, 1232), (14, 118, 400, 1240), (14, 126, 255, 1253), (14, 138, 8, 1274), (14, 248, 66, 1291), (14, 250, 90, 1300), (14, 252, 104, 1301), (14, 187, 2, 1354), (14, 224, 54156738319193, 1355), (14, 226, 4294967295, 1356), (14, 206, 3, 1373), (14, 260, 25779555029136, 1385), (14, 311, 9, 1406), (14, 278, 6, 1419), (14, 320, 281474976710655, 1456)]
def za_kl (o i : Nat) : Option Int64 := (zt_kl.find? (fun e => e.1 == o && e.2.1 == i)).map (fun e => e.2.2.1)
def zt_nw : List (Nat × Nat × Nat × Nat) := [(15, 8, 12, 103), (12, 22, 8, 117), (12, 37, 10, 138), (10, 21, 4, 144), (12, 44, 11, 210), (12, 47, 7, 229), (7, 9, 5, 235), (7, 23, 9, 251), (7, 30, 3, 286), (7, 55, 2, 288), (12, 56, 6, 364), (6, 9, 5, 370), (6, 23, 3, 372), (6, 48, 1, 373), (15, 13, 0, 967), (12, 117, 0, 972), (15, 24, 14, 1047), (14, 13, 13, 1053)]
/-- a class to make, or whose objects an array is to hold, by its pool entry -/
def za_nw (o i : Nat) : Option Nat := (zt_nw.find? (fun e => e.1 == o && e.2.1 == i)).map (fun e => e.2.2.1)
/-- the pool entries of int[][] -/
def zt_mm : List (Nat × Nat × Nat) := [(4, 15, 150), (9, 9, 257)]
def za_mm (o i : Nat) : Bool := (zt_mm.find? (fun e => e.1 == o && e.2.1 == i)).isSome
/-- the fields of a new object -/
def zt_df : List (List Value) := [[.null, .null, .null, .null, .null, .int 0], [.null, .int 0], [.null, .int 0, .int 0], [.null, .null, .null, .null, .null], [.int 0, .int 0, .int 0, .null, .null], [.null, .int 0], [.null, .null, .null, .null, .null, .null, .null, .null, .null, .int 0, .int 0, .int 0, .int 0], [.null, .null, .null, .null, .null, .null, .null, .null, .null, .int 0, .null, .int 0], [.null, .int 0], [.null, .null, .null, .null, .null, .null, .int 0, .int 0, .int 0], [.null, .null, .null, .int 0, .int 0, .null, .null], [.null, .null, .null, .null], [.int 0, .null, .null, .null, .null, .null, .null], [.null, .null, .null, .null, .null, .int 0, .int 0], [.int 0, .null, .int 0, .null, .int 0, .null, .int 0, .null, .int 0, .int 0, .int 0, .null, .null, .null, .int 0, .null, .int 0, .int 0, .int 0, .int 0, .null, .int 0, .null, .null, .null, .int 0, .null, .null, .int 0, .null, .null, .null, .null, .int 0, .int 0, .null, .null, .null, .null, .null, .null, .null, .int 0, .null, .null, .null, .int 0]]
def zt_ft : List (List FieldType) := [[.object "java/lang/Throwable", .array (.object "java/lang/StackTraceElement"), .object "java/util/List", .object "java/lang/String", .object "java/lang/Object", .int],
  [.object "SortPacks$Row", .int],
  [.object "SortPacks$Row", .int, .int],
  [.array .int, .array .int, .array .int, .array .int, .array .int],
  [.int, .int, .int, .array .byte, .array (.array .int)],
  [.array .int, .int],
  [.object "SortPacks$Row", .object "SortPacks$Told", .object "SortPacks$Turns", .object "SortPacks$BitReader", .object "SortPacks$Front", .object "SortPacks$Front", .array (.object "SortPacks$Codes"), .array .byte, .array .byte, .int, .int, .int, .int],
  [.object "SortPacks$Told", .object "SortPacks$Turns", .object "SortPacks$BitWriter", .object "SortPacks$Front", .object "SortPacks$Front", .object "SortPacks$TableMaker", .array (.object "SortPacks$Codes"), .array .int, .array .byte, .int, .array .int, .int],
  [.array .byte, .int],
  [.array (.array .int), .array .int, .array .int, .array .int, .array .int, .array .int, .int, .int, .int],
  [.array .int, .array .int, .array .int, .int, .int, .object "SortPacks$Coding", .object "SortPacks$Coding"],
  [.array .int, .array .int, .array .int, .array .int],
  [.int, .object "SortPacks$Row", .object "SortPacks$Row", .object "SortPacks$Row", .object "SortPacks$Told", .object "SortPacks$Packer", .object "SortPacks$Opener"],
  [.object "java/lang/Throwable", .array (.object "java/lang/StackTraceElement"), .object "java/util/List", .object "java/lang/String", .object "java/lang/Object", .int, .int],
  [.int, .object "SortPacksModel$Broken", .int, .array .byte, .int, .array .byte, .int, .array .byte, .int, .int, .int, .array .int, .array .int, .array .int, .int, .array .int, .int, .int, .int, .boolean, .array .byte, .int, .array .int, .array .int, .array .int, .int, .array .int, .array .boolean, .int, .array .int, .array .int, .array .int, .array .int, .int, .int, .array .long, .array .int, .array .long, .array .int, .array .int, .array .int, .array .int, .int, .array .int, .array .byte, .array .byte, .int]]
def za_ft (c k : Nat) : FieldType := (zt_ft.getD c []).getD k .int
/-- which fields are final -/
def zt_fi : List (List Bool) := [[false, false, false, false, false, false], [true, false], [true, false, false], [true, true, true, true, true], [false, false, false, true, true], [true, false], [true, true, true, true, true, true, true, true, true, false, false, false, false], [true, true, true, true, true, true, true, true, true, false, true, false], [true, false], [true, true, true, true, true, true, false, false, false], [true, true, true, false, false, false, false], [true, true, true, true], [true, true, true, true, true, true, true], [false, false, false, false, false, false, false], [false, true, true, true, false, true, false, true, false, false, false, true, true, true, false, true, false, false, false, false, true, false, true, true, true, false, true, true, false, true, true, true, true, false, false, true, true, true, true, true, true, true, false, true, true, true, false]]
def za_fi (c k : Nat) : Bool := (zt_fi.getD c []).getD k false
/-- which methods are constructors -/
def zt_im : List Bool := [true, false, false, false, false, true, false, false, false, false, false, false, true, false, false, true, false, false, false, false, false, true, false, false, false, false, false, false, true, false, false, false, false, false, false, false, false, false, false, false, false, false, false, false, false, false, false, false, false, false, false, false, true, false, false, false, false, false, false, false, false, false, false, false, false, false, false, false, false, true, false, false, false, false, false, false, false, false, false, true, false, false, false, false, false, false, false, false, false, false, true, false, false, false, false, false, false, false, true, false, false, false, false, false, false, false, false, true, false, false, false, false, false, false, false, false, false, false, false, false, false, false, false, false, false, false, false, false, true, false, false, true, false, false, false, false, false, false, false, false, false, false, false, false, false, false, false, false, false, false, false, false, false, false, false, false, false, false, false, false, false, false, false, false, false, false, false, false, false, false, false, false, false, false, false, false, false, false, false, false, false, false, false, false, false, false, false, false, false, false]
def za_im (me : Nat) : Bool := zt_im.getD me false
/-- the methods whose throws their callers may see (called by plain virtual calls alone) -/
def zt_th : List Bool := [false, false, false, false, false, false, false, false, false, false, false, false, false, false, false, false, false, false, false, false, false, false, false, false, false, false, false, false, false, false, false, false, false, false, false, false, false, false, false, false, false, false, false, false, false, false, false, false, false, false, false, false, false, false, false, false, false, false, false, false, false, false, false, false, false, false, false, false, false, false, false, false, false, false, false, false, false, false, false, false, false, false, false, false, false, false, false, false, false, false, false, false, false, false, false, false, false, false, false, false, false, false, false, false, false, false, false, false, false, false, false, false, false, false, false, false, false, true, false, false, false, false, false, false, false, false, false, false, false, true, false, false, true, true, true, true, true, true, true, true, true, true, true, true, true, true, true, true, false, false, true, true, true, true, true, true, true, true, true, true, true, true, true, true, true, true, true, true, true, true, true, true, true, true, true, true, true, true, true, true, true, true, true, true, true, false, false, true, true, false]
def za_th (me : Nat) : Bool := zt_th.getD me false
/-- the kinds of arrays -/
def zt_ty : List FieldType := [.byte, .int, .long, .boolean, .object "SortPacks$Codes", .array .int]
/-- the kind of an array that holds objects of a class -/
def za_kq (c : Nat) : Option Nat := if c = 3 then some 4 else none
