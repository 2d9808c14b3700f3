/-! the code words of the methods, by their places -/
set_option maxRecDepth 100000 in
theorem zm_0 : lw_tbl[377]? = some (.code yX0_init cX0_init 2 none) := rfl
set_option maxRecDepth 100000 in
theorem zm_1 : lw_tbl[870]? = some (.code yX0_isAtEnd cX0_isAtEnd 1 (some FieldType.boolean)) := rfl
set_option maxRecDepth 100000 in
theorem zm_2 : lw_tbl[768]? = some (.code yX0_next cX0_next 3 (some FieldType.int)) := rfl
set_option maxRecDepth 100000 in
theorem zm_3 : lw_tbl[764]? = some (.code yX0_number cX0_number 6 (some FieldType.long)) := rfl
set_option maxRecDepth 100000 in
theorem zm_4 : lw_tbl[878]? = some (.code yX0_bytesTouched cX0_bytesTouched 1 (some FieldType.int)) := rfl
set_option maxRecDepth 100000 in
theorem zm_5 : lw_tbl[292]? = some (.code yX1_init cX1_init 2 none) := rfl
set_option maxRecDepth 100000 in
theorem zm_6 : lw_tbl[500]? = some (.code yX1_restart cX1_restart 1 none) := rfl
set_option maxRecDepth 100000 in
theorem zm_7 : lw_tbl[510]? = some (.code yX1_putBit cX1_putBit 2 none) := rfl
set_option maxRecDepth 100000 in
theorem zm_8 : lw_tbl[506]? = some (.code yX1_put cX1_put 5 none) := rfl
set_option maxRecDepth 100000 in
theorem zm_9 : lw_tbl[697]? = some (.code yX1_putOnes cX1_putOnes 3 none) := rfl
set_option maxRecDepth 100000 in
theorem zm_10 : lw_tbl[728]? = some (.code yX1_fillByte cX1_fillByte 2 none) := rfl
set_option maxRecDepth 100000 in
theorem zm_11 : lw_tbl[732]? = some (.code yX1_allFitted cX1_allFitted 1 (some FieldType.boolean)) := rfl
set_option maxRecDepth 100000 in
theorem zm_12 : lw_tbl[308]? = some (.code yX2_init cX2_init 1 none) := rfl
set_option maxRecDepth 100000 in
theorem zm_13 : lw_tbl[711]? = some (.code yX2_make cX2_make 7 none) := rfl
set_option maxRecDepth 100000 in
theorem zm_14 : lw_tbl[832]? = some (.code yX2_read cX2_read 6 (some FieldType.int)) := rfl
set_option maxRecDepth 100000 in
theorem zm_15 : lw_tbl[148]? = some (.code yX3_init cX3_init 1 none) := rfl
set_option maxRecDepth 100000 in
theorem zm_16 : lw_tbl[496]? = some (.code yX3_forget cX3_forget 1 none) := rfl
set_option maxRecDepth 100000 in
theorem zm_17 : lw_tbl[693]? = some (.code yX3_hasChoice cX3_hasChoice 2 (some FieldType.boolean)) := rfl
set_option maxRecDepth 100000 in
theorem zm_18 : lw_tbl[942]? = some (.code yX3_hasLength cX3_hasLength 3 (some FieldType.boolean)) := rfl
set_option maxRecDepth 100000 in
theorem zm_19 : lw_tbl[689]? = some (.code yX3_chosen cX3_chosen 2 (some FieldType.int)) := rfl
set_option maxRecDepth 100000 in
theorem zm_20 : lw_tbl[627]? = some (.code yX3_choose cX3_choose 3 none) := rfl
set_option maxRecDepth 100000 in
theorem zm_21 : lw_tbl[239]? = some (.code yX4_init cX4_init 2 none) := rfl
set_option maxRecDepth 100000 in
theorem zm_22 : lw_tbl[574]? = some (.code yX4_clear cX4_clear 1 none) := rfl
set_option maxRecDepth 100000 in
theorem zm_23 : lw_tbl[578]? = some (.code yX4_add cX4_add 2 none) := rfl
set_option maxRecDepth 100000 in
theorem zm_24 : lw_tbl[683]? = some (.code yX4_restart cX4_restart 3 none) := rfl
set_option maxRecDepth 100000 in
theorem zm_25 : lw_tbl[837]? = some (.code yX4_first cX4_first 1 (some FieldType.int)) := rfl
set_option maxRecDepth 100000 in
theorem zm_26 : lw_tbl[594]? = some (.code yX4_takeAt cX4_takeAt 3 (some FieldType.int)) := rfl
set_option maxRecDepth 100000 in
theorem zm_27 : lw_tbl[590]? = some (.code yX4_placeOf cX4_placeOf 3 (some FieldType.int)) := rfl
set_option maxRecDepth 100000 in
theorem zm_28 : lw_tbl[368]? = some (.code yX5_init cX5_init 6 none) := rfl
set_option maxRecDepth 100000 in
theorem zm_29 : lw_tbl[874]? = some (.code yX5_brokenAnswer cX5_brokenAnswer 1 (some FieldType.int)) := rfl
set_option maxRecDepth 100000 in
theorem zm_30 : lw_tbl[746]? = some (.code yX5_openRows cX5_openRows 2 (some FieldType.boolean)) := rfl
set_option maxRecDepth 100000 in
theorem zm_31 : lw_tbl[960]? = some (.code yX5_openAlone cX5_openAlone 2 (some FieldType.boolean)) := rfl
set_option maxRecDepth 100000 in
theorem zm_32 : lw_tbl[750]? = some (.code yX5_restart cX5_restart 2 none) := rfl
set_option maxRecDepth 100000 in
theorem zm_33 : lw_tbl[773]? = some (.code yX5_breaks cX5_breaks 2 (some FieldType.boolean)) := rfl
set_option maxRecDepth 100000 in
theorem zm_34 : lw_tbl[756]? = some (.code yX5_openRow cX5_openRow 7 (some FieldType.boolean)) := rfl
set_option maxRecDepth 100000 in
theorem zm_35 : lw_tbl[760]? = some (.code yX5_readRowHead cX5_readRowHead 3 (some FieldType.boolean)) := rfl
set_option maxRecDepth 100000 in
theorem zm_36 : lw_tbl[776]? = some (.code yX5_fitsHead cX5_fitsHead 2 (some FieldType.boolean)) := rfl
set_option maxRecDepth 100000 in
theorem zm_37 : lw_tbl[782]? = some (.code yX5_readRowEnd cX5_readRowEnd 5 (some FieldType.boolean)) := rfl
set_option maxRecDepth 100000 in
theorem zm_38 : lw_tbl[790]? = some (.code yX5_openBlock cX5_openBlock 3 (some FieldType.boolean)) := rfl
set_option maxRecDepth 100000 in
theorem zm_39 : lw_tbl[794]? = some (.code yX5_readHead cX5_readHead 4 (some FieldType.boolean)) := rfl
set_option maxRecDepth 100000 in
theorem zm_40 : lw_tbl[798]? = some (.code yX5_readMap cX5_readMap 5 (some FieldType.boolean)) := rfl
set_option maxRecDepth 100000 in
theorem zm_41 : lw_tbl[804]? = some (.code yX5_readChoices cX5_readChoices 5 (some FieldType.boolean)) := rfl
set_option maxRecDepth 100000 in
theorem zm_42 : lw_tbl[809]? = some (.code yX5_readChoice cX5_readChoice 5 (some FieldType.boolean)) := rfl
set_option maxRecDepth 100000 in
theorem zm_43 : lw_tbl[815]? = some (.code yX5_readLengths cX5_readLengths 5 (some FieldType.boolean)) := rfl
set_option maxRecDepth 100000 in
theorem zm_44 : lw_tbl[822]? = some (.code yX5_changedLength cX5_changedLength 6 (some FieldType.int)) := rfl
set_option maxRecDepth 100000 in
theorem zm_45 : lw_tbl[818]? = some (.code yX5_isLength cX5_isLength 1 (some FieldType.boolean)) := rfl
set_option maxRecDepth 100000 in
theorem zm_46 : lw_tbl[827]? = some (.code yX5_readNumbers cX5_readNumbers 7 (some FieldType.boolean)) := rfl
set_option maxRecDepth 100000 in
theorem zm_47 : lw_tbl[841]? = some (.code yX5_addLast cX5_addLast 5 (some FieldType.boolean)) := rfl
set_option maxRecDepth 100000 in
theorem zm_48 : lw_tbl[845]? = some (.code yX5_turnBlockBack cX5_turnBlockBack 1 (some FieldType.boolean)) := rfl
set_option maxRecDepth 100000 in
theorem zm_49 : lw_tbl[853]? = some (.code yX5_writeOut cX5_writeOut 3 (some FieldType.boolean)) := rfl
set_option maxRecDepth 100000 in
theorem zm_50 : lw_tbl[857]? = some (.code yX5_plainSize cX5_plainSize 4 (some FieldType.int)) := rfl
set_option maxRecDepth 100000 in
theorem zm_51 : lw_tbl[861]? = some (.code yX5_lengthenRuns cX5_lengthenRuns 7 (some FieldType.int)) := rfl
set_option maxRecDepth 100000 in
theorem zm_52 : lw_tbl[233]? = some (.code yX6_init cX6_init 5 none) := rfl
set_option maxRecDepth 100000 in
theorem zm_53 : lw_tbl[488]? = some (.code yX6_packAll cX6_packAll 7 (some FieldType.boolean)) := rfl
set_option maxRecDepth 100000 in
theorem zm_54 : lw_tbl[531]? = some (.code yX6_sumBetween cX6_sumBetween 5 (some FieldType.int)) := rfl
set_option maxRecDepth 100000 in
theorem zm_55 : lw_tbl[517]? = some (.code yX6_shortenRuns cX6_shortenRuns 8 (some FieldType.int)) := rfl
set_option maxRecDepth 100000 in
theorem zm_56 : lw_tbl[520]? = some (.code yX6_runFrom cX6_runFrom 3 (some FieldType.int)) := rfl
set_option maxRecDepth 100000 in
theorem zm_57 : lw_tbl[539]? = some (.code yX6_packBlock cX6_packBlock 4 none) := rfl
set_option maxRecDepth 100000 in
theorem zm_58 : lw_tbl[652]? = some (.code yX6_noteFacts cX6_noteFacts 4 none) := rfl
set_option maxRecDepth 100000 in
theorem zm_59 : lw_tbl[569]? = some (.code yX6_findSigns cX6_findSigns 2 none) := rfl
set_option maxRecDepth 100000 in
theorem zm_60 : lw_tbl[582]? = some (.code yX6_makeNumbers cX6_makeNumbers 4 none) := rfl
set_option maxRecDepth 100000 in
theorem zm_61 : lw_tbl[599]? = some (.code yX6_addDigits cX6_addDigits 3 none) := rfl
set_option maxRecDepth 100000 in
theorem zm_62 : lw_tbl[603]? = some (.code yX6_addNumber cX6_addNumber 2 none) := rfl
set_option maxRecDepth 100000 in
theorem zm_63 : lw_tbl[664]? = some (.code yX6_writeHead cX6_writeHead 2 none) := rfl
set_option maxRecDepth 100000 in
theorem zm_64 : lw_tbl[671]? = some (.code yX6_writeMap cX6_writeMap 3 none) := rfl
set_option maxRecDepth 100000 in
theorem zm_65 : lw_tbl[675]? = some (.code yX6_sixteenFrom cX6_sixteenFrom 4 (some FieldType.int)) := rfl
set_option maxRecDepth 100000 in
theorem zm_66 : lw_tbl[679]? = some (.code yX6_writeChoices cX6_writeChoices 3 none) := rfl
set_option maxRecDepth 100000 in
theorem zm_67 : lw_tbl[701]? = some (.code yX6_writeLengths cX6_writeLengths 7 none) := rfl
set_option maxRecDepth 100000 in
theorem zm_68 : lw_tbl[707]? = some (.code yX6_writeCodes cX6_writeCodes 4 none) := rfl
set_option maxRecDepth 100000 in
theorem zm_69 : lw_tbl[121]? = some (.code yX7_init cX7_init 2 none) := rfl
set_option maxRecDepth 100000 in
theorem zm_70 : lw_tbl[458]? = some (.code yX7_hasRoom cX7_hasRoom 2 (some FieldType.boolean)) := rfl
set_option maxRecDepth 100000 in
theorem zm_71 : lw_tbl[528]? = some (.code yX7_has cX7_has 2 (some FieldType.boolean)) := rfl
set_option maxRecDepth 100000 in
theorem zm_72 : lw_tbl[524]? = some (.code yX7_at cX7_at 2 (some FieldType.int)) := rfl
set_option maxRecDepth 100000 in
theorem zm_73 : lw_tbl[896]? = some (.code yX7_set cX7_set 3 none) := rfl
set_option maxRecDepth 100000 in
theorem zm_74 : lw_tbl[466]? = some (.code yX7_add cX7_add 2 none) := rfl
set_option maxRecDepth 100000 in
theorem zm_75 : lw_tbl[462]? = some (.code yX7_addNumber cX7_addNumber 3 none) := rfl
set_option maxRecDepth 100000 in
theorem zm_76 : lw_tbl[741]? = some (.code yX7_addAll cX7_addAll 3 none) := rfl
set_option maxRecDepth 100000 in
theorem zm_77 : lw_tbl[474]? = some (.code yX7_cutTo cX7_cutTo 2 none) := rfl
set_option maxRecDepth 100000 in
theorem zm_78 : lw_tbl[904]? = some (.code yX7_dropFirst cX7_dropFirst 3 none) := rfl
set_option maxRecDepth 100000 in
theorem zm_79 : lw_tbl[255]? = some (.code yX8_init cX8_init 1 none) := rfl
set_option maxRecDepth 100000 in
theorem zm_80 : lw_tbl[607]? = some (.code yX8_makeTables cX8_makeTables 6 none) := rfl
set_option maxRecDepth 100000 in
theorem zm_81 : lw_tbl[610]? = some (.code yX8_tablesFor cX8_tablesFor 1 (some FieldType.int)) := rfl
set_option maxRecDepth 100000 in
theorem zm_82 : lw_tbl[614]? = some (.code yX8_setFirstCosts cX8_setFirstCosts 12 none) := rfl
set_option maxRecDepth 100000 in
theorem zm_83 : lw_tbl[619]? = some (.code yX8_chooseAll cX8_chooseAll 9 none) := rfl
set_option maxRecDepth 100000 in
theorem zm_84 : lw_tbl[623]? = some (.code yX8_cheapest cX8_cheapest 9 (some FieldType.int)) := rfl
set_option maxRecDepth 100000 in
theorem zm_85 : lw_tbl[631]? = some (.code yX8_makeLengths cX8_makeLengths 6 none) := rfl
set_option maxRecDepth 100000 in
theorem zm_86 : lw_tbl[636]? = some (.code yX8_joinAll cX8_joinAll 6 none) := rfl
set_option maxRecDepth 100000 in
theorem zm_87 : lw_tbl[640]? = some (.code yX8_sortByWeight cX8_sortByWeight 4 none) := rfl
set_option maxRecDepth 100000 in
theorem zm_88 : lw_tbl[644]? = some (.code yX8_takeLeast cX8_takeLeast 4 (some FieldType.int)) := rfl
set_option maxRecDepth 100000 in
theorem zm_89 : lw_tbl[648]? = some (.code yX8_setLengths cX8_setLengths 6 (some FieldType.int)) := rfl
set_option maxRecDepth 100000 in
theorem zm_90 : lw_tbl[142]? = some (.code yX9_init cX9_init 1 none) := rfl
set_option maxRecDepth 100000 in
theorem zm_91 : lw_tbl[492]? = some (.code yX9_forget cX9_forget 1 none) := rfl
set_option maxRecDepth 100000 in
theorem zm_92 : lw_tbl[920]? = some (.code yX9_tells cX9_tells 2 (some FieldType.boolean)) := rfl
set_option maxRecDepth 100000 in
theorem zm_93 : lw_tbl[916]? = some (.code yX9_fact cX9_fact 3 (some FieldType.int)) := rfl
set_option maxRecDepth 100000 in
theorem zm_94 : lw_tbl[928]? = some (.code yX9_sumOf cX9_sumOf 2 (some FieldType.int)) := rfl
set_option maxRecDepth 100000 in
theorem zm_95 : lw_tbl[656]? = some (.code yX9_note cX9_note 3 none) := rfl
set_option maxRecDepth 100000 in
theorem zm_96 : lw_tbl[715]? = some (.code yX9_keepBlock cX9_keepBlock 1 none) := rfl
set_option maxRecDepth 100000 in
theorem zm_97 : lw_tbl[720]? = some (.code yX9_keepCoding cX9_keepCoding 2 none) := rfl
set_option maxRecDepth 100000 in
theorem zm_98 : lw_tbl[214]? = some (.code yX10_init cX10_init 1 none) := rfl
set_option maxRecDepth 100000 in
theorem zm_99 : lw_tbl[543]? = some (.code yX10_sortTurns cX10_sortTurns 5 none) := rfl
set_option maxRecDepth 100000 in
theorem zm_100 : lw_tbl[547]? = some (.code yX10_sortPlaces cX10_sortPlaces 3 none) := rfl
set_option maxRecDepth 100000 in
theorem zm_101 : lw_tbl[551]? = some (.code yX10_sortWaiting cX10_sortWaiting 4 none) := rfl
set_option maxRecDepth 100000 in
theorem zm_102 : lw_tbl[558]? = some (.code yX10_rankAnew cX10_rankAnew 5 none) := rfl
set_option maxRecDepth 100000 in
theorem zm_103 : lw_tbl[562]? = some (.code yX10_differ cX10_differ 5 (some FieldType.boolean)) := rfl
set_option maxRecDepth 100000 in
theorem zm_104 : lw_tbl[586]? = some (.code yX10_lastByte cX10_lastByte 5 (some FieldType.int)) := rfl
set_option maxRecDepth 100000 in
theorem zm_105 : lw_tbl[660]? = some (.code yX10_origin cX10_origin 3 (some FieldType.int)) := rfl
set_option maxRecDepth 100000 in
theorem zm_106 : lw_tbl[849]? = some (.code yX10_turnBack cX10_turnBack 7 none) := rfl
set_option maxRecDepth 100000 in
theorem zm_107 : lw_tbl[107]? = some (.code yX11_init cX11_init 3 none) := rfl
set_option maxRecDepth 100000 in
theorem zm_108 : lw_tbl[454]? = some (.code yX11_feed cX11_feed 6 (some FieldType.int)) := rfl
set_option maxRecDepth 100000 in
theorem zm_109 : lw_tbl[470]? = some (.code yX11_end cX11_end 2 (some FieldType.int)) := rfl
set_option maxRecDepth 100000 in
theorem zm_110 : lw_tbl[479]? = some (.code yX11_octets cX11_octets 4 (some FieldType.int)) := rfl
set_option maxRecDepth 100000 in
theorem zm_111 : lw_tbl[484]? = some (.code yX11_pack cX11_pack 2 (some FieldType.int)) := rfl
set_option maxRecDepth 100000 in
theorem zm_112 : lw_tbl[737]? = some (.code yX11_open cX11_open 1 (some FieldType.int)) := rfl
set_option maxRecDepth 100000 in
theorem zm_113 : lw_tbl[882]? = some (.code yX11_rule cX11_rule 1 (some FieldType.int)) := rfl
set_option maxRecDepth 100000 in
theorem zm_114 : lw_tbl[886]? = some (.code yX11_pass cX11_pass 1 (some FieldType.int)) := rfl
set_option maxRecDepth 100000 in
theorem zm_115 : lw_tbl[890]? = some (.code yX11_spoil cX11_spoil 3 (some FieldType.int)) := rfl
set_option maxRecDepth 100000 in
theorem zm_116 : lw_tbl[900]? = some (.code yX11_drop cX11_drop 2 (some FieldType.int)) := rfl
set_option maxRecDepth 100000 in
theorem zm_117 : lw_tbl[971]? = some (.code yX11_out cX11_out 2 (some FieldType.int)) := rfl
set_option maxRecDepth 100000 in
theorem zm_118 : lw_tbl[908]? = some (.code yX11_count cX11_count 2 (some FieldType.int)) := rfl
set_option maxRecDepth 100000 in
theorem zm_119 : lw_tbl[912]? = some (.code yX11_block cX11_block 3 (some FieldType.int)) := rfl
set_option maxRecDepth 100000 in
theorem zm_120 : lw_tbl[924]? = some (.code yX11_sum cX11_sum 2 (some FieldType.int)) := rfl
set_option maxRecDepth 100000 in
theorem zm_121 : lw_tbl[932]? = some (.code yX11_choice cX11_choice 2 (some FieldType.int)) := rfl
set_option maxRecDepth 100000 in
theorem zm_122 : lw_tbl[938]? = some (.code yX11_length cX11_length 3 (some FieldType.int)) := rfl
set_option maxRecDepth 100000 in
theorem zm_123 : lw_tbl[946]? = some (.code yX11_mark cX11_mark 2 (some FieldType.int)) := rfl
set_option maxRecDepth 100000 in
theorem zm_124 : lw_tbl[956]? = some (.code yX11_alone cX11_alone 3 (some FieldType.int)) := rfl
set_option maxRecDepth 100000 in
theorem zm_125 : lw_tbl[950]? = some (.code yX11_findMark cX11_findMark 9 (some FieldType.int)) := rfl
set_option maxRecDepth 100000 in
theorem zm_126 : lw_tbl[534]? = some (.code yX11_stepSum cX11_stepSum 4 (some FieldType.int)) := rfl
set_option maxRecDepth 100000 in
theorem zm_127 : lw_tbl[723]? = some (.code yX11_joinSums cX11_joinSums 2 (some FieldType.int)) := rfl
set_option maxRecDepth 100000 in
theorem zm_128 : lw_tbl[1064]? = some (.code yX12_init cX12_init 1 none) := rfl
set_option maxRecDepth 100000 in
theorem zm_129 : lw_tbl[1046]? = some (.code yX13_thrown cX13_thrown 1 (some FieldType.int)) := rfl
set_option maxRecDepth 100000 in
theorem zm_130 : lw_tbl[1235]? = some (.code yX13_in cX13_in 6 (some FieldType.boolean)) := rfl
set_option maxRecDepth 100000 in
theorem zm_131 : lw_tbl[1051]? = some (.code yX13_init cX13_init 2 none) := rfl
set_option maxRecDepth 100000 in
theorem zm_132 : lw_tbl[1227]? = some (.code yX13_feed cX13_feed 8 (some FieldType.int)) := rfl
set_option maxRecDepth 100000 in
theorem zm_133 : lw_tbl[1231]? = some (.code yX13_end cX13_end 2 (some FieldType.int)) := rfl
set_option maxRecDepth 100000 in
theorem zm_134 : lw_tbl[1239]? = some (.code yX13_octets cX13_octets 4 (some FieldType.int)) := rfl
set_option maxRecDepth 100000 in
theorem zm_135 : lw_tbl[1244]? = some (.code yX13_rule cX13_rule 1 (some FieldType.int)) := rfl
set_option maxRecDepth 100000 in
theorem zm_136 : lw_tbl[1248]? = some (.code yX13_pass cX13_pass 2 (some FieldType.int)) := rfl
set_option maxRecDepth 100000 in
theorem zm_137 : lw_tbl[1252]? = some (.code yX13_spoil cX13_spoil 3 (some FieldType.int)) := rfl
set_option maxRecDepth 100000 in
theorem zm_138 : lw_tbl[1257]? = some (.code yX13_drop cX13_drop 3 (some FieldType.int)) := rfl
set_option maxRecDepth 100000 in
theorem zm_139 : lw_tbl[1261]? = some (.code yX13_out cX13_out 2 (some FieldType.int)) := rfl
set_option maxRecDepth 100000 in
theorem zm_140 : lw_tbl[1265]? = some (.code yX13_count cX13_count 2 (some FieldType.int)) := rfl
set_option maxRecDepth 100000 in
theorem zm_141 : lw_tbl[1377]? = some (.code yX13_note cX13_note 12 none) := rfl
set_option maxRecDepth 100000 in
theorem zm_142 : lw_tbl[1273]? = some (.code yX13_toldBlocks cX13_toldBlocks 1 (some FieldType.int)) := rfl
set_option maxRecDepth 100000 in
theorem zm_143 : lw_tbl[1269]? = some (.code yX13_block cX13_block 3 (some FieldType.int)) := rfl
set_option maxRecDepth 100000 in
theorem zm_144 : lw_tbl[1278]? = some (.code yX13_sum cX13_sum 2 (some FieldType.int)) := rfl
set_option maxRecDepth 100000 in
theorem zm_145 : lw_tbl[1381]? = some (.code yX13_keepTables cX13_keepTables 5 none) := rfl
set_option maxRecDepth 100000 in
theorem zm_146 : lw_tbl[1282]? = some (.code yX13_choice cX13_choice 2 (some FieldType.int)) := rfl
set_option maxRecDepth 100000 in
theorem zm_147 : lw_tbl[1286]? = some (.code yX13_length cX13_length 3 (some FieldType.int)) := rfl
set_option maxRecDepth 100000 in
theorem zm_148 : lw_tbl[1308]? = some (.code yX13_sumOf cX13_sumOf 6 (some FieldType.int)) := rfl
set_option maxRecDepth 100000 in
theorem zm_149 : lw_tbl[1384]? = some (.code yX13_joined cX13_joined 2 (some FieldType.int)) := rfl
set_option maxRecDepth 100000 in
theorem zm_150 : lw_tbl[1299]? = some (.code yX13_putBit cX13_putBit 3 none) := rfl
set_option maxRecDepth 100000 in
theorem zm_151 : lw_tbl[1295]? = some (.code yX13_put cX13_put 5 none) := rfl
set_option maxRecDepth 100000 in
theorem zm_152 : lw_tbl[1317]? = some (.code yX13_isAhead cX13_isAhead 8 (some FieldType.boolean)) := rfl
set_option maxRecDepth 100000 in
theorem zm_153 : lw_tbl[1313]? = some (.code yX13_sortTurns cX13_sortTurns 9 none) := rfl
set_option maxRecDepth 100000 in
theorem zm_154 : lw_tbl[1321]? = some (.code yX13_findSigns cX13_findSigns 2 none) := rfl
set_option maxRecDepth 100000 in
theorem zm_155 : lw_tbl[1325]? = some (.code yX13_takeSigns cX13_takeSigns 2 none) := rfl
set_option maxRecDepth 100000 in
theorem zm_156 : lw_tbl[1337]? = some (.code yX13_number cX13_number 2 none) := rfl
set_option maxRecDepth 100000 in
theorem zm_157 : lw_tbl[1333]? = some (.code yX13_digits cX13_digits 4 none) := rfl
set_option maxRecDepth 100000 in
theorem zm_158 : lw_tbl[1329]? = some (.code yX13_makeNumbers cX13_makeNumbers 6 none) := rfl
set_option maxRecDepth 100000 in
theorem zm_159 : lw_tbl[1349]? = some (.code yX13_makeLengths cX13_makeLengths 8 none) := rfl
set_option maxRecDepth 100000 in
theorem zm_160 : lw_tbl[1353]? = some (.code yX13_leastOne cX13_leastOne 6 (some FieldType.int)) := rfl
set_option maxRecDepth 100000 in
theorem zm_161 : lw_tbl[1345]? = some (.code yX13_firstCosts cX13_firstCosts 9 none) := rfl
set_option maxRecDepth 100000 in
theorem zm_162 : lw_tbl[1341]? = some (.code yX13_chooseTables cX13_chooseTables 10 none) := rfl
set_option maxRecDepth 100000 in
theorem zm_163 : lw_tbl[1368]? = some (.code yX13_makeCodes cX13_makeCodes 6 none) := rfl
set_option maxRecDepth 100000 in
theorem zm_164 : lw_tbl[1360]? = some (.code yX13_putMap cX13_putMap 4 none) := rfl
set_option maxRecDepth 100000 in
theorem zm_165 : lw_tbl[1364]? = some (.code yX13_putChoices cX13_putChoices 4 none) := rfl
set_option maxRecDepth 100000 in
theorem zm_166 : lw_tbl[1372]? = some (.code yX13_putLengths cX13_putLengths 6 none) := rfl
set_option maxRecDepth 100000 in
theorem zm_167 : lw_tbl[1305]? = some (.code yX13_packBlock cX13_packBlock 9 (some FieldType.int)) := rfl
set_option maxRecDepth 100000 in
theorem zm_168 : lw_tbl[1290]? = some (.code yX13_pack cX13_pack 8 (some FieldType.int)) := rfl
set_option maxRecDepth 100000 in
theorem zm_169 : lw_tbl[1405]? = some (.code yX13_fail cX13_fail 2 none) := rfl
set_option maxRecDepth 100000 in
theorem zm_170 : lw_tbl[1401]? = some (.code yX13_bit cX13_bit 2 (some FieldType.int)) := rfl
set_option maxRecDepth 100000 in
theorem zm_171 : lw_tbl[1397]? = some (.code yX13_bits cX13_bits 5 (some FieldType.long)) := rfl
set_option maxRecDepth 100000 in
theorem zm_172 : lw_tbl[1414]? = some (.code yX13_readMap cX13_readMap 5 none) := rfl
set_option maxRecDepth 100000 in
theorem zm_173 : lw_tbl[1418]? = some (.code yX13_readChoices cX13_readChoices 5 none) := rfl
set_option maxRecDepth 100000 in
theorem zm_174 : lw_tbl[1423]? = some (.code yX13_readLengths cX13_readLengths 5 none) := rfl
set_option maxRecDepth 100000 in
theorem zm_175 : lw_tbl[1427]? = some (.code yX13_mustBeLength cX13_mustBeLength 2 none) := rfl
set_option maxRecDepth 100000 in
theorem zm_176 : lw_tbl[1435]? = some (.code yX13_readCode cX13_readCode 8 (some FieldType.int)) := rfl
set_option maxRecDepth 100000 in
theorem zm_177 : lw_tbl[1439]? = some (.code yX13_addBytes cX13_addBytes 4 none) := rfl
set_option maxRecDepth 100000 in
theorem zm_178 : lw_tbl[1431]? = some (.code yX13_readNumbers cX13_readNumbers 8 none) := rfl
set_option maxRecDepth 100000 in
theorem zm_179 : lw_tbl[1443]? = some (.code yX13_turnBack cX13_turnBack 4 none) := rfl
set_option maxRecDepth 100000 in
theorem zm_180 : lw_tbl[1447]? = some (.code yX13_runSize cX13_runSize 8 (some FieldType.int)) := rfl
set_option maxRecDepth 100000 in
theorem zm_181 : lw_tbl[1410]? = some (.code yX13_readBlock cX13_readBlock 10 (some FieldType.int)) := rfl
set_option maxRecDepth 100000 in
theorem zm_182 : lw_tbl[1393]? = some (.code yX13_readRow cX13_readRow 9 none) := rfl
set_option maxRecDepth 100000 in
theorem zm_183 : lw_tbl[1455]? = some (.code yX13_markAt cX13_markAt 6 (some FieldType.int)) := rfl
set_option maxRecDepth 100000 in
theorem zm_184 : lw_tbl[1451]? = some (.code yX13_mark cX13_mark 3 (some FieldType.int)) := rfl
set_option maxRecDepth 100000 in
theorem zm_185 : lw_tbl[554]? = some (.code yJ7_fill_53178 cJ7_fill_53178 4 none) := rfl
set_option maxRecDepth 100000 in
theorem zm_186 : lw_tbl[963]? = some (.code yL_cell cL_cell 2 (some FieldType.int)) := rfl
theorem zt_cd0 : ∀ q ∈ zt_m0, Cond.code q.1 q.2.1 q.2.2.1 q.2.2.2.1 ∈ za_tg := List.forall_mem_cons.mpr ⟨za_tg.of zm_0 rfl, List.forall_mem_cons.mpr ⟨za_tg.of zm_1 rfl, List.forall_mem_cons.mpr ⟨za_tg.of zm_2 rfl, List.forall_mem_cons.mpr ⟨za_tg.of zm_3 rfl, List.forall_mem_cons.mpr ⟨za_tg.of zm_4 rfl, List.forall_mem_cons.mpr ⟨za_tg.of zm_5 rfl, List.forall_mem_cons.mpr ⟨za_tg.of zm_6 rfl, List.forall_mem_cons.mpr ⟨za_tg.of zm_7 rfl, List.forall_mem_cons.mpr ⟨za_tg.of zm_8 rfl, List.forall_mem_cons.mpr ⟨za_tg.of zm_9 rfl, List.forall_mem_cons.mpr ⟨za_tg.of zm_10 rfl, List.forall_mem_cons.mpr ⟨za_tg.of zm_11 rfl, List.forall_mem_cons.mpr ⟨za_tg.of zm_12 rfl, List.forall_mem_cons.mpr ⟨za_tg.of zm_13 rfl, List.forall_mem_cons.mpr ⟨za_tg.of zm_14 rfl, List.forall_mem_cons.mpr ⟨za_tg.of zm_15 rfl, List.forall_mem_cons.mpr ⟨za_tg.of zm_16 rfl, List.forall_mem_cons.mpr ⟨za_tg.of zm_17 rfl, List.forall_mem_cons.mpr ⟨za_tg.of zm_18 rfl, List.forall_mem_cons.mpr ⟨za_tg.of zm_19 rfl, List.forall_mem_cons.mpr ⟨za_tg.of zm_20 rfl, List.forall_mem_cons.mpr ⟨za_tg.of zm_21 rfl, List.forall_mem_cons.mpr ⟨za_tg.of zm_22 rfl, List.forall_mem_cons.mpr ⟨za_tg.of zm_23 rfl, List.forall_mem_cons.mpr ⟨za_tg.of zm_24 rfl, List.forall_mem_cons.mpr ⟨za_tg.of zm_25 rfl, List.forall_mem_cons.mpr ⟨za_tg.of zm_26 rfl, List.forall_mem_cons.mpr ⟨za_tg.of zm_27 rfl, List.forall_mem_cons.mpr ⟨za_tg.of zm_28 rfl, List.forall_mem_cons.mpr ⟨za_tg.of zm_29 rfl, List.forall_mem_cons.mpr ⟨za_tg.of zm_30 rfl, List.forall_mem_cons.mpr ⟨za_tg.of zm_31 rfl, List.forall_mem_cons.mpr ⟨za_tg.of zm_32 rfl, List.forall_mem_cons.mpr ⟨za_tg.of zm_33 rfl, List.forall_mem_cons.mpr ⟨za_tg.of zm_34 rfl, List.forall_mem_cons.mpr ⟨za_tg.of zm_35 rfl, List.forall_mem_cons.mpr ⟨za_tg.of zm_36 rfl, List.forall_mem_cons.mpr ⟨za_tg.of zm_37 rfl, List.forall_mem_cons.mpr ⟨za_tg.of zm_38 rfl, List.forall_mem_cons.mpr ⟨za_tg.of zm_39 rfl, fun _ h => absurd h List.not_mem_nil⟩⟩⟩⟩⟩⟩⟩⟩⟩⟩⟩⟩⟩⟩⟩⟩⟩⟩⟩⟩⟩⟩⟩⟩⟩⟩⟩⟩⟩⟩⟩⟩⟩⟩⟩⟩⟩⟩⟩⟩
theorem zt_cd1 : ∀ q ∈ zt_m1, Cond.code q.1 q.2.1 q.2.2.1 q.2.2.2.1 ∈ za_tg := List.forall_mem_cons.mpr ⟨za_tg.of zm_40 rfl, List.forall_mem_cons.mpr ⟨za_tg.of zm_41 rfl, List.forall_mem_cons.mpr ⟨za_tg.of zm_42 rfl, List.forall_mem_cons.mpr ⟨za_tg.of zm_43 rfl, List.forall_mem_cons.mpr ⟨za_tg.of zm_44 rfl, List.forall_mem_cons.mpr ⟨za_tg.of zm_45 rfl, List.forall_mem_cons.mpr ⟨za_tg.of zm_46 rfl, List.forall_mem_cons.mpr ⟨za_tg.of zm_47 rfl, List.forall_mem_cons.mpr ⟨za_tg.of zm_48 rfl, List.forall_mem_cons.mpr ⟨za_tg.of zm_49 rfl, List.forall_mem_cons.mpr ⟨za_tg.of zm_50 rfl, List.forall_mem_cons.mpr ⟨za_tg.of zm_51 rfl, List.forall_mem_cons.mpr ⟨za_tg.of zm_52 rfl, List.forall_mem_cons.mpr ⟨za_tg.of zm_53 rfl, List.forall_mem_cons.mpr ⟨za_tg.of zm_54 rfl, List.forall_mem_cons.mpr ⟨za_tg.of zm_55 rfl, List.forall_mem_cons.mpr ⟨za_tg.of zm_56 rfl, List.forall_mem_cons.mpr ⟨za_tg.of zm_57 rfl, List.forall_mem_cons.mpr ⟨za_tg.of zm_58 rfl, List.forall_mem_cons.mpr ⟨za_tg.of zm_59 rfl, List.forall_mem_cons.mpr ⟨za_tg.of zm_60 rfl, List.forall_mem_cons.mpr ⟨za_tg.of zm_61 rfl, List.forall_mem_cons.mpr ⟨za_tg.of zm_62 rfl, List.forall_mem_cons.mpr ⟨za_tg.of zm_63 rfl, List.forall_mem_cons.mpr ⟨za_tg.of zm_64 rfl, List.forall_mem_cons.mpr ⟨za_tg.of zm_65 rfl, List.forall_mem_cons.mpr ⟨za_tg.of zm_66 rfl, List.forall_mem_cons.mpr ⟨za_tg.of zm_67 rfl, List.forall_mem_cons.mpr ⟨za_tg.of zm_68 rfl, List.forall_mem_cons.mpr ⟨za_tg.of zm_69 rfl, List.forall_mem_cons.mpr ⟨za_tg.of zm_70 rfl, List.forall_mem_cons.mpr ⟨za_tg.of zm_71 rfl, List.forall_mem_cons.mpr ⟨za_tg.of zm_72 rfl, List.forall_mem_cons.mpr ⟨za_tg.of zm_73 rfl, List.forall_mem_cons.mpr ⟨za_tg.of zm_74 rfl, List.forall_mem_cons.mpr ⟨za_tg.of zm_75 rfl, List.forall_mem_cons.mpr ⟨za_tg.of zm_76 rfl, List.forall_mem_cons.mpr ⟨za_tg.of zm_77 rfl, List.forall_mem_cons.mpr ⟨za_tg.of zm_78 rfl, List.forall_mem_cons.mpr ⟨za_tg.of zm_79 rfl, fun _ h => absurd h List.not_mem_nil⟩⟩⟩⟩⟩⟩⟩⟩⟩⟩⟩⟩⟩⟩⟩⟩⟩⟩⟩⟩⟩⟩⟩⟩⟩⟩⟩⟩⟩⟩⟩⟩⟩⟩⟩⟩⟩⟩⟩⟩
theorem zt_cd2 : ∀ q ∈ zt_m2, Cond.code q.1 q.2.1 q.2.2.1 q.2.2.2.1 ∈ za_tg := List.forall_mem_cons.mpr ⟨za_tg.of zm_80 rfl, List.forall_mem_cons.mpr ⟨za_tg.of zm_81 rfl, List.forall_mem_cons.mpr ⟨za_tg.of zm_82 rfl, List.forall_mem_cons.mpr ⟨za_tg.of zm_83 rfl, List.forall_mem_cons.mpr ⟨za_tg.of zm_84 rfl, List.forall_mem_cons.mpr ⟨za_tg.of zm_85 rfl, List.forall_mem_cons.mpr ⟨za_tg.of zm_86 rfl, List.forall_mem_cons.mpr ⟨za_tg.of zm_87 rfl, List.forall_mem_cons.mpr ⟨za_tg.of zm_88 rfl, List.forall_mem_cons.mpr ⟨za_tg.of zm_89 rfl, List.forall_mem_cons.mpr ⟨za_tg.of zm_90 rfl, List.forall_mem_cons.mpr ⟨za_tg.of zm_91 rfl, List.forall_mem_cons.mpr ⟨za_tg.of zm_92 rfl, List.forall_mem_cons.mpr ⟨za_tg.of zm_93 rfl, List.forall_mem_cons.mpr ⟨za_tg.of zm_94 rfl, List.forall_mem_cons.mpr ⟨za_tg.of zm_95 rfl, List.forall_mem_cons.mpr ⟨za_tg.of zm_96 rfl, List.forall_mem_cons.mpr ⟨za_tg.of zm_97 rfl, List.forall_mem_cons.mpr ⟨za_tg.of zm_98 rfl, List.forall_mem_cons.mpr ⟨za_tg.of zm_99 rfl, List.forall_mem_cons.mpr ⟨za_tg.of zm_100 rfl, List.forall_mem_cons.mpr ⟨za_tg.of zm_101 rfl, List.forall_mem_cons.mpr ⟨za_tg.of zm_102 rfl, List.forall_mem_cons.mpr ⟨za_tg.of zm_103 rfl, List.forall_mem_cons.mpr ⟨za_tg.of zm_104 rfl, List.forall_mem_cons.mpr ⟨za_tg.of zm_105 rfl, List.forall_mem_cons.mpr ⟨za_tg.of zm_106 rfl, List.forall_mem_cons.mpr ⟨za_tg.of zm_107 rfl, List.forall_mem_cons.mpr ⟨za_tg.of zm_108 rfl, List.forall_mem_cons.mpr ⟨za_tg.of zm_109 rfl, List.forall_mem_cons.mpr ⟨za_tg.of zm_110 rfl, List.forall_mem_cons.mpr ⟨za_tg.of zm_111 rfl, List.forall_mem_cons.mpr ⟨za_tg.of zm_112 rfl, List.forall_mem_cons.mpr ⟨za_tg.of zm_113 rfl, List.forall_mem_cons.mpr ⟨za_tg.of zm_114 rfl, List.forall_mem_cons.mpr ⟨za_tg.of zm_115 rfl, List.forall_mem_cons.mpr ⟨za_tg.of zm_116 rfl, List.forall_mem_cons.mpr ⟨za_tg.of zm_117 rfl, List.forall_mem_cons.mpr ⟨za_tg.of zm_118 rfl, List.forall_mem_cons.mpr ⟨za_tg.of zm_119 rfl, fun _ h => absurd h List.not_mem_nil⟩⟩⟩⟩⟩⟩⟩⟩⟩⟩⟩⟩⟩⟩⟩⟩⟩⟩⟩⟩⟩⟩⟩⟩⟩⟩⟩⟩⟩⟩⟩⟩⟩⟩⟩⟩⟩⟩⟩⟩
theorem zt_cd3 : ∀ q ∈ zt_m3, Cond.code q.1 q.2.1 q.2.2.1 q.2.2.2.1 ∈ za_tg := List.forall_mem_cons.mpr ⟨za_tg.of zm_120 rfl, List.forall_mem_cons.mpr ⟨za_tg.of zm_121 rfl, List.forall_mem_cons.mpr ⟨za_tg.of zm_122 rfl, List.forall_mem_cons.mpr ⟨za_tg.of zm_123 rfl, List.forall_mem_cons.mpr ⟨za_tg.of zm_124 rfl, List.forall_mem_cons.mpr ⟨za_tg.of zm_125 rfl, List.forall_mem_cons.mpr ⟨za_tg.of zm_126 rfl, List.forall_mem_cons.mpr ⟨za_tg.of zm_127 rfl, List.forall_mem_cons.mpr ⟨za_tg.of zm_128 rfl, List.forall_mem_cons.mpr ⟨za_tg.of zm_129 rfl, List.forall_mem_cons.mpr ⟨za_tg.of zm_130 rfl, List.forall_mem_cons.mpr ⟨za_tg.of zm_131 rfl, List.forall_mem_cons.mpr ⟨za_tg.of zm_132 rfl, List.forall_mem_cons.mpr ⟨za_tg.of zm_133 rfl, List.forall_mem_cons.mpr ⟨za_tg.of zm_134 rfl, List.forall_mem_cons.mpr ⟨za_tg.of zm_135 rfl, List.forall_mem_cons.mpr ⟨za_tg.of zm_136 rfl, List.forall_mem_cons.mpr ⟨za_tg.of zm_137 rfl, List.forall_mem_cons.mpr ⟨za_tg.of zm_138 rfl, List.forall_mem_cons.mpr ⟨za_tg.of zm_139 rfl, List.forall_mem_cons.mpr ⟨za_tg.of zm_140 rfl, List.forall_mem_cons.mpr ⟨za_tg.of zm_141 rfl, List.forall_mem_cons.mpr ⟨za_tg.of zm_142 rfl, List.forall_mem_cons.mpr ⟨za_tg.of zm_143 rfl, List.forall_mem_cons.mpr ⟨za_tg.of zm_144 rfl, List.forall_mem_cons.mpr ⟨za_tg.of zm_145 rfl, List.forall_mem_cons.mpr ⟨za_tg.of zm_146 rfl, List.forall_mem_cons.mpr ⟨za_tg.of zm_147 rfl, List.forall_mem_cons.mpr ⟨za_tg.of zm_148 rfl, List.forall_mem_cons.mpr ⟨za_tg.of zm_149 rfl, List.forall_mem_cons.mpr ⟨za_tg.of zm_150 rfl, List.forall_mem_cons.mpr ⟨za_tg.of zm_151 rfl, List.forall_mem_cons.mpr ⟨za_tg.of zm_152 rfl, List.forall_mem_cons.mpr ⟨za_tg.of zm_153 rfl, List.forall_mem_cons.mpr ⟨za_tg.of zm_154 rfl, List.forall_mem_cons.mpr ⟨za_tg.of zm_155 rfl, List.forall_mem_cons.mpr ⟨za_tg.of zm_156 rfl, List.forall_mem_cons.mpr ⟨za_tg.of zm_157 rfl, List.forall_mem_cons.mpr ⟨za_tg.of zm_158 rfl, List.forall_mem_cons.mpr ⟨za_tg.of zm_159 rfl, fun _ h => absurd h List.not_mem_nil⟩⟩⟩⟩⟩⟩⟩⟩⟩⟩⟩⟩⟩⟩⟩⟩⟩⟩⟩⟩⟩⟩⟩⟩⟩⟩⟩⟩⟩⟩⟩⟩⟩⟩⟩⟩⟩⟩⟩⟩
theorem zt_cd4 : ∀ q ∈ zt_m4, Cond.code q.1 q.2.1 q.2.2.1 q.2.2.2.1 ∈ za_tg := List.forall_mem_cons.mpr ⟨za_tg.of zm_160 rfl, List.forall_mem_cons.mpr ⟨za_tg.of zm_161 rfl, List.forall_mem_cons.mpr ⟨za_tg.of zm_162 rfl, List.forall_mem_cons.mpr ⟨za_tg.of zm_163 rfl, List.forall_mem_cons.mpr ⟨za_tg.of zm_164 rfl, List.forall_mem_cons.mpr ⟨za_tg.of zm_165 rfl, List.forall_mem_cons.mpr ⟨za_tg.of zm_166 rfl, List.forall_mem_cons.mpr ⟨za_tg.of zm_167 rfl, List.forall_mem_cons.mpr ⟨za_tg.of zm_168 rfl, List.forall_mem_cons.mpr ⟨za_tg.of zm_169 rfl, List.forall_mem_cons.mpr ⟨za_tg.of zm_170 rfl, List.forall_mem_cons.mpr ⟨za_tg.of zm_171 rfl, List.forall_mem_cons.mpr ⟨za_tg.of zm_172 rfl, List.forall_mem_cons.mpr ⟨za_tg.of zm_173 rfl, List.forall_mem_cons.mpr ⟨za_tg.of zm_174 rfl, List.forall_mem_cons.mpr ⟨za_tg.of zm_175 rfl, List.forall_mem_cons.mpr ⟨za_tg.of zm_176 rfl, List.forall_mem_cons.mpr ⟨za_tg.of zm_177 rfl, List.forall_mem_cons.mpr ⟨za_tg.of zm_178 rfl, List.forall_mem_cons.mpr ⟨za_tg.of zm_179 rfl, List.forall_mem_cons.mpr ⟨za_tg.of zm_180 rfl, List.forall_mem_cons.mpr ⟨za_tg.of zm_181 rfl, List.forall_mem_cons.mpr ⟨za_tg.of zm_182 rfl, List.forall_mem_cons.mpr ⟨za_tg.of zm_183 rfl, List.forall_mem_cons.mpr ⟨za_tg.of zm_184 rfl, List.forall_mem_cons.mpr ⟨za_tg.of zm_185 rfl, List.forall_mem_cons.mpr ⟨za_tg.of zm_186 rfl, fun _ h => absurd h List.not_mem_nil⟩⟩⟩⟩⟩⟩⟩⟩⟩⟩⟩⟩⟩⟩⟩⟩⟩⟩⟩⟩⟩⟩⟩⟩⟩⟩⟩
theorem zt_cd : ∀ q ∈ zt_mp0, Cond.code q.1 q.2.1 q.2.2.1 q.2.2.2.1 ∈ za_tg := List.forall_mem_append.mpr ⟨zt_cd0, List.forall_mem_append.mpr ⟨zt_cd1, List.forall_mem_append.mpr ⟨zt_cd2, List.forall_mem_append.mpr ⟨zt_cd3, zt_cd4⟩⟩⟩⟩
