/-- a method: name, code, places for locals, what it returns, its kind (0 static, 1 virtual, 2 constructor), parameters, the places of its words (code, its class initialized, static or instanceMethod, selects) -/
abbrev gM : Type := MethodName × ByteArray × Nat × Option FieldType × Nat × Nat × List Nat
def gMt0 : List gM := [(yX9_init, prog_1_method_1_code, 2, none, 2, 0, [87, 63, 86, 0]),
  (yX2_init, prog_4_method_1_code, 1, none, 2, 0, [95, 64, 94, 0]),
  (yX6_init, prog_8_method_1_code, 1, none, 2, 0, [123, 65, 122, 0]),
  (yX5_init, prog_7_method_1_code, 1, none, 2, 0, [168, 66, 167, 0]),
  (yX3_init, prog_5_method_1_code, 3, none, 2, 2, [204, 67, 203, 0]),
  (yX1_init, prog_3_method_1_code, 4, none, 2, 3, [237, 68, 236, 0]),
  (yX8_init, prog_10_method_1_code, 2, none, 2, 1, [274, 69, 273, 0]),
  (yX0_init, prog_2_method_1_code, 1, none, 2, 0, [292, 70, 291, 0]),
  (yX4_init, prog_6_method_1_code, 1, none, 2, 0, [319, 71, 318, 0]),
  (yJ0_length_8abf5, prog_17_method_54_code, 1, (some FieldType.int), 1, 0, [338, 72, 336, 337]),
  (yJ0_coder_7d493, prog_17_method_152_code, 1, (some FieldType.byte), 1, 0, [342, 72, 340, 341]),
  (yJ0_charAt_5068e, prog_17_method_56_code, 2, (some FieldType.char), 1, 1, [348, 72, 346, 347]),
  (yJ0_isLatin1_aae02, prog_17_method_154_code, 1, (some FieldType.boolean), 1, 0, [352, 72, 350, 351]),
  (yJ1_charAt_3b067, prog_18_method_2_code, 2, (some FieldType.char), 0, 2, [355, 73, 354, 0]),
  (yJ0_checkIndex_df160, prog_17_method_155_code, 2, none, 0, 2, [358, 72, 357, 0]),
  (yJ3_checkIndex_8e157, prog_22_method_11_code, 3, (some FieldType.int), 0, 3, [363, 74, 362, 0]),
  (yJ2_charAt_3b067, prog_19_method_83_code, 2, (some FieldType.char), 0, 2, [366, 75, 365, 0]),
  (yJ2_checkIndex_2214a, prog_19_method_91_code, 2, none, 0, 2, [369, 75, 368, 0]),
  (yJ2_length_9d52b, prog_19_method_6_code, 1, (some FieldType.int), 0, 1, [372, 75, 371, 0]),
  (yJ2_getChar_3b067, prog_19_method_5_code, 2, (some FieldType.char), 0, 2, [376, 75, 375, 0]),
  (yX5_put, prog_7_method_3_code, 2, none, 1, 1, [386, 66, 384, 385]),
  (yX5_readText, prog_7_method_6_code, 2, (some FieldType.int), 1, 0, [390, 66, 388, 389]),
  (yX5_advance, prog_7_method_16_code, 2, none, 1, 0, [394, 66, 393, 0]),
  (yX5_isLetter, prog_7_method_20_code, 2, (some FieldType.boolean), 1, 1, [398, 66, 397, 1]),
  (yX5_takeWord, prog_7_method_17_code, 2, none, 1, 0, [402, 66, 401, 2]),
  (yX5_wordOf, prog_7_method_23_code, 1, (some (FieldType.object "java/lang/String")), 0, 1, [405, 66, 404, 0]),
  (yX5_isSpelt, prog_7_method_18_code, 3, (some FieldType.boolean), 1, 1, [421, 66, 420, 3]),
  (yX5_isDigit, prog_7_method_21_code, 2, (some FieldType.boolean), 1, 1, [427, 66, 426, 4]),
  (yX5_takeNumber, prog_7_method_19_code, 1, none, 1, 0, [431, 66, 430, 5]),
  (yX5_isSign, prog_7_method_22_code, 1, (some FieldType.boolean), 0, 1, [434, 66, 433, 0]),
  (yX5_readEither, prog_7_method_7_code, 4, (some FieldType.boolean), 1, 1, [438, 66, 437, 6]),
  (yX5_readBoth, prog_7_method_8_code, 4, (some FieldType.boolean), 1, 1, [442, 66, 441, 7]),
  (yX5_readDenied, prog_7_method_9_code, 4, (some FieldType.boolean), 1, 1, [446, 66, 445, 8]),
  (yX5_readBehind, prog_7_method_10_code, 4, (some FieldType.boolean), 1, 2, [450, 66, 449, 9]),
  (yX5_readOne, prog_7_method_13_code, 2, (some FieldType.boolean), 1, 1, [454, 66, 453, 10]),
  (yX5_readInside, prog_7_method_14_code, 2, (some FieldType.boolean), 1, 1, [458, 66, 457, 11]),
  (yX5_step, prog_7_method_15_code, 2, none, 1, 1, [462, 66, 461, 12]),
  (yX5_readSum, prog_7_method_11_code, 5, (some FieldType.boolean), 1, 1, [466, 66, 465, 13]),
  (yX5_readTerm, prog_7_method_12_code, 4, (some FieldType.boolean), 1, 1, [470, 66, 469, 14]),
  (yX5_lastText, prog_7_method_5_code, 1, (some (FieldType.object "NobodyFirst$Text")), 1, 0, [474, 66, 472, 473])]
def gMt1 : List gM := [(yJ7_copyOf_59c91, prog_21_method_123_code, 3, (some (FieldType.array FieldType.int)), 0, 2, [479, 77, 478, 0]),
  (yX7_init, prog_9_method_1_code, 4, none, 2, 3, [495, 76, 494, 0]),
  (yX3_add, prog_5_method_2_code, 2, (some FieldType.int), 1, 1, [511, 67, 509, 510]),
  (yX5_empty, prog_7_method_4_code, 1, none, 1, 0, [515, 66, 513, 514]),
  (yX9_tenth, prog_1_method_2_code, 4, (some FieldType.int), 1, 3, [547, 63, 545, 546]),
  (yX2_add, prog_4_method_2_code, 4, (some FieldType.int), 1, 3, [551, 64, 549, 550]),
  (yX9_rider, prog_1_method_3_code, 5, (some FieldType.int), 1, 4, [555, 63, 553, 554]),
  (yX6_add, prog_8_method_2_code, 5, (some FieldType.int), 1, 4, [559, 65, 557, 558]),
  (yX9_isPower, prog_1_method_32_code, 1, (some FieldType.boolean), 0, 1, [562, 63, 561, 0]),
  (yX9_isStore, prog_1_method_33_code, 1, (some FieldType.boolean), 0, 1, [565, 63, 564, 0]),
  (yX9_set, prog_1_method_4_code, 6, (some FieldType.int), 1, 3, [569, 63, 567, 568]),
  (yX6_has, prog_8_method_3_code, 2, (some FieldType.boolean), 1, 1, [573, 65, 571, 572]),
  (yX9_told, prog_1_method_5_code, 4, (some FieldType.int), 1, 3, [579, 63, 577, 578]),
  (yX6_works, prog_8_method_7_code, 5, (some FieldType.boolean), 1, 3, [583, 65, 581, 582]),
  (yX6_stays, prog_8_method_8_code, 3, (some FieldType.int), 1, 1, [587, 65, 585, 586]),
  (yX6_ends, prog_8_method_9_code, 3, (some FieldType.int), 1, 1, [591, 65, 589, 590]),
  (yX9_house, prog_1_method_6_code, 2, (some FieldType.int), 1, 1, [598, 63, 596, 597]),
  (yX6_ofHouse, prog_8_method_6_code, 4, (some FieldType.int), 1, 1, [602, 65, 600, 601]),
  (yX9_feed, prog_1_method_7_code, 5, (some FieldType.int), 1, 2, [606, 63, 604, 605]),
  (yX5_room, prog_7_method_2_code, 1, (some FieldType.int), 1, 0, [610, 66, 608, 609]),
  (yX9_text, prog_1_method_8_code, 3, (some FieldType.int), 1, 0, [614, 63, 612, 613]),
  (yX9_force, prog_1_method_9_code, 3, (some FieldType.int), 1, 1, [618, 63, 616, 617]),
  (yX9_says, prog_1_method_10_code, 5, (some FieldType.int), 1, 4, [622, 63, 620, 621]),
  (yX9_isSeat, prog_1_method_36_code, 4, (some FieldType.boolean), 1, 3, [626, 63, 625, 15]),
  (yX2_has, prog_4_method_3_code, 2, (some FieldType.boolean), 1, 1, [630, 64, 628, 629]),
  (yX3_comesTo, prog_5_method_3_code, 6, (some FieldType.int), 1, 5, [634, 67, 632, 633]),
  (yX2_sheltered, prog_4_method_8_code, 3, (some FieldType.int), 1, 2, [638, 64, 636, 637]),
  (yX2_left, prog_4_method_7_code, 2, (some FieldType.int), 1, 1, [642, 64, 640, 641]),
  (yX3_valueOf, prog_5_method_5_code, 8, (some FieldType.int), 1, 1, [646, 67, 645, 16]),
  (yX7_to, prog_9_method_3_code, 2, (some FieldType.int), 1, 1, [650, 76, 648, 649]),
  (yX7_from, prog_9_method_2_code, 2, (some FieldType.int), 1, 1, [654, 76, 652, 653]),
  (yX3_joined, prog_5_method_6_code, 3, (some FieldType.int), 0, 3, [657, 67, 656, 0]),
  (yX9_within, prog_1_method_35_code, 3, (some FieldType.int), 0, 3, [660, 63, 659, 0]),
  (yX9_ride, prog_1_method_11_code, 5, (some FieldType.int), 1, 3, [666, 63, 664, 665]),
  (yX9_isRide, prog_1_method_37_code, 3, (some FieldType.boolean), 1, 2, [670, 63, 669, 17]),
  (yX6_isGroup, prog_8_method_4_code, 2, (some FieldType.boolean), 1, 1, [674, 65, 672, 673]),
  (yX2_isSpan, prog_4_method_4_code, 2, (some FieldType.boolean), 1, 1, [678, 64, 676, 677]),
  (yX2_spanFrom, prog_4_method_5_code, 2, (some FieldType.int), 1, 1, [682, 64, 680, 681]),
  (yX2_spanTo, prog_4_method_6_code, 2, (some FieldType.int), 1, 1, [686, 64, 684, 685]),
  (yX1_rideAll, prog_3_method_4_code, 5, (some FieldType.int), 1, 2, [690, 68, 688, 689])]
def gMt2 : List gM := [(yX1_begin, prog_3_method_2_code, 3, none, 1, 1, [694, 68, 692, 693]),
  (yX1_go, prog_3_method_3_code, 3, none, 1, 1, [700, 68, 698, 699]),
  (yX1_someWorks, prog_3_method_6_code, 3, (some FieldType.boolean), 1, 1, [705, 68, 704, 18]),
  (yX1_takeTurns, prog_3_method_7_code, 5, none, 1, 1, [710, 68, 709, 19]),
  (yX1_tire, prog_3_method_8_code, 7, none, 1, 1, [716, 68, 715, 20]),
  (yX1_fallBack, prog_3_method_9_code, 3, none, 1, 0, [721, 68, 720, 21]),
  (yX1_left, prog_3_method_5_code, 3, (some FieldType.int), 1, 0, [725, 68, 723, 724]),
  (yX9_spent, prog_1_method_12_code, 4, (some FieldType.long), 1, 3, [729, 63, 727, 728]),
  (yX9_ridden, prog_1_method_13_code, 4, (some FieldType.int), 1, 2, [734, 63, 732, 733]),
  (yX9_caught, prog_1_method_14_code, 9, (some FieldType.long), 1, 5, [738, 63, 736, 737]),
  (yX9_isChase, prog_1_method_38_code, 5, (some FieldType.boolean), 1, 4, [742, 63, 741, 22]),
  (yX9_beginChase, prog_1_method_39_code, 3, none, 1, 2, [746, 63, 745, 23]),
  (yX9_gained, prog_1_method_40_code, 2, (some FieldType.int), 1, 1, [753, 63, 752, 24]),
  (yX9_worth, prog_1_method_15_code, 4, (some FieldType.long), 1, 3, [758, 63, 756, 757]),
  (yX3_loss, prog_5_method_4_code, 5, (some FieldType.int), 1, 3, [762, 67, 760, 761]),
  (yX9_turns, prog_1_method_16_code, 8, (some FieldType.long), 1, 3, [767, 63, 765, 766]),
  (yX9_lossBehind, prog_1_method_41_code, 7, (some FieldType.int), 1, 3, [771, 63, 770, 25]),
  (yX9_game, prog_1_method_17_code, 6, (some FieldType.int), 1, 3, [775, 63, 773, 774]),
  (yJ6_bitCount_0f7a4, prog_14_method_49_code, 1, (some FieldType.int), 0, 1, [778, 81, 777, 0]),
  (yX9_isSheet, prog_1_method_34_code, 1, (some FieldType.boolean), 0, 1, [784, 63, 783, 0]),
  (yX4_isMissing, prog_6_method_2_code, 1, (some FieldType.boolean), 1, 0, [788, 71, 786, 787]),
  (yX9_restsOf, prog_1_method_43_code, 4, (some FieldType.int), 0, 2, [791, 63, 790, 0]),
  (yX9_isRest, prog_1_method_44_code, 5, (some FieldType.boolean), 0, 3, [794, 63, 793, 0]),
  (yX9_goodOf, prog_1_method_45_code, 9, (some FieldType.int), 0, 2, [797, 63, 796, 0]),
  (yX9_goes, prog_1_method_18_code, 4, (some FieldType.int), 1, 2, [801, 63, 799, 800]),
  (yX9_getsAway, prog_1_method_42_code, 6, (some FieldType.boolean), 1, 3, [805, 63, 804, 26]),
  (yX9_train, prog_1_method_19_code, 4, (some FieldType.int), 1, 2, [809, 63, 807, 808]),
  (yX8_search, prog_10_method_2_code, 2, none, 1, 1, [813, 69, 811, 812]),
  (yX8_tryAll, prog_10_method_3_code, 7, none, 1, 3, [817, 69, 816, 27]),
  (yX9_split, prog_1_method_20_code, 3, (some FieldType.int), 1, 2, [822, 63, 820, 821]),
  (yX9_film, prog_1_method_21_code, 5, (some FieldType.int), 1, 3, [826, 63, 824, 825]),
  (yX9_wrong, prog_1_method_22_code, 5, (some FieldType.int), 1, 2, [830, 63, 828, 829]),
  (yX6_someFilmed, prog_8_method_10_code, 4, (some FieldType.boolean), 1, 2, [834, 65, 832, 833]),
  (yX9_clock, prog_1_method_23_code, 12, (some FieldType.long), 1, 5, [838, 63, 836, 837]),
  (yX9_image, prog_1_method_24_code, 1, (some FieldType.int), 1, 0, [843, 63, 841, 842]),
  (yX0_keep, prog_2_method_2_code, 3, none, 1, 2, [847, 70, 845, 846]),
  (yX9_back, prog_1_method_25_code, 1, (some FieldType.int), 1, 0, [852, 63, 850, 851]),
  (yX0_layBack, prog_2_method_3_code, 3, none, 1, 2, [856, 70, 854, 855]),
  (yX9_count, prog_1_method_26_code, 2, (some FieldType.int), 1, 1, [860, 63, 858, 859]),
  (yX6_allFilmed, prog_8_method_11_code, 3, (some FieldType.int), 1, 0, [864, 65, 862, 863])]
def gMt3 : List gM := [(yJ13_bitCount_95d88, prog_15_method_50_code, 2, (some FieldType.int), 0, 1, [867, 82, 866, 0]),
  (yX6_allStores, prog_8_method_12_code, 3, (some FieldType.int), 1, 0, [874, 65, 872, 873]),
  (yX9_sheet, prog_1_method_27_code, 4, (some FieldType.int), 1, 3, [878, 63, 876, 877]),
  (yX4_become, prog_6_method_3_code, 3, none, 1, 2, [882, 71, 880, 881]),
  (yJ7_fill_53178, prog_21_method_103_code, 4, none, 0, 2, [885, 77, 884, 0]),
  (yX9_cell, prog_1_method_28_code, 5, (some FieldType.int), 1, 3, [889, 63, 887, 888]),
  (yX4_reaches, prog_6_method_4_code, 3, (some FieldType.boolean), 1, 2, [893, 71, 891, 892]),
  (yX4_put, prog_6_method_5_code, 3, none, 1, 2, [897, 71, 895, 896]),
  (yX9_copy, prog_1_method_29_code, 8, (some FieldType.int), 1, 5, [901, 63, 899, 900]),
  (yX9_tenths, prog_1_method_30_code, 9, (some FieldType.int), 1, 4, [906, 63, 904, 905]),
  (yX9_taken, prog_1_method_31_code, 3, (some FieldType.int), 1, 2, [910, 63, 908, 909]),
  (yX6_isUnder, prog_8_method_5_code, 5, (some FieldType.boolean), 1, 2, [914, 65, 912, 913]),
  (yX10_init, prog_12_method_3_code, 1, none, 2, 0, [921, 80, 920, 0]),
  (yX10_spell, prog_12_method_4_code, 5, none, 1, 2, [927, 80, 926, 28]),
  (yX10_tenth, prog_12_method_9_code, 4, (some FieldType.int), 1, 3, [1107, 80, 1105, 1106]),
  (yX10_in, prog_12_method_2_code, 6, (some FieldType.boolean), 0, 3, [1112, 80, 1111, 0]),
  (yX10_rider, prog_12_method_10_code, 5, (some FieldType.int), 1, 4, [1118, 80, 1116, 1117]),
  (yX10_set, prog_12_method_11_code, 5, (some FieldType.int), 1, 3, [1126, 80, 1124, 1125]),
  (yX10_isRider, prog_12_method_6_code, 2, (some FieldType.boolean), 1, 1, [1130, 80, 1129, 29]),
  (yX10_told, prog_12_method_15_code, 4, (some FieldType.int), 1, 3, [1134, 80, 1132, 1133]),
  (yX10_works, prog_12_method_12_code, 4, (some FieldType.boolean), 1, 3, [1139, 80, 1138, 30]),
  (yX10_stays, prog_12_method_13_code, 2, (some FieldType.int), 1, 1, [1143, 80, 1142, 31]),
  (yX10_endsOf, prog_12_method_14_code, 3, (some FieldType.int), 1, 1, [1147, 80, 1146, 32]),
  (yX10_house, prog_12_method_16_code, 4, (some FieldType.int), 1, 1, [1151, 80, 1149, 1150]),
  (yX10_feed, prog_12_method_17_code, 5, (some FieldType.int), 1, 2, [1156, 80, 1154, 1155]),
  (yX10_text, prog_12_method_33_code, 2, (some FieldType.int), 1, 0, [1161, 80, 1159, 1160]),
  (yX10_read, prog_12_method_32_code, 6, (some FieldType.int), 1, 2, [1165, 80, 1164, 33]),
  (yX10_next, prog_12_method_19_code, 3, none, 1, 0, [1169, 80, 1168, 34]),
  (yX10_byteAt, prog_12_method_18_code, 2, (some FieldType.int), 1, 1, [1173, 80, 1172, 35]),
  (yX10_part, prog_12_method_31_code, 4, (some FieldType.int), 1, 1, [1186, 80, 1185, 36]),
  (yX10_isWord, prog_12_method_21_code, 3, (some FieldType.boolean), 1, 1, [1190, 80, 1189, 37]),
  (yX10_fail, prog_12_method_20_code, 1, none, 1, 0, [1194, 80, 1193, 38]),
  (yX10_either, prog_12_method_30_code, 3, (some FieldType.int), 1, 0, [1198, 80, 1197, 39]),
  (yX10_both, prog_12_method_29_code, 3, (some FieldType.int), 1, 0, [1202, 80, 1201, 40]),
  (yX10_not, prog_12_method_28_code, 4, (some FieldType.int), 1, 0, [1206, 80, 1205, 41]),
  (yX10_opens, prog_12_method_23_code, 1, (some FieldType.boolean), 1, 0, [1211, 80, 1210, 42]),
  (yX10_added, prog_12_method_27_code, 4, (some FieldType.int), 1, 0, [1215, 80, 1214, 43]),
  (yX10_term, prog_12_method_26_code, 2, (some FieldType.int), 1, 0, [1219, 80, 1218, 44]),
  (yX10_one, prog_12_method_25_code, 2, (some FieldType.int), 1, 0, [1223, 80, 1222, 45]),
  (yX10_isSign, prog_12_method_22_code, 2, (some FieldType.boolean), 1, 1, [1227, 80, 1226, 46])]
def gMt4 : List gM := [(yX10_name, prog_12_method_24_code, 1, (some FieldType.int), 1, 0, [1231, 80, 1230, 47]),
  (yX10_force, prog_12_method_34_code, 3, (some FieldType.int), 1, 1, [1247, 80, 1245, 1246]),
  (yX10_says, prog_12_method_37_code, 5, (some FieldType.int), 1, 4, [1251, 80, 1249, 1250]),
  (yX10_isTenth, prog_12_method_5_code, 2, (some FieldType.boolean), 1, 1, [1255, 80, 1254, 48]),
  (yX10_saysOf, prog_12_method_36_code, 6, (some FieldType.int), 1, 5, [1260, 80, 1259, 49]),
  (yX10_within, prog_12_method_35_code, 3, (some FieldType.int), 0, 3, [1263, 80, 1262, 0]),
  (yX10_ride, prog_12_method_43_code, 4, (some FieldType.int), 1, 3, [1267, 80, 1265, 1266]),
  (yX10_isGroup, prog_12_method_7_code, 2, (some FieldType.boolean), 1, 1, [1271, 80, 1270, 50]),
  (yX10_areTenths, prog_12_method_8_code, 2, (some FieldType.boolean), 1, 1, [1275, 80, 1274, 51]),
  (yX10_goes1, prog_12_method_41_code, 4, none, 1, 2, [1279, 80, 1278, 52]),
  (yX10_begins, prog_12_method_38_code, 4, none, 1, 2, [1283, 80, 1282, 53]),
  (yX10_rides, prog_12_method_40_code, 14, (some FieldType.int), 1, 2, [1287, 80, 1286, 54]),
  (yX10_turnsOn, prog_12_method_39_code, 5, none, 1, 1, [1291, 80, 1290, 55]),
  (yX10_leftIn, prog_12_method_42_code, 3, (some FieldType.int), 1, 0, [1295, 80, 1294, 56]),
  (yX10_spent, prog_12_method_44_code, 4, (some FieldType.long), 1, 3, [1299, 80, 1297, 1298]),
  (yX10_ridden, prog_12_method_45_code, 4, (some FieldType.int), 1, 2, [1304, 80, 1302, 1303]),
  (yX10_caught, prog_12_method_48_code, 6, (some FieldType.long), 1, 5, [1308, 80, 1306, 1307]),
  (yX10_areGroups, prog_12_method_47_code, 3, (some FieldType.boolean), 1, 2, [1312, 80, 1311, 57]),
  (yX10_chases, prog_12_method_46_code, 7, none, 1, 5, [1317, 80, 1316, 58]),
  (yX10_clock, prog_12_method_49_code, 6, (some FieldType.long), 1, 5, [1321, 80, 1319, 1320]),
  (yX10_worth, prog_12_method_51_code, 4, (some FieldType.long), 1, 3, [1327, 80, 1325, 1326]),
  (yX10_lossOf, prog_12_method_50_code, 4, (some FieldType.int), 1, 3, [1331, 80, 1330, 59]),
  (yX10_turns, prog_12_method_53_code, 6, (some FieldType.long), 1, 3, [1335, 80, 1333, 1334]),
  (yX10_lossBy, prog_12_method_52_code, 7, (some FieldType.int), 1, 3, [1339, 80, 1338, 60]),
  (yX10_game, prog_12_method_55_code, 15, (some FieldType.int), 1, 3, [1343, 80, 1341, 1342]),
  (yX10_bitsOf, prog_12_method_54_code, 3, (some FieldType.int), 0, 1, [1346, 80, 1345, 0]),
  (yX10_isSheet, prog_12_method_65_code, 1, (some FieldType.boolean), 0, 1, [1349, 80, 1348, 0]),
  (yX10_goes, prog_12_method_56_code, 4, (some FieldType.int), 1, 2, [1353, 80, 1351, 1352]),
  (yX10_train, prog_12_method_58_code, 3, (some FieldType.int), 1, 2, [1357, 80, 1355, 1356]),
  (yX10_couples, prog_12_method_57_code, 5, none, 1, 3, [1362, 80, 1361, 61]),
  (yX10_split, prog_12_method_59_code, 4, (some FieldType.int), 1, 2, [1366, 80, 1364, 1365]),
  (yX10_film, prog_12_method_60_code, 5, (some FieldType.int), 1, 3, [1370, 80, 1368, 1369]),
  (yX10_wrong, prog_12_method_61_code, 6, (some FieldType.int), 1, 2, [1374, 80, 1372, 1373]),
  (yX10_image, prog_12_method_62_code, 2, (some FieldType.int), 1, 0, [1378, 80, 1376, 1377]),
  (yX10_back, prog_12_method_63_code, 3, (some FieldType.int), 1, 0, [1382, 80, 1380, 1381]),
  (yX10_count, prog_12_method_64_code, 4, (some FieldType.int), 1, 1, [1386, 80, 1384, 1385]),
  (yX10_sheet, prog_12_method_66_code, 5, (some FieldType.int), 1, 3, [1390, 80, 1388, 1389]),
  (yX10_cell, prog_12_method_67_code, 4, (some FieldType.int), 1, 3, [1394, 80, 1392, 1393]),
  (yX10_copy, prog_12_method_68_code, 9, (some FieldType.int), 1, 5, [1398, 80, 1396, 1397]),
  (yX10_tenths, prog_12_method_69_code, 8, (some FieldType.int), 1, 4, [1402, 80, 1400, 1401])]
def gMt5 : List gM := [(yX10_taken, prog_12_method_71_code, 4, (some FieldType.int), 1, 2, [1408, 80, 1406, 1407]),
  (yX10_over, prog_12_method_70_code, 1, (some FieldType.int), 0, 1, [1411, 80, 1410, 0])]
def gMt : List gM := gMt0 ++ gMt1 ++ gMt2 ++ gMt3 ++ gMt4 ++ gMt5
def gMok (q : gM) : Bool := match q.2.2.2.2.2.2 with
  | [_, p2, p3, p4] => gat p2 (.initialized q.1.cls) && (match q.2.2.2.2.1 with
    | 0 => gat p3 (.static q.1)
    | 1 => gat p3 (.instanceMethod q.1) && gat p4 (.selects q.1.cls q.1 q.1)
    | _ => gat p3 (.instanceMethod q.1) && decide (q.1.name = "<init>") && decide (q.2.2.2.1 = none)) && decide (plainName q.1.cls = true ∧ q.1.cls ≠ "java/lang/invoke/MethodHandle" ∧ q.1.cls ≠ "java/lang/invoke/VarHandle" ∧ (parseMethodDescriptor q.1.desc).map (fun d => d.parameters.length) = some q.2.2.2.2.2.1) && Nat.ble q.2.2.1 21
  | _ => false
theorem gcw {p : Nat} {y : MethodName} {b : ByteArray} {ml : Nat} {r : Option FieldType} (h : lw_tbl[p]? = some (.code y b ml r)) : Cond.code y b ml r ∈ gT := List.mem_filter.mpr ⟨List.mem_of_getElem? h, rfl⟩
/-- its words are among the tables' -/
def gMw (q : gM) : Prop := Cond.code q.1 q.2.1 q.2.2.1 q.2.2.2.1 ∈ gT ∧ gMok q = true
set_option maxRecDepth 100000 in
theorem gMw_0 : gMw (yX9_init, prog_1_method_1_code, 2, none, 2, 0, [87, 63, 86, 0]) := ⟨gcw (p := 87) rfl, by decide +kernel⟩
set_option maxRecDepth 100000 in
theorem gMw_1 : gMw (yX2_init, prog_4_method_1_code, 1, none, 2, 0, [95, 64, 94, 0]) := ⟨gcw (p := 95) rfl, by decide +kernel⟩
set_option maxRecDepth 100000 in
theorem gMw_2 : gMw (yX6_init, prog_8_method_1_code, 1, none, 2, 0, [123, 65, 122, 0]) := ⟨gcw (p := 123) rfl, by decide +kernel⟩
set_option maxRecDepth 100000 in
theorem gMw_3 : gMw (yX5_init, prog_7_method_1_code, 1, none, 2, 0, [168, 66, 167, 0]) := ⟨gcw (p := 168) rfl, by decide +kernel⟩
set_option maxRecDepth 100000 in
theorem gMw_4 : gMw (yX3_init, prog_5_method_1_code, 3, none, 2, 2, [204, 67, 203, 0]) := ⟨gcw (p := 204) rfl, by decide +kernel⟩
set_option maxRecDepth 100000 in
theorem gMw_5 : gMw (yX1_init, prog_3_method_1_code, 4, none, 2, 3, [237, 68, 236, 0]) := ⟨gcw (p := 237) rfl, by decide +kernel⟩
set_option maxRecDepth 100000 in
theorem gMw_6 : gMw (yX8_init, prog_10_method_1_code, 2, none, 2, 1, [274, 69, 273, 0]) := ⟨gcw (p := 274) rfl, by decide +kernel⟩
set_option maxRecDepth 100000 in
theorem gMw_7 : gMw (yX0_init, prog_2_method_1_code, 1, none, 2, 0, [292, 70, 291, 0]) := ⟨gcw (p := 292) rfl, by decide +kernel⟩
set_option maxRecDepth 100000 in
theorem gMw_8 : gMw (yX4_init, prog_6_method_1_code, 1, none, 2, 0, [319, 71, 318, 0]) := ⟨gcw (p := 319) rfl, by decide +kernel⟩
set_option maxRecDepth 100000 in
theorem gMw_9 : gMw (yJ0_length_8abf5, prog_17_method_54_code, 1, (some FieldType.int), 1, 0, [338, 72, 336, 337]) := ⟨gcw (p := 338) rfl, by decide +kernel⟩
set_option maxRecDepth 100000 in
theorem gMw_10 : gMw (yJ0_coder_7d493, prog_17_method_152_code, 1, (some FieldType.byte), 1, 0, [342, 72, 340, 341]) := ⟨gcw (p := 342) rfl, by decide +kernel⟩
set_option maxRecDepth 100000 in
theorem gMw_11 : gMw (yJ0_charAt_5068e, prog_17_method_56_code, 2, (some FieldType.char), 1, 1, [348, 72, 346, 347]) := ⟨gcw (p := 348) rfl, by decide +kernel⟩
set_option maxRecDepth 100000 in
theorem gMw_12 : gMw (yJ0_isLatin1_aae02, prog_17_method_154_code, 1, (some FieldType.boolean), 1, 0, [352, 72, 350, 351]) := ⟨gcw (p := 352) rfl, by decide +kernel⟩
set_option maxRecDepth 100000 in
theorem gMw_13 : gMw (yJ1_charAt_3b067, prog_18_method_2_code, 2, (some FieldType.char), 0, 2, [355, 73, 354, 0]) := ⟨gcw (p := 355) rfl, by decide +kernel⟩
set_option maxRecDepth 100000 in
theorem gMw_14 : gMw (yJ0_checkIndex_df160, prog_17_method_155_code, 2, none, 0, 2, [358, 72, 357, 0]) := ⟨gcw (p := 358) rfl, by decide +kernel⟩
set_option maxRecDepth 100000 in
theorem gMw_15 : gMw (yJ3_checkIndex_8e157, prog_22_method_11_code, 3, (some FieldType.int), 0, 3, [363, 74, 362, 0]) := ⟨gcw (p := 363) rfl, by decide +kernel⟩
set_option maxRecDepth 100000 in
theorem gMw_16 : gMw (yJ2_charAt_3b067, prog_19_method_83_code, 2, (some FieldType.char), 0, 2, [366, 75, 365, 0]) := ⟨gcw (p := 366) rfl, by decide +kernel⟩
set_option maxRecDepth 100000 in
theorem gMw_17 : gMw (yJ2_checkIndex_2214a, prog_19_method_91_code, 2, none, 0, 2, [369, 75, 368, 0]) := ⟨gcw (p := 369) rfl, by decide +kernel⟩
set_option maxRecDepth 100000 in
theorem gMw_18 : gMw (yJ2_length_9d52b, prog_19_method_6_code, 1, (some FieldType.int), 0, 1, [372, 75, 371, 0]) := ⟨gcw (p := 372) rfl, by decide +kernel⟩
set_option maxRecDepth 100000 in
theorem gMw_19 : gMw (yJ2_getChar_3b067, prog_19_method_5_code, 2, (some FieldType.char), 0, 2, [376, 75, 375, 0]) := ⟨gcw (p := 376) rfl, by decide +kernel⟩
set_option maxRecDepth 100000 in
theorem gMw_20 : gMw (yX5_put, prog_7_method_3_code, 2, none, 1, 1, [386, 66, 384, 385]) := ⟨gcw (p := 386) rfl, by decide +kernel⟩
set_option maxRecDepth 100000 in
theorem gMw_21 : gMw (yX5_readText, prog_7_method_6_code, 2, (some FieldType.int), 1, 0, [390, 66, 388, 389]) := ⟨gcw (p := 390) rfl, by decide +kernel⟩
set_option maxRecDepth 100000 in
theorem gMw_22 : gMw (yX5_advance, prog_7_method_16_code, 2, none, 1, 0, [394, 66, 393, 0]) := ⟨gcw (p := 394) rfl, by decide +kernel⟩
set_option maxRecDepth 100000 in
theorem gMw_23 : gMw (yX5_isLetter, prog_7_method_20_code, 2, (some FieldType.boolean), 1, 1, [398, 66, 397, 1]) := ⟨gcw (p := 398) rfl, by decide +kernel⟩
set_option maxRecDepth 100000 in
theorem gMw_24 : gMw (yX5_takeWord, prog_7_method_17_code, 2, none, 1, 0, [402, 66, 401, 2]) := ⟨gcw (p := 402) rfl, by decide +kernel⟩
set_option maxRecDepth 100000 in
theorem gMw_25 : gMw (yX5_wordOf, prog_7_method_23_code, 1, (some (FieldType.object "java/lang/String")), 0, 1, [405, 66, 404, 0]) := ⟨gcw (p := 405) rfl, by decide +kernel⟩
set_option maxRecDepth 100000 in
theorem gMw_26 : gMw (yX5_isSpelt, prog_7_method_18_code, 3, (some FieldType.boolean), 1, 1, [421, 66, 420, 3]) := ⟨gcw (p := 421) rfl, by decide +kernel⟩
set_option maxRecDepth 100000 in
theorem gMw_27 : gMw (yX5_isDigit, prog_7_method_21_code, 2, (some FieldType.boolean), 1, 1, [427, 66, 426, 4]) := ⟨gcw (p := 427) rfl, by decide +kernel⟩
set_option maxRecDepth 100000 in
theorem gMw_28 : gMw (yX5_takeNumber, prog_7_method_19_code, 1, none, 1, 0, [431, 66, 430, 5]) := ⟨gcw (p := 431) rfl, by decide +kernel⟩
set_option maxRecDepth 100000 in
theorem gMw_29 : gMw (yX5_isSign, prog_7_method_22_code, 1, (some FieldType.boolean), 0, 1, [434, 66, 433, 0]) := ⟨gcw (p := 434) rfl, by decide +kernel⟩
set_option maxRecDepth 100000 in
theorem gMw_30 : gMw (yX5_readEither, prog_7_method_7_code, 4, (some FieldType.boolean), 1, 1, [438, 66, 437, 6]) := ⟨gcw (p := 438) rfl, by decide +kernel⟩
set_option maxRecDepth 100000 in
theorem gMw_31 : gMw (yX5_readBoth, prog_7_method_8_code, 4, (some FieldType.boolean), 1, 1, [442, 66, 441, 7]) := ⟨gcw (p := 442) rfl, by decide +kernel⟩
set_option maxRecDepth 100000 in
theorem gMw_32 : gMw (yX5_readDenied, prog_7_method_9_code, 4, (some FieldType.boolean), 1, 1, [446, 66, 445, 8]) := ⟨gcw (p := 446) rfl, by decide +kernel⟩
set_option maxRecDepth 100000 in
theorem gMw_33 : gMw (yX5_readBehind, prog_7_method_10_code, 4, (some FieldType.boolean), 1, 2, [450, 66, 449, 9]) := ⟨gcw (p := 450) rfl, by decide +kernel⟩
set_option maxRecDepth 100000 in
theorem gMw_34 : gMw (yX5_readOne, prog_7_method_13_code, 2, (some FieldType.boolean), 1, 1, [454, 66, 453, 10]) := ⟨gcw (p := 454) rfl, by decide +kernel⟩
set_option maxRecDepth 100000 in
theorem gMw_35 : gMw (yX5_readInside, prog_7_method_14_code, 2, (some FieldType.boolean), 1, 1, [458, 66, 457, 11]) := ⟨gcw (p := 458) rfl, by decide +kernel⟩
set_option maxRecDepth 100000 in
theorem gMw_36 : gMw (yX5_step, prog_7_method_15_code, 2, none, 1, 1, [462, 66, 461, 12]) := ⟨gcw (p := 462) rfl, by decide +kernel⟩
set_option maxRecDepth 100000 in
theorem gMw_37 : gMw (yX5_readSum, prog_7_method_11_code, 5, (some FieldType.boolean), 1, 1, [466, 66, 465, 13]) := ⟨gcw (p := 466) rfl, by decide +kernel⟩
set_option maxRecDepth 100000 in
theorem gMw_38 : gMw (yX5_readTerm, prog_7_method_12_code, 4, (some FieldType.boolean), 1, 1, [470, 66, 469, 14]) := ⟨gcw (p := 470) rfl, by decide +kernel⟩
set_option maxRecDepth 100000 in
theorem gMw_39 : gMw (yX5_lastText, prog_7_method_5_code, 1, (some (FieldType.object "NobodyFirst$Text")), 1, 0, [474, 66, 472, 473]) := ⟨gcw (p := 474) rfl, by decide +kernel⟩
set_option maxRecDepth 100000 in
theorem gMw_40 : gMw (yJ7_copyOf_59c91, prog_21_method_123_code, 3, (some (FieldType.array FieldType.int)), 0, 2, [479, 77, 478, 0]) := ⟨gcw (p := 479) rfl, by decide +kernel⟩
set_option maxRecDepth 100000 in
theorem gMw_41 : gMw (yX7_init, prog_9_method_1_code, 4, none, 2, 3, [495, 76, 494, 0]) := ⟨gcw (p := 495) rfl, by decide +kernel⟩
set_option maxRecDepth 100000 in
theorem gMw_42 : gMw (yX3_add, prog_5_method_2_code, 2, (some FieldType.int), 1, 1, [511, 67, 509, 510]) := ⟨gcw (p := 511) rfl, by decide +kernel⟩
set_option maxRecDepth 100000 in
theorem gMw_43 : gMw (yX5_empty, prog_7_method_4_code, 1, none, 1, 0, [515, 66, 513, 514]) := ⟨gcw (p := 515) rfl, by decide +kernel⟩
set_option maxRecDepth 100000 in
theorem gMw_44 : gMw (yX9_tenth, prog_1_method_2_code, 4, (some FieldType.int), 1, 3, [547, 63, 545, 546]) := ⟨gcw (p := 547) rfl, by decide +kernel⟩
set_option maxRecDepth 100000 in
theorem gMw_45 : gMw (yX2_add, prog_4_method_2_code, 4, (some FieldType.int), 1, 3, [551, 64, 549, 550]) := ⟨gcw (p := 551) rfl, by decide +kernel⟩
set_option maxRecDepth 100000 in
theorem gMw_46 : gMw (yX9_rider, prog_1_method_3_code, 5, (some FieldType.int), 1, 4, [555, 63, 553, 554]) := ⟨gcw (p := 555) rfl, by decide +kernel⟩
set_option maxRecDepth 100000 in
theorem gMw_47 : gMw (yX6_add, prog_8_method_2_code, 5, (some FieldType.int), 1, 4, [559, 65, 557, 558]) := ⟨gcw (p := 559) rfl, by decide +kernel⟩
set_option maxRecDepth 100000 in
theorem gMw_48 : gMw (yX9_isPower, prog_1_method_32_code, 1, (some FieldType.boolean), 0, 1, [562, 63, 561, 0]) := ⟨gcw (p := 562) rfl, by decide +kernel⟩
set_option maxRecDepth 100000 in
theorem gMw_49 : gMw (yX9_isStore, prog_1_method_33_code, 1, (some FieldType.boolean), 0, 1, [565, 63, 564, 0]) := ⟨gcw (p := 565) rfl, by decide +kernel⟩
set_option maxRecDepth 100000 in
theorem gMw_50 : gMw (yX9_set, prog_1_method_4_code, 6, (some FieldType.int), 1, 3, [569, 63, 567, 568]) := ⟨gcw (p := 569) rfl, by decide +kernel⟩
set_option maxRecDepth 100000 in
theorem gMw_51 : gMw (yX6_has, prog_8_method_3_code, 2, (some FieldType.boolean), 1, 1, [573, 65, 571, 572]) := ⟨gcw (p := 573) rfl, by decide +kernel⟩
set_option maxRecDepth 100000 in
theorem gMw_52 : gMw (yX9_told, prog_1_method_5_code, 4, (some FieldType.int), 1, 3, [579, 63, 577, 578]) := ⟨gcw (p := 579) rfl, by decide +kernel⟩
set_option maxRecDepth 100000 in
theorem gMw_53 : gMw (yX6_works, prog_8_method_7_code, 5, (some FieldType.boolean), 1, 3, [583, 65, 581, 582]) := ⟨gcw (p := 583) rfl, by decide +kernel⟩
set_option maxRecDepth 100000 in
theorem gMw_54 : gMw (yX6_stays, prog_8_method_8_code, 3, (some FieldType.int), 1, 1, [587, 65, 585, 586]) := ⟨gcw (p := 587) rfl, by decide +kernel⟩
set_option maxRecDepth 100000 in
theorem gMw_55 : gMw (yX6_ends, prog_8_method_9_code, 3, (some FieldType.int), 1, 1, [591, 65, 589, 590]) := ⟨gcw (p := 591) rfl, by decide +kernel⟩
set_option maxRecDepth 100000 in
theorem gMw_56 : gMw (yX9_house, prog_1_method_6_code, 2, (some FieldType.int), 1, 1, [598, 63, 596, 597]) := ⟨gcw (p := 598) rfl, by decide +kernel⟩
set_option maxRecDepth 100000 in
theorem gMw_57 : gMw (yX6_ofHouse, prog_8_method_6_code, 4, (some FieldType.int), 1, 1, [602, 65, 600, 601]) := ⟨gcw (p := 602) rfl, by decide +kernel⟩
set_option maxRecDepth 100000 in
theorem gMw_58 : gMw (yX9_feed, prog_1_method_7_code, 5, (some FieldType.int), 1, 2, [606, 63, 604, 605]) := ⟨gcw (p := 606) rfl, by decide +kernel⟩
set_option maxRecDepth 100000 in
theorem gMw_59 : gMw (yX5_room, prog_7_method_2_code, 1, (some FieldType.int), 1, 0, [610, 66, 608, 609]) := ⟨gcw (p := 610) rfl, by decide +kernel⟩
set_option maxRecDepth 100000 in
theorem gMw_60 : gMw (yX9_text, prog_1_method_8_code, 3, (some FieldType.int), 1, 0, [614, 63, 612, 613]) := ⟨gcw (p := 614) rfl, by decide +kernel⟩
set_option maxRecDepth 100000 in
theorem gMw_61 : gMw (yX9_force, prog_1_method_9_code, 3, (some FieldType.int), 1, 1, [618, 63, 616, 617]) := ⟨gcw (p := 618) rfl, by decide +kernel⟩
set_option maxRecDepth 100000 in
theorem gMw_62 : gMw (yX9_says, prog_1_method_10_code, 5, (some FieldType.int), 1, 4, [622, 63, 620, 621]) := ⟨gcw (p := 622) rfl, by decide +kernel⟩
set_option maxRecDepth 100000 in
theorem gMw_63 : gMw (yX9_isSeat, prog_1_method_36_code, 4, (some FieldType.boolean), 1, 3, [626, 63, 625, 15]) := ⟨gcw (p := 626) rfl, by decide +kernel⟩
set_option maxRecDepth 100000 in
theorem gMw_64 : gMw (yX2_has, prog_4_method_3_code, 2, (some FieldType.boolean), 1, 1, [630, 64, 628, 629]) := ⟨gcw (p := 630) rfl, by decide +kernel⟩
set_option maxRecDepth 100000 in
theorem gMw_65 : gMw (yX3_comesTo, prog_5_method_3_code, 6, (some FieldType.int), 1, 5, [634, 67, 632, 633]) := ⟨gcw (p := 634) rfl, by decide +kernel⟩
set_option maxRecDepth 100000 in
theorem gMw_66 : gMw (yX2_sheltered, prog_4_method_8_code, 3, (some FieldType.int), 1, 2, [638, 64, 636, 637]) := ⟨gcw (p := 638) rfl, by decide +kernel⟩
set_option maxRecDepth 100000 in
theorem gMw_67 : gMw (yX2_left, prog_4_method_7_code, 2, (some FieldType.int), 1, 1, [642, 64, 640, 641]) := ⟨gcw (p := 642) rfl, by decide +kernel⟩
set_option maxRecDepth 100000 in
theorem gMw_68 : gMw (yX3_valueOf, prog_5_method_5_code, 8, (some FieldType.int), 1, 1, [646, 67, 645, 16]) := ⟨gcw (p := 646) rfl, by decide +kernel⟩
set_option maxRecDepth 100000 in
theorem gMw_69 : gMw (yX7_to, prog_9_method_3_code, 2, (some FieldType.int), 1, 1, [650, 76, 648, 649]) := ⟨gcw (p := 650) rfl, by decide +kernel⟩
set_option maxRecDepth 100000 in
theorem gMw_70 : gMw (yX7_from, prog_9_method_2_code, 2, (some FieldType.int), 1, 1, [654, 76, 652, 653]) := ⟨gcw (p := 654) rfl, by decide +kernel⟩
set_option maxRecDepth 100000 in
theorem gMw_71 : gMw (yX3_joined, prog_5_method_6_code, 3, (some FieldType.int), 0, 3, [657, 67, 656, 0]) := ⟨gcw (p := 657) rfl, by decide +kernel⟩
set_option maxRecDepth 100000 in
theorem gMw_72 : gMw (yX9_within, prog_1_method_35_code, 3, (some FieldType.int), 0, 3, [660, 63, 659, 0]) := ⟨gcw (p := 660) rfl, by decide +kernel⟩
set_option maxRecDepth 100000 in
theorem gMw_73 : gMw (yX9_ride, prog_1_method_11_code, 5, (some FieldType.int), 1, 3, [666, 63, 664, 665]) := ⟨gcw (p := 666) rfl, by decide +kernel⟩
set_option maxRecDepth 100000 in
theorem gMw_74 : gMw (yX9_isRide, prog_1_method_37_code, 3, (some FieldType.boolean), 1, 2, [670, 63, 669, 17]) := ⟨gcw (p := 670) rfl, by decide +kernel⟩
set_option maxRecDepth 100000 in
theorem gMw_75 : gMw (yX6_isGroup, prog_8_method_4_code, 2, (some FieldType.boolean), 1, 1, [674, 65, 672, 673]) := ⟨gcw (p := 674) rfl, by decide +kernel⟩
set_option maxRecDepth 100000 in
theorem gMw_76 : gMw (yX2_isSpan, prog_4_method_4_code, 2, (some FieldType.boolean), 1, 1, [678, 64, 676, 677]) := ⟨gcw (p := 678) rfl, by decide +kernel⟩
set_option maxRecDepth 100000 in
theorem gMw_77 : gMw (yX2_spanFrom, prog_4_method_5_code, 2, (some FieldType.int), 1, 1, [682, 64, 680, 681]) := ⟨gcw (p := 682) rfl, by decide +kernel⟩
set_option maxRecDepth 100000 in
theorem gMw_78 : gMw (yX2_spanTo, prog_4_method_6_code, 2, (some FieldType.int), 1, 1, [686, 64, 684, 685]) := ⟨gcw (p := 686) rfl, by decide +kernel⟩
set_option maxRecDepth 100000 in
theorem gMw_79 : gMw (yX1_rideAll, prog_3_method_4_code, 5, (some FieldType.int), 1, 2, [690, 68, 688, 689]) := ⟨gcw (p := 690) rfl, by decide +kernel⟩
set_option maxRecDepth 100000 in
theorem gMw_80 : gMw (yX1_begin, prog_3_method_2_code, 3, none, 1, 1, [694, 68, 692, 693]) := ⟨gcw (p := 694) rfl, by decide +kernel⟩
set_option maxRecDepth 100000 in
theorem gMw_81 : gMw (yX1_go, prog_3_method_3_code, 3, none, 1, 1, [700, 68, 698, 699]) := ⟨gcw (p := 700) rfl, by decide +kernel⟩
set_option maxRecDepth 100000 in
theorem gMw_82 : gMw (yX1_someWorks, prog_3_method_6_code, 3, (some FieldType.boolean), 1, 1, [705, 68, 704, 18]) := ⟨gcw (p := 705) rfl, by decide +kernel⟩
set_option maxRecDepth 100000 in
theorem gMw_83 : gMw (yX1_takeTurns, prog_3_method_7_code, 5, none, 1, 1, [710, 68, 709, 19]) := ⟨gcw (p := 710) rfl, by decide +kernel⟩
set_option maxRecDepth 100000 in
theorem gMw_84 : gMw (yX1_tire, prog_3_method_8_code, 7, none, 1, 1, [716, 68, 715, 20]) := ⟨gcw (p := 716) rfl, by decide +kernel⟩
set_option maxRecDepth 100000 in
theorem gMw_85 : gMw (yX1_fallBack, prog_3_method_9_code, 3, none, 1, 0, [721, 68, 720, 21]) := ⟨gcw (p := 721) rfl, by decide +kernel⟩
set_option maxRecDepth 100000 in
theorem gMw_86 : gMw (yX1_left, prog_3_method_5_code, 3, (some FieldType.int), 1, 0, [725, 68, 723, 724]) := ⟨gcw (p := 725) rfl, by decide +kernel⟩
set_option maxRecDepth 100000 in
theorem gMw_87 : gMw (yX9_spent, prog_1_method_12_code, 4, (some FieldType.long), 1, 3, [729, 63, 727, 728]) := ⟨gcw (p := 729) rfl, by decide +kernel⟩
set_option maxRecDepth 100000 in
theorem gMw_88 : gMw (yX9_ridden, prog_1_method_13_code, 4, (some FieldType.int), 1, 2, [734, 63, 732, 733]) := ⟨gcw (p := 734) rfl, by decide +kernel⟩
set_option maxRecDepth 100000 in
theorem gMw_89 : gMw (yX9_caught, prog_1_method_14_code, 9, (some FieldType.long), 1, 5, [738, 63, 736, 737]) := ⟨gcw (p := 738) rfl, by decide +kernel⟩
set_option maxRecDepth 100000 in
theorem gMw_90 : gMw (yX9_isChase, prog_1_method_38_code, 5, (some FieldType.boolean), 1, 4, [742, 63, 741, 22]) := ⟨gcw (p := 742) rfl, by decide +kernel⟩
set_option maxRecDepth 100000 in
theorem gMw_91 : gMw (yX9_beginChase, prog_1_method_39_code, 3, none, 1, 2, [746, 63, 745, 23]) := ⟨gcw (p := 746) rfl, by decide +kernel⟩
set_option maxRecDepth 100000 in
theorem gMw_92 : gMw (yX9_gained, prog_1_method_40_code, 2, (some FieldType.int), 1, 1, [753, 63, 752, 24]) := ⟨gcw (p := 753) rfl, by decide +kernel⟩
set_option maxRecDepth 100000 in
theorem gMw_93 : gMw (yX9_worth, prog_1_method_15_code, 4, (some FieldType.long), 1, 3, [758, 63, 756, 757]) := ⟨gcw (p := 758) rfl, by decide +kernel⟩
set_option maxRecDepth 100000 in
theorem gMw_94 : gMw (yX3_loss, prog_5_method_4_code, 5, (some FieldType.int), 1, 3, [762, 67, 760, 761]) := ⟨gcw (p := 762) rfl, by decide +kernel⟩
set_option maxRecDepth 100000 in
theorem gMw_95 : gMw (yX9_turns, prog_1_method_16_code, 8, (some FieldType.long), 1, 3, [767, 63, 765, 766]) := ⟨gcw (p := 767) rfl, by decide +kernel⟩
set_option maxRecDepth 100000 in
theorem gMw_96 : gMw (yX9_lossBehind, prog_1_method_41_code, 7, (some FieldType.int), 1, 3, [771, 63, 770, 25]) := ⟨gcw (p := 771) rfl, by decide +kernel⟩
set_option maxRecDepth 100000 in
theorem gMw_97 : gMw (yX9_game, prog_1_method_17_code, 6, (some FieldType.int), 1, 3, [775, 63, 773, 774]) := ⟨gcw (p := 775) rfl, by decide +kernel⟩
set_option maxRecDepth 100000 in
theorem gMw_98 : gMw (yJ6_bitCount_0f7a4, prog_14_method_49_code, 1, (some FieldType.int), 0, 1, [778, 81, 777, 0]) := ⟨gcw (p := 778) rfl, by decide +kernel⟩
set_option maxRecDepth 100000 in
theorem gMw_99 : gMw (yX9_isSheet, prog_1_method_34_code, 1, (some FieldType.boolean), 0, 1, [784, 63, 783, 0]) := ⟨gcw (p := 784) rfl, by decide +kernel⟩
set_option maxRecDepth 100000 in
theorem gMw_100 : gMw (yX4_isMissing, prog_6_method_2_code, 1, (some FieldType.boolean), 1, 0, [788, 71, 786, 787]) := ⟨gcw (p := 788) rfl, by decide +kernel⟩
set_option maxRecDepth 100000 in
theorem gMw_101 : gMw (yX9_restsOf, prog_1_method_43_code, 4, (some FieldType.int), 0, 2, [791, 63, 790, 0]) := ⟨gcw (p := 791) rfl, by decide +kernel⟩
set_option maxRecDepth 100000 in
theorem gMw_102 : gMw (yX9_isRest, prog_1_method_44_code, 5, (some FieldType.boolean), 0, 3, [794, 63, 793, 0]) := ⟨gcw (p := 794) rfl, by decide +kernel⟩
set_option maxRecDepth 100000 in
theorem gMw_103 : gMw (yX9_goodOf, prog_1_method_45_code, 9, (some FieldType.int), 0, 2, [797, 63, 796, 0]) := ⟨gcw (p := 797) rfl, by decide +kernel⟩
set_option maxRecDepth 100000 in
theorem gMw_104 : gMw (yX9_goes, prog_1_method_18_code, 4, (some FieldType.int), 1, 2, [801, 63, 799, 800]) := ⟨gcw (p := 801) rfl, by decide +kernel⟩
set_option maxRecDepth 100000 in
theorem gMw_105 : gMw (yX9_getsAway, prog_1_method_42_code, 6, (some FieldType.boolean), 1, 3, [805, 63, 804, 26]) := ⟨gcw (p := 805) rfl, by decide +kernel⟩
set_option maxRecDepth 100000 in
theorem gMw_106 : gMw (yX9_train, prog_1_method_19_code, 4, (some FieldType.int), 1, 2, [809, 63, 807, 808]) := ⟨gcw (p := 809) rfl, by decide +kernel⟩
set_option maxRecDepth 100000 in
theorem gMw_107 : gMw (yX8_search, prog_10_method_2_code, 2, none, 1, 1, [813, 69, 811, 812]) := ⟨gcw (p := 813) rfl, by decide +kernel⟩
set_option maxRecDepth 100000 in
theorem gMw_108 : gMw (yX8_tryAll, prog_10_method_3_code, 7, none, 1, 3, [817, 69, 816, 27]) := ⟨gcw (p := 817) rfl, by decide +kernel⟩
set_option maxRecDepth 100000 in
theorem gMw_109 : gMw (yX9_split, prog_1_method_20_code, 3, (some FieldType.int), 1, 2, [822, 63, 820, 821]) := ⟨gcw (p := 822) rfl, by decide +kernel⟩
set_option maxRecDepth 100000 in
theorem gMw_110 : gMw (yX9_film, prog_1_method_21_code, 5, (some FieldType.int), 1, 3, [826, 63, 824, 825]) := ⟨gcw (p := 826) rfl, by decide +kernel⟩
set_option maxRecDepth 100000 in
theorem gMw_111 : gMw (yX9_wrong, prog_1_method_22_code, 5, (some FieldType.int), 1, 2, [830, 63, 828, 829]) := ⟨gcw (p := 830) rfl, by decide +kernel⟩
set_option maxRecDepth 100000 in
theorem gMw_112 : gMw (yX6_someFilmed, prog_8_method_10_code, 4, (some FieldType.boolean), 1, 2, [834, 65, 832, 833]) := ⟨gcw (p := 834) rfl, by decide +kernel⟩
set_option maxRecDepth 100000 in
theorem gMw_113 : gMw (yX9_clock, prog_1_method_23_code, 12, (some FieldType.long), 1, 5, [838, 63, 836, 837]) := ⟨gcw (p := 838) rfl, by decide +kernel⟩
set_option maxRecDepth 100000 in
theorem gMw_114 : gMw (yX9_image, prog_1_method_24_code, 1, (some FieldType.int), 1, 0, [843, 63, 841, 842]) := ⟨gcw (p := 843) rfl, by decide +kernel⟩
set_option maxRecDepth 100000 in
theorem gMw_115 : gMw (yX0_keep, prog_2_method_2_code, 3, none, 1, 2, [847, 70, 845, 846]) := ⟨gcw (p := 847) rfl, by decide +kernel⟩
set_option maxRecDepth 100000 in
theorem gMw_116 : gMw (yX9_back, prog_1_method_25_code, 1, (some FieldType.int), 1, 0, [852, 63, 850, 851]) := ⟨gcw (p := 852) rfl, by decide +kernel⟩
set_option maxRecDepth 100000 in
theorem gMw_117 : gMw (yX0_layBack, prog_2_method_3_code, 3, none, 1, 2, [856, 70, 854, 855]) := ⟨gcw (p := 856) rfl, by decide +kernel⟩
set_option maxRecDepth 100000 in
theorem gMw_118 : gMw (yX9_count, prog_1_method_26_code, 2, (some FieldType.int), 1, 1, [860, 63, 858, 859]) := ⟨gcw (p := 860) rfl, by decide +kernel⟩
set_option maxRecDepth 100000 in
theorem gMw_119 : gMw (yX6_allFilmed, prog_8_method_11_code, 3, (some FieldType.int), 1, 0, [864, 65, 862, 863]) := ⟨gcw (p := 864) rfl, by decide +kernel⟩
set_option maxRecDepth 100000 in
theorem gMw_120 : gMw (yJ13_bitCount_95d88, prog_15_method_50_code, 2, (some FieldType.int), 0, 1, [867, 82, 866, 0]) := ⟨gcw (p := 867) rfl, by decide +kernel⟩
set_option maxRecDepth 100000 in
theorem gMw_121 : gMw (yX6_allStores, prog_8_method_12_code, 3, (some FieldType.int), 1, 0, [874, 65, 872, 873]) := ⟨gcw (p := 874) rfl, by decide +kernel⟩
set_option maxRecDepth 100000 in
theorem gMw_122 : gMw (yX9_sheet, prog_1_method_27_code, 4, (some FieldType.int), 1, 3, [878, 63, 876, 877]) := ⟨gcw (p := 878) rfl, by decide +kernel⟩
set_option maxRecDepth 100000 in
theorem gMw_123 : gMw (yX4_become, prog_6_method_3_code, 3, none, 1, 2, [882, 71, 880, 881]) := ⟨gcw (p := 882) rfl, by decide +kernel⟩
set_option maxRecDepth 100000 in
theorem gMw_124 : gMw (yJ7_fill_53178, prog_21_method_103_code, 4, none, 0, 2, [885, 77, 884, 0]) := ⟨gcw (p := 885) rfl, by decide +kernel⟩
set_option maxRecDepth 100000 in
theorem gMw_125 : gMw (yX9_cell, prog_1_method_28_code, 5, (some FieldType.int), 1, 3, [889, 63, 887, 888]) := ⟨gcw (p := 889) rfl, by decide +kernel⟩
set_option maxRecDepth 100000 in
theorem gMw_126 : gMw (yX4_reaches, prog_6_method_4_code, 3, (some FieldType.boolean), 1, 2, [893, 71, 891, 892]) := ⟨gcw (p := 893) rfl, by decide +kernel⟩
set_option maxRecDepth 100000 in
theorem gMw_127 : gMw (yX4_put, prog_6_method_5_code, 3, none, 1, 2, [897, 71, 895, 896]) := ⟨gcw (p := 897) rfl, by decide +kernel⟩
set_option maxRecDepth 100000 in
theorem gMw_128 : gMw (yX9_copy, prog_1_method_29_code, 8, (some FieldType.int), 1, 5, [901, 63, 899, 900]) := ⟨gcw (p := 901) rfl, by decide +kernel⟩
set_option maxRecDepth 100000 in
theorem gMw_129 : gMw (yX9_tenths, prog_1_method_30_code, 9, (some FieldType.int), 1, 4, [906, 63, 904, 905]) := ⟨gcw (p := 906) rfl, by decide +kernel⟩
set_option maxRecDepth 100000 in
theorem gMw_130 : gMw (yX9_taken, prog_1_method_31_code, 3, (some FieldType.int), 1, 2, [910, 63, 908, 909]) := ⟨gcw (p := 910) rfl, by decide +kernel⟩
set_option maxRecDepth 100000 in
theorem gMw_131 : gMw (yX6_isUnder, prog_8_method_5_code, 5, (some FieldType.boolean), 1, 2, [914, 65, 912, 913]) := ⟨gcw (p := 914) rfl, by decide +kernel⟩
set_option maxRecDepth 100000 in
theorem gMw_132 : gMw (yX10_init, prog_12_method_3_code, 1, none, 2, 0, [921, 80, 920, 0]) := ⟨gcw (p := 921) rfl, by decide +kernel⟩
set_option maxRecDepth 100000 in
theorem gMw_133 : gMw (yX10_spell, prog_12_method_4_code, 5, none, 1, 2, [927, 80, 926, 28]) := ⟨gcw (p := 927) rfl, by decide +kernel⟩
set_option maxRecDepth 100000 in
theorem gMw_134 : gMw (yX10_tenth, prog_12_method_9_code, 4, (some FieldType.int), 1, 3, [1107, 80, 1105, 1106]) := ⟨gcw (p := 1107) rfl, by decide +kernel⟩
set_option maxRecDepth 100000 in
theorem gMw_135 : gMw (yX10_in, prog_12_method_2_code, 6, (some FieldType.boolean), 0, 3, [1112, 80, 1111, 0]) := ⟨gcw (p := 1112) rfl, by decide +kernel⟩
set_option maxRecDepth 100000 in
theorem gMw_136 : gMw (yX10_rider, prog_12_method_10_code, 5, (some FieldType.int), 1, 4, [1118, 80, 1116, 1117]) := ⟨gcw (p := 1118) rfl, by decide +kernel⟩
set_option maxRecDepth 100000 in
theorem gMw_137 : gMw (yX10_set, prog_12_method_11_code, 5, (some FieldType.int), 1, 3, [1126, 80, 1124, 1125]) := ⟨gcw (p := 1126) rfl, by decide +kernel⟩
set_option maxRecDepth 100000 in
theorem gMw_138 : gMw (yX10_isRider, prog_12_method_6_code, 2, (some FieldType.boolean), 1, 1, [1130, 80, 1129, 29]) := ⟨gcw (p := 1130) rfl, by decide +kernel⟩
set_option maxRecDepth 100000 in
theorem gMw_139 : gMw (yX10_told, prog_12_method_15_code, 4, (some FieldType.int), 1, 3, [1134, 80, 1132, 1133]) := ⟨gcw (p := 1134) rfl, by decide +kernel⟩
set_option maxRecDepth 100000 in
theorem gMw_140 : gMw (yX10_works, prog_12_method_12_code, 4, (some FieldType.boolean), 1, 3, [1139, 80, 1138, 30]) := ⟨gcw (p := 1139) rfl, by decide +kernel⟩
set_option maxRecDepth 100000 in
theorem gMw_141 : gMw (yX10_stays, prog_12_method_13_code, 2, (some FieldType.int), 1, 1, [1143, 80, 1142, 31]) := ⟨gcw (p := 1143) rfl, by decide +kernel⟩
set_option maxRecDepth 100000 in
theorem gMw_142 : gMw (yX10_endsOf, prog_12_method_14_code, 3, (some FieldType.int), 1, 1, [1147, 80, 1146, 32]) := ⟨gcw (p := 1147) rfl, by decide +kernel⟩
set_option maxRecDepth 100000 in
theorem gMw_143 : gMw (yX10_house, prog_12_method_16_code, 4, (some FieldType.int), 1, 1, [1151, 80, 1149, 1150]) := ⟨gcw (p := 1151) rfl, by decide +kernel⟩
set_option maxRecDepth 100000 in
theorem gMw_144 : gMw (yX10_feed, prog_12_method_17_code, 5, (some FieldType.int), 1, 2, [1156, 80, 1154, 1155]) := ⟨gcw (p := 1156) rfl, by decide +kernel⟩
set_option maxRecDepth 100000 in
theorem gMw_145 : gMw (yX10_text, prog_12_method_33_code, 2, (some FieldType.int), 1, 0, [1161, 80, 1159, 1160]) := ⟨gcw (p := 1161) rfl, by decide +kernel⟩
set_option maxRecDepth 100000 in
theorem gMw_146 : gMw (yX10_read, prog_12_method_32_code, 6, (some FieldType.int), 1, 2, [1165, 80, 1164, 33]) := ⟨gcw (p := 1165) rfl, by decide +kernel⟩
set_option maxRecDepth 100000 in
theorem gMw_147 : gMw (yX10_next, prog_12_method_19_code, 3, none, 1, 0, [1169, 80, 1168, 34]) := ⟨gcw (p := 1169) rfl, by decide +kernel⟩
set_option maxRecDepth 100000 in
theorem gMw_148 : gMw (yX10_byteAt, prog_12_method_18_code, 2, (some FieldType.int), 1, 1, [1173, 80, 1172, 35]) := ⟨gcw (p := 1173) rfl, by decide +kernel⟩
set_option maxRecDepth 100000 in
theorem gMw_149 : gMw (yX10_part, prog_12_method_31_code, 4, (some FieldType.int), 1, 1, [1186, 80, 1185, 36]) := ⟨gcw (p := 1186) rfl, by decide +kernel⟩
set_option maxRecDepth 100000 in
theorem gMw_150 : gMw (yX10_isWord, prog_12_method_21_code, 3, (some FieldType.boolean), 1, 1, [1190, 80, 1189, 37]) := ⟨gcw (p := 1190) rfl, by decide +kernel⟩
set_option maxRecDepth 100000 in
theorem gMw_151 : gMw (yX10_fail, prog_12_method_20_code, 1, none, 1, 0, [1194, 80, 1193, 38]) := ⟨gcw (p := 1194) rfl, by decide +kernel⟩
set_option maxRecDepth 100000 in
theorem gMw_152 : gMw (yX10_either, prog_12_method_30_code, 3, (some FieldType.int), 1, 0, [1198, 80, 1197, 39]) := ⟨gcw (p := 1198) rfl, by decide +kernel⟩
set_option maxRecDepth 100000 in
theorem gMw_153 : gMw (yX10_both, prog_12_method_29_code, 3, (some FieldType.int), 1, 0, [1202, 80, 1201, 40]) := ⟨gcw (p := 1202) rfl, by decide +kernel⟩
set_option maxRecDepth 100000 in
theorem gMw_154 : gMw (yX10_not, prog_12_method_28_code, 4, (some FieldType.int), 1, 0, [1206, 80, 1205, 41]) := ⟨gcw (p := 1206) rfl, by decide +kernel⟩
set_option maxRecDepth 100000 in
theorem gMw_155 : gMw (yX10_opens, prog_12_method_23_code, 1, (some FieldType.boolean), 1, 0, [1211, 80, 1210, 42]) := ⟨gcw (p := 1211) rfl, by decide +kernel⟩
set_option maxRecDepth 100000 in
theorem gMw_156 : gMw (yX10_added, prog_12_method_27_code, 4, (some FieldType.int), 1, 0, [1215, 80, 1214, 43]) := ⟨gcw (p := 1215) rfl, by decide +kernel⟩
set_option maxRecDepth 100000 in
theorem gMw_157 : gMw (yX10_term, prog_12_method_26_code, 2, (some FieldType.int), 1, 0, [1219, 80, 1218, 44]) := ⟨gcw (p := 1219) rfl, by decide +kernel⟩
set_option maxRecDepth 100000 in
theorem gMw_158 : gMw (yX10_one, prog_12_method_25_code, 2, (some FieldType.int), 1, 0, [1223, 80, 1222, 45]) := ⟨gcw (p := 1223) rfl, by decide +kernel⟩
set_option maxRecDepth 100000 in
theorem gMw_159 : gMw (yX10_isSign, prog_12_method_22_code, 2, (some FieldType.boolean), 1, 1, [1227, 80, 1226, 46]) := ⟨gcw (p := 1227) rfl, by decide +kernel⟩
set_option maxRecDepth 100000 in
theorem gMw_160 : gMw (yX10_name, prog_12_method_24_code, 1, (some FieldType.int), 1, 0, [1231, 80, 1230, 47]) := ⟨gcw (p := 1231) rfl, by decide +kernel⟩
set_option maxRecDepth 100000 in
theorem gMw_161 : gMw (yX10_force, prog_12_method_34_code, 3, (some FieldType.int), 1, 1, [1247, 80, 1245, 1246]) := ⟨gcw (p := 1247) rfl, by decide +kernel⟩
set_option maxRecDepth 100000 in
theorem gMw_162 : gMw (yX10_says, prog_12_method_37_code, 5, (some FieldType.int), 1, 4, [1251, 80, 1249, 1250]) := ⟨gcw (p := 1251) rfl, by decide +kernel⟩
set_option maxRecDepth 100000 in
theorem gMw_163 : gMw (yX10_isTenth, prog_12_method_5_code, 2, (some FieldType.boolean), 1, 1, [1255, 80, 1254, 48]) := ⟨gcw (p := 1255) rfl, by decide +kernel⟩
set_option maxRecDepth 100000 in
theorem gMw_164 : gMw (yX10_saysOf, prog_12_method_36_code, 6, (some FieldType.int), 1, 5, [1260, 80, 1259, 49]) := ⟨gcw (p := 1260) rfl, by decide +kernel⟩
set_option maxRecDepth 100000 in
theorem gMw_165 : gMw (yX10_within, prog_12_method_35_code, 3, (some FieldType.int), 0, 3, [1263, 80, 1262, 0]) := ⟨gcw (p := 1263) rfl, by decide +kernel⟩
set_option maxRecDepth 100000 in
theorem gMw_166 : gMw (yX10_ride, prog_12_method_43_code, 4, (some FieldType.int), 1, 3, [1267, 80, 1265, 1266]) := ⟨gcw (p := 1267) rfl, by decide +kernel⟩
set_option maxRecDepth 100000 in
theorem gMw_167 : gMw (yX10_isGroup, prog_12_method_7_code, 2, (some FieldType.boolean), 1, 1, [1271, 80, 1270, 50]) := ⟨gcw (p := 1271) rfl, by decide +kernel⟩
set_option maxRecDepth 100000 in
theorem gMw_168 : gMw (yX10_areTenths, prog_12_method_8_code, 2, (some FieldType.boolean), 1, 1, [1275, 80, 1274, 51]) := ⟨gcw (p := 1275) rfl, by decide +kernel⟩
set_option maxRecDepth 100000 in
theorem gMw_169 : gMw (yX10_goes1, prog_12_method_41_code, 4, none, 1, 2, [1279, 80, 1278, 52]) := ⟨gcw (p := 1279) rfl, by decide +kernel⟩
set_option maxRecDepth 100000 in
theorem gMw_170 : gMw (yX10_begins, prog_12_method_38_code, 4, none, 1, 2, [1283, 80, 1282, 53]) := ⟨gcw (p := 1283) rfl, by decide +kernel⟩
set_option maxRecDepth 100000 in
theorem gMw_171 : gMw (yX10_rides, prog_12_method_40_code, 14, (some FieldType.int), 1, 2, [1287, 80, 1286, 54]) := ⟨gcw (p := 1287) rfl, by decide +kernel⟩
set_option maxRecDepth 100000 in
theorem gMw_172 : gMw (yX10_turnsOn, prog_12_method_39_code, 5, none, 1, 1, [1291, 80, 1290, 55]) := ⟨gcw (p := 1291) rfl, by decide +kernel⟩
set_option maxRecDepth 100000 in
theorem gMw_173 : gMw (yX10_leftIn, prog_12_method_42_code, 3, (some FieldType.int), 1, 0, [1295, 80, 1294, 56]) := ⟨gcw (p := 1295) rfl, by decide +kernel⟩
set_option maxRecDepth 100000 in
theorem gMw_174 : gMw (yX10_spent, prog_12_method_44_code, 4, (some FieldType.long), 1, 3, [1299, 80, 1297, 1298]) := ⟨gcw (p := 1299) rfl, by decide +kernel⟩
set_option maxRecDepth 100000 in
theorem gMw_175 : gMw (yX10_ridden, prog_12_method_45_code, 4, (some FieldType.int), 1, 2, [1304, 80, 1302, 1303]) := ⟨gcw (p := 1304) rfl, by decide +kernel⟩
set_option maxRecDepth 100000 in
theorem gMw_176 : gMw (yX10_caught, prog_12_method_48_code, 6, (some FieldType.long), 1, 5, [1308, 80, 1306, 1307]) := ⟨gcw (p := 1308) rfl, by decide +kernel⟩
set_option maxRecDepth 100000 in
theorem gMw_177 : gMw (yX10_areGroups, prog_12_method_47_code, 3, (some FieldType.boolean), 1, 2, [1312, 80, 1311, 57]) := ⟨gcw (p := 1312) rfl, by decide +kernel⟩
set_option maxRecDepth 100000 in
theorem gMw_178 : gMw (yX10_chases, prog_12_method_46_code, 7, none, 1, 5, [1317, 80, 1316, 58]) := ⟨gcw (p := 1317) rfl, by decide +kernel⟩
set_option maxRecDepth 100000 in
theorem gMw_179 : gMw (yX10_clock, prog_12_method_49_code, 6, (some FieldType.long), 1, 5, [1321, 80, 1319, 1320]) := ⟨gcw (p := 1321) rfl, by decide +kernel⟩
set_option maxRecDepth 100000 in
theorem gMw_180 : gMw (yX10_worth, prog_12_method_51_code, 4, (some FieldType.long), 1, 3, [1327, 80, 1325, 1326]) := ⟨gcw (p := 1327) rfl, by decide +kernel⟩
set_option maxRecDepth 100000 in
theorem gMw_181 : gMw (yX10_lossOf, prog_12_method_50_code, 4, (some FieldType.int), 1, 3, [1331, 80, 1330, 59]) := ⟨gcw (p := 1331) rfl, by decide +kernel⟩
set_option maxRecDepth 100000 in
theorem gMw_182 : gMw (yX10_turns, prog_12_method_53_code, 6, (some FieldType.long), 1, 3, [1335, 80, 1333, 1334]) := ⟨gcw (p := 1335) rfl, by decide +kernel⟩
set_option maxRecDepth 100000 in
theorem gMw_183 : gMw (yX10_lossBy, prog_12_method_52_code, 7, (some FieldType.int), 1, 3, [1339, 80, 1338, 60]) := ⟨gcw (p := 1339) rfl, by decide +kernel⟩
set_option maxRecDepth 100000 in
theorem gMw_184 : gMw (yX10_game, prog_12_method_55_code, 15, (some FieldType.int), 1, 3, [1343, 80, 1341, 1342]) := ⟨gcw (p := 1343) rfl, by decide +kernel⟩
set_option maxRecDepth 100000 in
theorem gMw_185 : gMw (yX10_bitsOf, prog_12_method_54_code, 3, (some FieldType.int), 0, 1, [1346, 80, 1345, 0]) := ⟨gcw (p := 1346) rfl, by decide +kernel⟩
set_option maxRecDepth 100000 in
theorem gMw_186 : gMw (yX10_isSheet, prog_12_method_65_code, 1, (some FieldType.boolean), 0, 1, [1349, 80, 1348, 0]) := ⟨gcw (p := 1349) rfl, by decide +kernel⟩
set_option maxRecDepth 100000 in
theorem gMw_187 : gMw (yX10_goes, prog_12_method_56_code, 4, (some FieldType.int), 1, 2, [1353, 80, 1351, 1352]) := ⟨gcw (p := 1353) rfl, by decide +kernel⟩
set_option maxRecDepth 100000 in
theorem gMw_188 : gMw (yX10_train, prog_12_method_58_code, 3, (some FieldType.int), 1, 2, [1357, 80, 1355, 1356]) := ⟨gcw (p := 1357) rfl, by decide +kernel⟩
set_option maxRecDepth 100000 in
theorem gMw_189 : gMw (yX10_couples, prog_12_method_57_code, 5, none, 1, 3, [1362, 80, 1361, 61]) := ⟨gcw (p := 1362) rfl, by decide +kernel⟩
set_option maxRecDepth 100000 in
theorem gMw_190 : gMw (yX10_split, prog_12_method_59_code, 4, (some FieldType.int), 1, 2, [1366, 80, 1364, 1365]) := ⟨gcw (p := 1366) rfl, by decide +kernel⟩
set_option maxRecDepth 100000 in
theorem gMw_191 : gMw (yX10_film, prog_12_method_60_code, 5, (some FieldType.int), 1, 3, [1370, 80, 1368, 1369]) := ⟨gcw (p := 1370) rfl, by decide +kernel⟩
set_option maxRecDepth 100000 in
theorem gMw_192 : gMw (yX10_wrong, prog_12_method_61_code, 6, (some FieldType.int), 1, 2, [1374, 80, 1372, 1373]) := ⟨gcw (p := 1374) rfl, by decide +kernel⟩
set_option maxRecDepth 100000 in
theorem gMw_193 : gMw (yX10_image, prog_12_method_62_code, 2, (some FieldType.int), 1, 0, [1378, 80, 1376, 1377]) := ⟨gcw (p := 1378) rfl, by decide +kernel⟩
set_option maxRecDepth 100000 in
theorem gMw_194 : gMw (yX10_back, prog_12_method_63_code, 3, (some FieldType.int), 1, 0, [1382, 80, 1380, 1381]) := ⟨gcw (p := 1382) rfl, by decide +kernel⟩
set_option maxRecDepth 100000 in
theorem gMw_195 : gMw (yX10_count, prog_12_method_64_code, 4, (some FieldType.int), 1, 1, [1386, 80, 1384, 1385]) := ⟨gcw (p := 1386) rfl, by decide +kernel⟩
set_option maxRecDepth 100000 in
theorem gMw_196 : gMw (yX10_sheet, prog_12_method_66_code, 5, (some FieldType.int), 1, 3, [1390, 80, 1388, 1389]) := ⟨gcw (p := 1390) rfl, by decide +kernel⟩
set_option maxRecDepth 100000 in
theorem gMw_197 : gMw (yX10_cell, prog_12_method_67_code, 4, (some FieldType.int), 1, 3, [1394, 80, 1392, 1393]) := ⟨gcw (p := 1394) rfl, by decide +kernel⟩
set_option maxRecDepth 100000 in
theorem gMw_198 : gMw (yX10_copy, prog_12_method_68_code, 9, (some FieldType.int), 1, 5, [1398, 80, 1396, 1397]) := ⟨gcw (p := 1398) rfl, by decide +kernel⟩
set_option maxRecDepth 100000 in
theorem gMw_199 : gMw (yX10_tenths, prog_12_method_69_code, 8, (some FieldType.int), 1, 4, [1402, 80, 1400, 1401]) := ⟨gcw (p := 1402) rfl, by decide +kernel⟩
set_option maxRecDepth 100000 in
theorem gMw_200 : gMw (yX10_taken, prog_12_method_71_code, 4, (some FieldType.int), 1, 2, [1408, 80, 1406, 1407]) := ⟨gcw (p := 1408) rfl, by decide +kernel⟩
set_option maxRecDepth 100000 in
theorem gMw_201 : gMw (yX10_over, prog_12_method_70_code, 1, (some FieldType.int), 0, 1, [1411, 80, 1410, 0]) := ⟨gcw (p := 1411) rfl, by decide +kernel⟩
theorem gMt0_ok : ∀ q ∈ gMt0, gMw q := List.forall_mem_cons.mpr ⟨gMw_0, List.forall_mem_cons.mpr ⟨gMw_1, List.forall_mem_cons.mpr ⟨gMw_2, List.forall_mem_cons.mpr ⟨gMw_3, List.forall_mem_cons.mpr ⟨gMw_4, List.forall_mem_cons.mpr ⟨gMw_5, List.forall_mem_cons.mpr ⟨gMw_6, List.forall_mem_cons.mpr ⟨gMw_7, List.forall_mem_cons.mpr ⟨gMw_8, List.forall_mem_cons.mpr ⟨gMw_9, List.forall_mem_cons.mpr ⟨gMw_10, List.forall_mem_cons.mpr ⟨gMw_11, List.forall_mem_cons.mpr ⟨gMw_12, List.forall_mem_cons.mpr ⟨gMw_13, List.forall_mem_cons.mpr ⟨gMw_14, List.forall_mem_cons.mpr ⟨gMw_15, List.forall_mem_cons.mpr ⟨gMw_16, List.forall_mem_cons.mpr ⟨gMw_17, List.forall_mem_cons.mpr ⟨gMw_18, List.forall_mem_cons.mpr ⟨gMw_19, List.forall_mem_cons.mpr ⟨gMw_20, List.forall_mem_cons.mpr ⟨gMw_21, List.forall_mem_cons.mpr ⟨gMw_22, List.forall_mem_cons.mpr ⟨gMw_23, List.forall_mem_cons.mpr ⟨gMw_24, List.forall_mem_cons.mpr ⟨gMw_25, List.forall_mem_cons.mpr ⟨gMw_26, List.forall_mem_cons.mpr ⟨gMw_27, List.forall_mem_cons.mpr ⟨gMw_28, List.forall_mem_cons.mpr ⟨gMw_29, List.forall_mem_cons.mpr ⟨gMw_30, List.forall_mem_cons.mpr ⟨gMw_31, List.forall_mem_cons.mpr ⟨gMw_32, List.forall_mem_cons.mpr ⟨gMw_33, List.forall_mem_cons.mpr ⟨gMw_34, List.forall_mem_cons.mpr ⟨gMw_35, List.forall_mem_cons.mpr ⟨gMw_36, List.forall_mem_cons.mpr ⟨gMw_37, List.forall_mem_cons.mpr ⟨gMw_38, List.forall_mem_cons.mpr ⟨gMw_39, fun _ h => absurd h List.not_mem_nil⟩⟩⟩⟩⟩⟩⟩⟩⟩⟩⟩⟩⟩⟩⟩⟩⟩⟩⟩⟩⟩⟩⟩⟩⟩⟩⟩⟩⟩⟩⟩⟩⟩⟩⟩⟩⟩⟩⟩⟩
theorem gMt1_ok : ∀ q ∈ gMt1, gMw q := List.forall_mem_cons.mpr ⟨gMw_40, List.forall_mem_cons.mpr ⟨gMw_41, List.forall_mem_cons.mpr ⟨gMw_42, List.forall_mem_cons.mpr ⟨gMw_43, List.forall_mem_cons.mpr ⟨gMw_44, List.forall_mem_cons.mpr ⟨gMw_45, List.forall_mem_cons.mpr ⟨gMw_46, List.forall_mem_cons.mpr ⟨gMw_47, List.forall_mem_cons.mpr ⟨gMw_48, List.forall_mem_cons.mpr ⟨gMw_49, List.forall_mem_cons.mpr ⟨gMw_50, List.forall_mem_cons.mpr ⟨gMw_51, List.forall_mem_cons.mpr ⟨gMw_52, List.forall_mem_cons.mpr ⟨gMw_53, List.forall_mem_cons.mpr ⟨gMw_54, List.forall_mem_cons.mpr ⟨gMw_55, List.forall_mem_cons.mpr ⟨gMw_56, List.forall_mem_cons.mpr ⟨gMw_57, List.forall_mem_cons.mpr ⟨gMw_58, List.forall_mem_cons.mpr ⟨gMw_59, List.forall_mem_cons.mpr ⟨gMw_60, List.forall_mem_cons.mpr ⟨gMw_61, List.forall_mem_cons.mpr ⟨gMw_62, List.forall_mem_cons.mpr ⟨gMw_63, List.forall_mem_cons.mpr ⟨gMw_64, List.forall_mem_cons.mpr ⟨gMw_65, List.forall_mem_cons.mpr ⟨gMw_66, List.forall_mem_cons.mpr ⟨gMw_67, List.forall_mem_cons.mpr ⟨gMw_68, List.forall_mem_cons.mpr ⟨gMw_69, List.forall_mem_cons.mpr ⟨gMw_70, List.forall_mem_cons.mpr ⟨gMw_71, List.forall_mem_cons.mpr ⟨gMw_72, List.forall_mem_cons.mpr ⟨gMw_73, List.forall_mem_cons.mpr ⟨gMw_74, List.forall_mem_cons.mpr ⟨gMw_75, List.forall_mem_cons.mpr ⟨gMw_76, List.forall_mem_cons.mpr ⟨gMw_77, List.forall_mem_cons.mpr ⟨gMw_78, List.forall_mem_cons.mpr ⟨gMw_79, fun _ h => absurd h List.not_mem_nil⟩⟩⟩⟩⟩⟩⟩⟩⟩⟩⟩⟩⟩⟩⟩⟩⟩⟩⟩⟩⟩⟩⟩⟩⟩⟩⟩⟩⟩⟩⟩⟩⟩⟩⟩⟩⟩⟩⟩⟩
theorem gMt2_ok : ∀ q ∈ gMt2, gMw q := List.forall_mem_cons.mpr ⟨gMw_80, List.forall_mem_cons.mpr ⟨gMw_81, List.forall_mem_cons.mpr ⟨gMw_82, List.forall_mem_cons.mpr ⟨gMw_83, List.forall_mem_cons.mpr ⟨gMw_84, List.forall_mem_cons.mpr ⟨gMw_85, List.forall_mem_cons.mpr ⟨gMw_86, List.forall_mem_cons.mpr ⟨gMw_87, List.forall_mem_cons.mpr ⟨gMw_88, List.forall_mem_cons.mpr ⟨gMw_89, List.forall_mem_cons.mpr ⟨gMw_90, List.forall_mem_cons.mpr ⟨gMw_91, List.forall_mem_cons.mpr ⟨gMw_92, List.forall_mem_cons.mpr ⟨gMw_93, List.forall_mem_cons.mpr ⟨gMw_94, List.forall_mem_cons.mpr ⟨gMw_95, List.forall_mem_cons.mpr ⟨gMw_96, List.forall_mem_cons.mpr ⟨gMw_97, List.forall_mem_cons.mpr ⟨gMw_98, List.forall_mem_cons.mpr ⟨gMw_99, List.forall_mem_cons.mpr ⟨gMw_100, List.forall_mem_cons.mpr ⟨gMw_101, List.forall_mem_cons.mpr ⟨gMw_102, List.forall_mem_cons.mpr ⟨gMw_103, List.forall_mem_cons.mpr ⟨gMw_104, List.forall_mem_cons.mpr ⟨gMw_105, List.forall_mem_cons.mpr ⟨gMw_106, List.forall_mem_cons.mpr ⟨gMw_107, List.forall_mem_cons.mpr ⟨gMw_108, List.forall_mem_cons.mpr ⟨gMw_109, List.forall_mem_cons.mpr ⟨gMw_110, List.forall_mem_cons.mpr ⟨gMw_111, List.forall_mem_cons.mpr ⟨gMw_112, List.forall_mem_cons.mpr ⟨gMw_113, List.forall_mem_cons.mpr ⟨gMw_114, List.forall_mem_cons.mpr ⟨gMw_115, List.forall_mem_cons.mpr ⟨gMw_116, List.forall_mem_cons.mpr ⟨gMw_117, List.forall_mem_cons.mpr ⟨gMw_118, List.forall_mem_cons.mpr ⟨gMw_119, fun _ h => absurd h List.not_mem_nil⟩⟩⟩⟩⟩⟩⟩⟩⟩⟩⟩⟩⟩⟩⟩⟩⟩⟩⟩⟩⟩⟩⟩⟩⟩⟩⟩⟩⟩⟩⟩⟩⟩⟩⟩⟩⟩⟩⟩⟩
theorem gMt3_ok : ∀ q ∈ gMt3, gMw q := List.forall_mem_cons.mpr ⟨gMw_120, List.forall_mem_cons.mpr ⟨gMw_121, List.forall_mem_cons.mpr ⟨gMw_122, List.forall_mem_cons.mpr ⟨gMw_123, List.forall_mem_cons.mpr ⟨gMw_124, List.forall_mem_cons.mpr ⟨gMw_125, List.forall_mem_cons.mpr ⟨gMw_126, List.forall_mem_cons.mpr ⟨gMw_127, List.forall_mem_cons.mpr ⟨gMw_128, List.forall_mem_cons.mpr ⟨gMw_129, List.forall_mem_cons.mpr ⟨gMw_130, List.forall_mem_cons.mpr ⟨gMw_131, List.forall_mem_cons.mpr ⟨gMw_132, List.forall_mem_cons.mpr ⟨gMw_133, List.forall_mem_cons.mpr ⟨gMw_134, List.forall_mem_cons.mpr ⟨gMw_135, List.forall_mem_cons.mpr ⟨gMw_136, List.forall_mem_cons.mpr ⟨gMw_137, List.forall_mem_cons.mpr ⟨gMw_138, List.forall_mem_cons.mpr ⟨gMw_139, List.forall_mem_cons.mpr ⟨gMw_140, List.forall_mem_cons.mpr ⟨gMw_141, List.forall_mem_cons.mpr ⟨gMw_142, List.forall_mem_cons.mpr ⟨gMw_143, List.forall_mem_cons.mpr ⟨gMw_144, List.forall_mem_cons.mpr ⟨gMw_145, List.forall_mem_cons.mpr ⟨gMw_146, List.forall_mem_cons.mpr ⟨gMw_147, List.forall_mem_cons.mpr ⟨gMw_148, List.forall_mem_cons.mpr ⟨gMw_149, List.forall_mem_cons.mpr ⟨gMw_150, List.forall_mem_cons.mpr ⟨gMw_151, List.forall_mem_cons.mpr ⟨gMw_152, List.forall_mem_cons.mpr ⟨gMw_153, List.forall_mem_cons.mpr ⟨gMw_154, List.forall_mem_cons.mpr ⟨gMw_155, List.forall_mem_cons.mpr ⟨gMw_156, List.forall_mem_cons.mpr ⟨gMw_157, List.forall_mem_cons.mpr ⟨gMw_158, List.forall_mem_cons.mpr ⟨gMw_159, fun _ h => absurd h List.not_mem_nil⟩⟩⟩⟩⟩⟩⟩⟩⟩⟩⟩⟩⟩⟩⟩⟩⟩⟩⟩⟩⟩⟩⟩⟩⟩⟩⟩⟩⟩⟩⟩⟩⟩⟩⟩⟩⟩⟩⟩⟩
theorem gMt4_ok : ∀ q ∈ gMt4, gMw q := List.forall_mem_cons.mpr ⟨gMw_160, List.forall_mem_cons.mpr ⟨gMw_161, List.forall_mem_cons.mpr ⟨gMw_162, List.forall_mem_cons.mpr ⟨gMw_163, List.forall_mem_cons.mpr ⟨gMw_164, List.forall_mem_cons.mpr ⟨gMw_165, List.forall_mem_cons.mpr ⟨gMw_166, List.forall_mem_cons.mpr ⟨gMw_167, List.forall_mem_cons.mpr ⟨gMw_168, List.forall_mem_cons.mpr ⟨gMw_169, List.forall_mem_cons.mpr ⟨gMw_170, List.forall_mem_cons.mpr ⟨gMw_171, List.forall_mem_cons.mpr ⟨gMw_172, List.forall_mem_cons.mpr ⟨gMw_173, List.forall_mem_cons.mpr ⟨gMw_174, List.forall_mem_cons.mpr ⟨gMw_175, List.forall_mem_cons.mpr ⟨gMw_176, List.forall_mem_cons.mpr ⟨gMw_177, List.forall_mem_cons.mpr ⟨gMw_178, List.forall_mem_cons.mpr ⟨gMw_179, List.forall_mem_cons.mpr ⟨gMw_180, List.forall_mem_cons.mpr ⟨gMw_181, List.forall_mem_cons.mpr ⟨gMw_182, List.forall_mem_cons.mpr ⟨gMw_183, List.forall_mem_cons.mpr ⟨gMw_184, List.forall_mem_cons.mpr ⟨gMw_185, List.forall_mem_cons.mpr ⟨gMw_186, List.forall_mem_cons.mpr ⟨gMw_187, List.forall_mem_cons.mpr ⟨gMw_188, List.forall_mem_cons.mpr ⟨gMw_189, List.forall_mem_cons.mpr ⟨gMw_190, List.forall_mem_cons.mpr ⟨gMw_191, List.forall_mem_cons.mpr ⟨gMw_192, List.forall_mem_cons.mpr ⟨gMw_193, List.forall_mem_cons.mpr ⟨gMw_194, List.forall_mem_cons.mpr ⟨gMw_195, List.forall_mem_cons.mpr ⟨gMw_196, List.forall_mem_cons.mpr ⟨gMw_197, List.forall_mem_cons.mpr ⟨gMw_198, List.forall_mem_cons.mpr ⟨gMw_199, fun _ h => absurd h List.not_mem_nil⟩⟩⟩⟩⟩⟩⟩⟩⟩⟩⟩⟩⟩⟩⟩⟩⟩⟩⟩⟩⟩⟩⟩⟩⟩⟩⟩⟩⟩⟩⟩⟩⟩⟩⟩⟩⟩⟩⟩⟩
theorem gMt5_ok : ∀ q ∈ gMt5, gMw q := List.forall_mem_cons.mpr ⟨gMw_200, List.forall_mem_cons.mpr ⟨gMw_201, fun _ h => absurd h List.not_mem_nil⟩⟩
theorem gMt_ok : ∀ q ∈ gMt, gMw q := by
  intro q h
  simp only [gMt, List.mem_append] at h
  rcases h with ((((h | h) | h) | h) | h) | h
  · exact gMt0_ok q h
  · exact gMt1_ok q h
  · exact gMt2_ok q h
  · exact gMt3_ok q h
  · exact gMt4_ok q h
  · exact gMt5_ok q h
def gNest : List Cond := [.methodLinkNest RX9 9 yX2_init RX9, .methodLinkNest RX9 18 yX6_init RX9, .methodLinkNest RX9 25 yX5_init RX9, .methodLinkNest RX9 62 yX0_init RX9, .methodLinkNest RX9 73 yX4_init RX9, .methodLinkNest RX6 31 yX9_isPower RX9, .methodLinkNest RX6 35 yX9_isStore RX9, .methodLinkNest RX3 60 yX9_within RX9, .methodLinkNest RX1 94 yX9_within RX9]
/-- the Strings that are told by constants: class, entry, text, the place of its word -/
def gStr : List (String × Nat × String × Nat) := [(RX9, 74, "spend 12 + wind - place * 4 + slope ; fill place ; pace power - slope - wind ;", 334), (RX5, 118, "spend", 406), (RX5, 120, "fill", 407), (RX5, 122, "pace", 408), (RX5, 124, "or", 409), (RX5, 126, "and", 410), (RX5, 128, "not", 411), (RX5, 130, "power", 412), (RX5, 132, "place", 413), (RX5, 134, "slope", 414), (RX5, 136, "wind", 415), (RX5, 138, "store", 416), (RX5, 140, "left", 417)]
def gStrL : List Nat := [78, 5, 4, 4, 2, 3, 3, 5, 5, 5, 4, 5, 4]
def gStrB : List (List Int32) := [[115, 112, 101, 110, 100, 32, 49, 50, 32, 43, 32, 119, 105, 110, 100, 32, 45, 32, 112, 108, 97, 99, 101, 32, 42, 32, 52, 32, 43, 32, 115, 108, 111, 112, 101, 32, 59, 32, 102, 105, 108, 108, 32, 112, 108, 97, 99, 101, 32, 59, 32, 112, 97, 99, 101, 32, 112, 111, 119, 101, 114, 32, 45, 32, 115, 108, 111, 112, 101, 32, 45, 32, 119, 105, 110, 100, 32, 59], [115, 112, 101, 110, 100], [102, 105, 108, 108], [112, 97, 99, 101], [111, 114], [97, 110, 100], [110, 111, 116], [112, 111, 119, 101, 114], [112, 108, 97, 99, 101], [115, 108, 111, 112, 101], [119, 105, 110, 100], [115, 116, 111, 114, 101], [108, 101, 102, 116]]
