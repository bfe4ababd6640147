abbrev nJ0_length_8abf5 : Nat := 9
abbrev qJ0_length_8abf5 : gM := (yJ0_length_8abf5, prog_17_method_54_code, 1, (some FieldType.int), 1, 0, [338, 72, 336, 337])
def kJ0_length_8abf5 : List gI := [(0, 1, .aload_n 0, (0, 0, 0), .null, []),
  (1, 4, .getfield 9, (20, 1, 1413), .null, []),
  (4, 5, .arraylength, (0, 0, 0), .null, []),
  (5, 6, .aload_n 0, (0, 0, 0), .null, []),
  (6, 9, .invokevirtual 335, (10, 0, 339), .null, [(0, 20)]),
  (9, 10, .ishr, (0, 0, 0), .null, []),
  (10, 11, .ireturn, (0, 0, 0), .null, [])]
set_option maxRecDepth 100000 in
theorem iJ0_length_8abf5 : gMt[9]? = some qJ0_length_8abf5 := rfl
theorem tJ0_length_8abf5 : gTab 9 kJ0_length_8abf5 := gTab_of iJ0_length_8abf5 (by decide +kernel)
abbrev nJ0_coder_7d493 : Nat := 10
abbrev qJ0_coder_7d493 : gM := (yJ0_coder_7d493, prog_17_method_152_code, 1, (some FieldType.byte), 1, 0, [342, 72, 340, 341])
def kJ0_coder_7d493 : List gI := [(0, 3, .getstatic 38, (2, 0, 343), .null, []),
  (3, 6, .ifCond .eq 10, (13, 0, 0), .null, []),
  (6, 7, .aload_n 0, (0, 0, 0), .null, []),
  (7, 10, .getfield 15, (20, 0, 1414), .null, []),
  (10, 13, .goto 4, (14, 0, 0), .null, []),
  (13, 14, .iconst 1, (0, 0, 0), .int (1), []),
  (14, 15, .ireturn, (0, 0, 0), .null, [])]
set_option maxRecDepth 100000 in
theorem iJ0_coder_7d493 : gMt[10]? = some qJ0_coder_7d493 := rfl
theorem tJ0_coder_7d493 : gTab 10 kJ0_coder_7d493 := gTab_of iJ0_coder_7d493 (by decide +kernel)
abbrev nJ0_charAt_5068e : Nat := 11
abbrev qJ0_charAt_5068e : gM := (yJ0_charAt_5068e, prog_17_method_56_code, 2, (some FieldType.char), 1, 1, [348, 72, 346, 347])
def kJ0_charAt_5068e : List gI := [(0, 1, .aload_n 0, (0, 0, 0), .null, []),
  (1, 4, .invokevirtual 492, (12, 0, 349), .null, [(0, 20)]),
  (4, 7, .ifCond .eq 12, (16, 0, 0), .null, []),
  (7, 8, .aload_n 0, (0, 0, 0), .null, []),
  (8, 11, .getfield 9, (20, 1, 1413), .null, []),
  (11, 12, .iload_n 1, (0, 0, 0), .null, []),
  (12, 15, .invokestatic 495, (13, 2, 353), .null, []),
  (15, 16, .ireturn, (0, 0, 0), .null, []),
  (16, 17, .aload_n 0, (0, 0, 0), .null, []),
  (17, 20, .getfield 9, (20, 1, 1413), .null, []),
  (20, 21, .iload_n 1, (0, 0, 0), .null, []),
  (21, 24, .invokestatic 498, (16, 2, 364), .null, []),
  (24, 25, .ireturn, (0, 0, 0), .null, [])]
set_option maxRecDepth 100000 in
theorem iJ0_charAt_5068e : gMt[11]? = some qJ0_charAt_5068e := rfl
theorem tJ0_charAt_5068e : gTab 11 kJ0_charAt_5068e := gTab_of iJ0_charAt_5068e (by decide +kernel)
abbrev nJ0_isLatin1_aae02 : Nat := 12
abbrev qJ0_isLatin1_aae02 : gM := (yJ0_isLatin1_aae02, prog_17_method_154_code, 1, (some FieldType.boolean), 1, 0, [352, 72, 350, 351])
def kJ0_isLatin1_aae02 : List gI := [(0, 3, .getstatic 38, (2, 0, 343), .null, []),
  (3, 6, .ifCond .eq 14, (17, 0, 0), .null, []),
  (6, 7, .aload_n 0, (0, 0, 0), .null, []),
  (7, 10, .getfield 15, (20, 0, 1414), .null, []),
  (10, 13, .ifCond .ne 7, (17, 0, 0), .null, []),
  (13, 14, .iconst 1, (0, 0, 0), .int (1), []),
  (14, 17, .goto 4, (18, 0, 0), .null, []),
  (17, 18, .iconst 0, (0, 0, 0), .int (0), []),
  (18, 19, .ireturn, (0, 0, 0), .null, [])]
set_option maxRecDepth 100000 in
theorem iJ0_isLatin1_aae02 : gMt[12]? = some qJ0_isLatin1_aae02 := rfl
theorem tJ0_isLatin1_aae02 : gTab 12 kJ0_isLatin1_aae02 := gTab_of iJ0_isLatin1_aae02 (by decide +kernel)
abbrev nJ1_charAt_3b067 : Nat := 13
abbrev qJ1_charAt_3b067 : gM := (yJ1_charAt_3b067, prog_18_method_2_code, 2, (some FieldType.char), 0, 2, [355, 73, 354, 0])
def kJ1_charAt_3b067 : List gI := [(0, 1, .iload_n 1, (0, 0, 0), .null, []),
  (1, 2, .aload_n 0, (0, 0, 0), .null, []),
  (2, 3, .arraylength, (0, 0, 0), .null, []),
  (3, 6, .invokestatic 9, (14, 2, 356), .null, []),
  (6, 7, .aload_n 0, (0, 0, 0), .null, []),
  (7, 8, .iload_n 1, (0, 0, 0), .null, []),
  (8, 9, .baload, (0, 0, 0), .null, []),
  (9, 12, .sipush 255, (0, 0, 0), .int (255), []),
  (12, 13, .iand, (0, 0, 0), .null, []),
  (13, 14, .i2c, (0, 0, 0), .null, []),
  (14, 15, .ireturn, (0, 0, 0), .null, [])]
set_option maxRecDepth 100000 in
theorem iJ1_charAt_3b067 : gMt[13]? = some qJ1_charAt_3b067 := rfl
theorem tJ1_charAt_3b067 : gTab 13 kJ1_charAt_3b067 := gTab_of iJ1_charAt_3b067 (by decide +kernel)
abbrev nJ0_checkIndex_df160 : Nat := 14
abbrev qJ0_checkIndex_df160 : gM := (yJ0_checkIndex_df160, prog_17_method_155_code, 2, none, 0, 2, [358, 72, 357, 0])
def kJ0_checkIndex_df160 : List gI := [(0, 1, .iload_n 0, (0, 0, 0), .null, []),
  (1, 2, .iload_n 1, (0, 0, 0), .null, []),
  (2, 5, .getstatic 1053, (3, 0, 359), .null, []),
  (5, 8, .invokestatic 1059, (15, 3, 361), .null, []),
  (8, 9, .pop, (0, 0, 0), .null, []),
  (9, 10, .return_, (0, 0, 0), .null, [])]
set_option maxRecDepth 100000 in
theorem iJ0_checkIndex_df160 : gMt[14]? = some qJ0_checkIndex_df160 := rfl
theorem tJ0_checkIndex_df160 : gTab 14 kJ0_checkIndex_df160 := gTab_of iJ0_checkIndex_df160 (by decide +kernel)
abbrev nJ3_checkIndex_8e157 : Nat := 15
abbrev qJ3_checkIndex_8e157 : gM := (yJ3_checkIndex_8e157, prog_22_method_11_code, 3, (some FieldType.int), 0, 3, [363, 74, 362, 0])
def kJ3_checkIndex_8e157 : List gI := [(0, 1, .iload_n 0, (0, 0, 0), .null, []),
  (1, 4, .ifCond .lt 8, (9, 0, 0), .null, []),
  (4, 5, .iload_n 0, (0, 0, 0), .null, []),
  (5, 6, .iload_n 1, (0, 0, 0), .null, []),
  (6, 9, .if_icmp .lt 10, (16, 0, 0), .null, []),
  (9, 10, .aload_n 2, (0, 0, 0), .null, []),
  (10, 11, .iload_n 0, (0, 0, 0), .null, []),
  (11, 12, .iload_n 1, (0, 0, 0), .null, []),
  (16, 17, .iload_n 0, (0, 0, 0), .null, []),
  (17, 18, .ireturn, (0, 0, 0), .null, [])]
set_option maxRecDepth 100000 in
theorem iJ3_checkIndex_8e157 : gMt[15]? = some qJ3_checkIndex_8e157 := rfl
theorem tJ3_checkIndex_8e157 : gTab 15 kJ3_checkIndex_8e157 := gTab_of iJ3_checkIndex_8e157 (by decide +kernel)
abbrev nJ7_copyOf_59c91 : Nat := 40
abbrev qJ7_copyOf_59c91 : gM := (yJ7_copyOf_59c91, prog_21_method_123_code, 3, (some (FieldType.array FieldType.int)), 0, 2, [479, 77, 478, 0])
def kJ7_copyOf_59c91 : List gI := [(0, 1, .iload_n 1, (0, 0, 0), .null, []),
  (1, 2, .aload_n 0, (0, 0, 0), .null, []),
  (2, 3, .arraylength, (0, 0, 0), .null, []),
  (3, 6, .if_icmp .ne 11, (14, 0, 0), .null, []),
  (6, 7, .aload_n 0, (0, 0, 0), .null, []),
  (13, 14, .areturn, (0, 0, 0), .null, []),
  (14, 15, .iload_n 1, (0, 0, 0), .null, []),
  (15, 17, .newarray .int, (0, 0, 118), .null, []),
  (17, 18, .astore_n 2, (0, 0, 0), .null, []),
  (18, 19, .aload_n 0, (0, 0, 0), .null, []),
  (19, 20, .iconst 0, (0, 0, 0), .int (0), []),
  (20, 21, .aload_n 2, (0, 0, 0), .null, []),
  (21, 22, .iconst 0, (0, 0, 0), .int (0), []),
  (22, 23, .aload_n 0, (0, 0, 0), .null, []),
  (23, 24, .arraylength, (0, 0, 0), .null, []),
  (24, 25, .iload_n 1, (0, 0, 0), .null, []),
  (25, 28, .invokestatic 304, (9002, 0, 487), .null, []),
  (28, 31, .invokestatic 150, (9003, 0, 490), .null, []),
  (31, 32, .aload_n 2, (0, 0, 0), .null, []),
  (32, 33, .areturn, (0, 0, 0), .null, [])]
set_option maxRecDepth 100000 in
theorem iJ7_copyOf_59c91 : gMt[40]? = some qJ7_copyOf_59c91 := rfl
theorem tJ7_copyOf_59c91 : gTab 40 kJ7_copyOf_59c91 := gTab_of iJ7_copyOf_59c91 (by decide +kernel)
abbrev nJ6_bitCount_0f7a4 : Nat := 98
abbrev qJ6_bitCount_0f7a4 : gM := (yJ6_bitCount_0f7a4, prog_14_method_49_code, 1, (some FieldType.int), 0, 1, [778, 81, 777, 0])
def kJ6_bitCount_0f7a4 : List gI := [(0, 1, .iload_n 0, (0, 0, 0), .null, []),
  (1, 2, .iload_n 0, (0, 0, 0), .null, []),
  (2, 3, .iconst 1, (0, 0, 0), .int (1), []),
  (3, 4, .iushr, (0, 0, 0), .null, []),
  (4, 7, .ldc_w 265, (0, 0, 779), .int (1431655765), []),
  (7, 8, .iand, (0, 0, 0), .null, []),
  (8, 9, .isub, (0, 0, 0), .null, []),
  (9, 10, .istore_n 0, (0, 0, 0), .null, []),
  (10, 11, .iload_n 0, (0, 0, 0), .null, []),
  (11, 14, .ldc_w 266, (0, 0, 780), .int (858993459), []),
  (14, 15, .iand, (0, 0, 0), .null, []),
  (15, 16, .iload_n 0, (0, 0, 0), .null, []),
  (16, 17, .iconst 2, (0, 0, 0), .int (2), []),
  (17, 18, .iushr, (0, 0, 0), .null, []),
  (18, 21, .ldc_w 266, (0, 0, 780), .int (858993459), []),
  (21, 22, .iand, (0, 0, 0), .null, []),
  (22, 23, .iadd, (0, 0, 0), .null, []),
  (23, 24, .istore_n 0, (0, 0, 0), .null, []),
  (24, 25, .iload_n 0, (0, 0, 0), .null, []),
  (25, 26, .iload_n 0, (0, 0, 0), .null, []),
  (26, 27, .iconst 4, (0, 0, 0), .int (4), []),
  (27, 28, .iushr, (0, 0, 0), .null, []),
  (28, 29, .iadd, (0, 0, 0), .null, []),
  (29, 32, .ldc_w 267, (0, 0, 781), .int (252645135), []),
  (32, 33, .iand, (0, 0, 0), .null, []),
  (33, 34, .istore_n 0, (0, 0, 0), .null, []),
  (34, 35, .iload_n 0, (0, 0, 0), .null, []),
  (35, 36, .iload_n 0, (0, 0, 0), .null, []),
  (36, 38, .bipush 8, (0, 0, 0), .int (8), []),
  (38, 39, .iushr, (0, 0, 0), .null, []),
  (39, 40, .iadd, (0, 0, 0), .null, []),
  (40, 41, .istore_n 0, (0, 0, 0), .null, []),
  (41, 42, .iload_n 0, (0, 0, 0), .null, []),
  (42, 43, .iload_n 0, (0, 0, 0), .null, []),
  (43, 45, .bipush 16, (0, 0, 0), .int (16), []),
  (45, 46, .iushr, (0, 0, 0), .null, []),
  (46, 47, .iadd, (0, 0, 0), .null, []),
  (47, 48, .istore_n 0, (0, 0, 0), .null, []),
  (48, 49, .iload_n 0, (0, 0, 0), .null, []),
  (49, 51, .bipush 63, (0, 0, 0), .int (63), []),
  (51, 52, .iand, (0, 0, 0), .null, []),
  (52, 53, .ireturn, (0, 0, 0), .null, [])]
set_option maxRecDepth 100000 in
theorem iJ6_bitCount_0f7a4 : gMt[98]? = some qJ6_bitCount_0f7a4 := rfl
theorem tJ6_bitCount_0f7a4 : gTab 98 kJ6_bitCount_0f7a4 := gTab_of iJ6_bitCount_0f7a4 (by decide +kernel)
abbrev nJ13_bitCount_95d88 : Nat := 120
abbrev qJ13_bitCount_95d88 : gM := (yJ13_bitCount_95d88, prog_15_method_50_code, 2, (some FieldType.int), 0, 1, [867, 82, 866, 0])
def kJ13_bitCount_95d88 : List gI := [(0, 1, .lload_n 0, (0, 0, 0), .null, []),
  (1, 2, .lload_n 0, (0, 0, 0), .null, []),
  (2, 3, .iconst 1, (0, 0, 0), .int (1), []),
  (3, 4, .lushr, (0, 0, 0), .null, []),
  (4, 7, .ldc2_w 314, (0, 0, 868), .long (6148914691236517205), []),
  (7, 8, .land, (0, 0, 0), .null, []),
  (8, 9, .lsub, (0, 0, 0), .null, []),
  (9, 10, .lstore_n 0, (0, 0, 0), .null, []),
  (10, 11, .lload_n 0, (0, 0, 0), .null, []),
  (11, 14, .ldc2_w 316, (0, 0, 869), .long (3689348814741910323), []),
  (14, 15, .land, (0, 0, 0), .null, []),
  (15, 16, .lload_n 0, (0, 0, 0), .null, []),
  (16, 17, .iconst 2, (0, 0, 0), .int (2), []),
  (17, 18, .lushr, (0, 0, 0), .null, []),
  (18, 21, .ldc2_w 316, (0, 0, 869), .long (3689348814741910323), []),
  (21, 22, .land, (0, 0, 0), .null, []),
  (22, 23, .ladd, (0, 0, 0), .null, []),
  (23, 24, .lstore_n 0, (0, 0, 0), .null, []),
  (24, 25, .lload_n 0, (0, 0, 0), .null, []),
  (25, 26, .lload_n 0, (0, 0, 0), .null, []),
  (26, 27, .iconst 4, (0, 0, 0), .int (4), []),
  (27, 28, .lushr, (0, 0, 0), .null, []),
  (28, 29, .ladd, (0, 0, 0), .null, []),
  (29, 32, .ldc2_w 318, (0, 0, 870), .long (1085102592571150095), []),
  (32, 33, .land, (0, 0, 0), .null, []),
  (33, 34, .lstore_n 0, (0, 0, 0), .null, []),
  (34, 35, .lload_n 0, (0, 0, 0), .null, []),
  (35, 36, .lload_n 0, (0, 0, 0), .null, []),
  (36, 38, .bipush 8, (0, 0, 0), .int (8), []),
  (38, 39, .lushr, (0, 0, 0), .null, []),
  (39, 40, .ladd, (0, 0, 0), .null, []),
  (40, 41, .lstore_n 0, (0, 0, 0), .null, []),
  (41, 42, .lload_n 0, (0, 0, 0), .null, []),
  (42, 43, .lload_n 0, (0, 0, 0), .null, []),
  (43, 45, .bipush 16, (0, 0, 0), .int (16), []),
  (45, 46, .lushr, (0, 0, 0), .null, []),
  (46, 47, .ladd, (0, 0, 0), .null, []),
  (47, 48, .lstore_n 0, (0, 0, 0), .null, []),
  (48, 49, .lload_n 0, (0, 0, 0), .null, []),
  (49, 50, .lload_n 0, (0, 0, 0), .null, []),
  (50, 52, .bipush 32, (0, 0, 0), .int (32), []),
  (52, 53, .lushr, (0, 0, 0), .null, []),
  (53, 54, .ladd, (0, 0, 0), .null, []),
  (54, 55, .lstore_n 0, (0, 0, 0), .null, []),
  (55, 56, .lload_n 0, (0, 0, 0), .null, []),
  (56, 57, .l2i, (0, 0, 0), .null, []),
  (57, 59, .bipush 127, (0, 0, 0), .int (127), []),
  (59, 60, .iand, (0, 0, 0), .null, []),
  (60, 61, .ireturn, (0, 0, 0), .null, [])]
set_option maxRecDepth 100000 in
theorem iJ13_bitCount_95d88 : gMt[120]? = some qJ13_bitCount_95d88 := rfl
theorem tJ13_bitCount_95d88 : gTab 120 kJ13_bitCount_95d88 := gTab_of iJ13_bitCount_95d88 (by decide +kernel)
abbrev nJ7_fill_53178 : Nat := 124
abbrev qJ7_fill_53178 : gM := (yJ7_fill_53178, prog_21_method_103_code, 4, none, 0, 2, [885, 77, 884, 0])
def kJ7_fill_53178 : List gI := [(0, 1, .iconst 0, (0, 0, 0), .int (0), []),
  (1, 2, .istore_n 2, (0, 0, 0), .null, []),
  (2, 3, .aload_n 0, (0, 0, 0), .null, []),
  (3, 4, .arraylength, (0, 0, 0), .null, []),
  (4, 5, .istore_n 3, (0, 0, 0), .null, []),
  (5, 6, .iload_n 2, (0, 0, 0), .null, []),
  (6, 7, .iload_n 3, (0, 0, 0), .null, []),
  (7, 10, .if_icmp .ge 13, (20, 0, 0), .null, []),
  (10, 11, .aload_n 0, (0, 0, 0), .null, []),
  (11, 12, .iload_n 2, (0, 0, 0), .null, []),
  (12, 13, .iload_n 1, (0, 0, 0), .null, []),
  (13, 14, .iastore, (0, 0, 0), .null, []),
  (14, 17, .iinc 2 1, (0, 0, 0), .int (1), []),
  (17, 20, .goto (-12), (5, 0, 0), .null, []),
  (20, 21, .return_, (0, 0, 0), .null, [])]
set_option maxRecDepth 100000 in
theorem iJ7_fill_53178 : gMt[124]? = some qJ7_fill_53178 := rfl
theorem tJ7_fill_53178 : gTab 124 kJ7_fill_53178 := gTab_of iJ7_fill_53178 (by decide +kernel)
