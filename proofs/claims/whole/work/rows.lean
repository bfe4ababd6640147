section
/-- a private method of a class that the tables say can be made, by its rows of tables_1 -/
def lw_okq (q : MethodName × Nat) : Prop := (q.1.cls ≠ "java/lang/invoke/MethodHandle" ∧ q.1.cls ≠ "java/lang/invoke/VarHandle") ∧ Cond.instantiable q.1.cls q.2 ∈ tables_1 ∧ Cond.privateMethod q.1 ∈ tables_1 ∧ Cond.instanceMethod q.1 ∈ tables_1
theorem lw_p0 : lw_okq (⟨"NobodyFirst$Tape", "advance", "()V"⟩, 9) := ⟨⟨by decide +kernel, by decide +kernel⟩, List.mem_of_getElem? (i := 103) (by decide +kernel), List.mem_of_getElem? (i := 330) (by decide +kernel), List.mem_of_getElem? (i := 331) (by decide +kernel)⟩
theorem lw_p1 : lw_okq (⟨"NobodyFirst$Tape", "isLetter", "(I)Z"⟩, 9) := ⟨⟨by decide +kernel, by decide +kernel⟩, List.mem_of_getElem? (i := 103) (by decide +kernel), List.mem_of_getElem? (i := 334) (by decide +kernel), List.mem_of_getElem? (i := 335) (by decide +kernel)⟩
theorem lw_p2 : lw_okq (⟨"NobodyFirst$Tape", "takeWord", "()V"⟩, 9) := ⟨⟨by decide +kernel, by decide +kernel⟩, List.mem_of_getElem? (i := 103) (by decide +kernel), List.mem_of_getElem? (i := 338) (by decide +kernel), List.mem_of_getElem? (i := 339) (by decide +kernel)⟩
theorem lw_p3 : lw_okq (⟨"NobodyFirst$Tape", "isSpelt", "(Ljava/lang/String;)Z"⟩, 9) := ⟨⟨by decide +kernel, by decide +kernel⟩, List.mem_of_getElem? (i := 103) (by decide +kernel), List.mem_of_getElem? (i := 357) (by decide +kernel), List.mem_of_getElem? (i := 358) (by decide +kernel)⟩
theorem lw_p4 : lw_okq (⟨"NobodyFirst$Tape", "isDigit", "(I)Z"⟩, 9) := ⟨⟨by decide +kernel, by decide +kernel⟩, List.mem_of_getElem? (i := 103) (by decide +kernel), List.mem_of_getElem? (i := 363) (by decide +kernel), List.mem_of_getElem? (i := 364) (by decide +kernel)⟩
theorem lw_p5 : lw_okq (⟨"NobodyFirst$Tape", "takeNumber", "()V"⟩, 9) := ⟨⟨by decide +kernel, by decide +kernel⟩, List.mem_of_getElem? (i := 103) (by decide +kernel), List.mem_of_getElem? (i := 367) (by decide +kernel), List.mem_of_getElem? (i := 368) (by decide +kernel)⟩
theorem lw_p6 : lw_okq (⟨"NobodyFirst$Tape", "readEither", "(I)Z"⟩, 9) := ⟨⟨by decide +kernel, by decide +kernel⟩, List.mem_of_getElem? (i := 103) (by decide +kernel), List.mem_of_getElem? (i := 374) (by decide +kernel), List.mem_of_getElem? (i := 375) (by decide +kernel)⟩
theorem lw_p7 : lw_okq (⟨"NobodyFirst$Tape", "readBoth", "(I)Z"⟩, 9) := ⟨⟨by decide +kernel, by decide +kernel⟩, List.mem_of_getElem? (i := 103) (by decide +kernel), List.mem_of_getElem? (i := 378) (by decide +kernel), List.mem_of_getElem? (i := 379) (by decide +kernel)⟩
theorem lw_p8 : lw_okq (⟨"NobodyFirst$Tape", "readDenied", "(I)Z"⟩, 9) := ⟨⟨by decide +kernel, by decide +kernel⟩, List.mem_of_getElem? (i := 103) (by decide +kernel), List.mem_of_getElem? (i := 382) (by decide +kernel), List.mem_of_getElem? (i := 383) (by decide +kernel)⟩
theorem lw_p9 : lw_okq (⟨"NobodyFirst$Tape", "readBehind", "(II)Z"⟩, 9) := ⟨⟨by decide +kernel, by decide +kernel⟩, List.mem_of_getElem? (i := 103) (by decide +kernel), List.mem_of_getElem? (i := 386) (by decide +kernel), List.mem_of_getElem? (i := 387) (by decide +kernel)⟩
theorem lw_p10 : lw_okq (⟨"NobodyFirst$Tape", "readOne", "(I)Z"⟩, 9) := ⟨⟨by decide +kernel, by decide +kernel⟩, List.mem_of_getElem? (i := 103) (by decide +kernel), List.mem_of_getElem? (i := 390) (by decide +kernel), List.mem_of_getElem? (i := 391) (by decide +kernel)⟩
theorem lw_p11 : lw_okq (⟨"NobodyFirst$Tape", "readInside", "(I)Z"⟩, 9) := ⟨⟨by decide +kernel, by decide +kernel⟩, List.mem_of_getElem? (i := 103) (by decide +kernel), List.mem_of_getElem? (i := 394) (by decide +kernel), List.mem_of_getElem? (i := 395) (by decide +kernel)⟩
theorem lw_p12 : lw_okq (⟨"NobodyFirst$Tape", "step", "(I)V"⟩, 9) := ⟨⟨by decide +kernel, by decide +kernel⟩, List.mem_of_getElem? (i := 103) (by decide +kernel), List.mem_of_getElem? (i := 398) (by decide +kernel), List.mem_of_getElem? (i := 399) (by decide +kernel)⟩
theorem lw_p13 : lw_okq (⟨"NobodyFirst$Tape", "readSum", "(I)Z"⟩, 9) := ⟨⟨by decide +kernel, by decide +kernel⟩, List.mem_of_getElem? (i := 103) (by decide +kernel), List.mem_of_getElem? (i := 402) (by decide +kernel), List.mem_of_getElem? (i := 403) (by decide +kernel)⟩
theorem lw_p14 : lw_okq (⟨"NobodyFirst$Tape", "readTerm", "(I)Z"⟩, 9) := ⟨⟨by decide +kernel, by decide +kernel⟩, List.mem_of_getElem? (i := 103) (by decide +kernel), List.mem_of_getElem? (i := 406) (by decide +kernel), List.mem_of_getElem? (i := 407) (by decide +kernel)⟩
theorem lw_p15 : lw_okq (⟨"NobodyFirst", "isSeat", "(III)Z"⟩, 9) := ⟨⟨by decide +kernel, by decide +kernel⟩, List.mem_of_getElem? (i := 22) (by decide +kernel), List.mem_of_getElem? (i := 562) (by decide +kernel), List.mem_of_getElem? (i := 563) (by decide +kernel)⟩
def lw_privs_1 : List (MethodName × Nat) := [(⟨"NobodyFirst$Tape", "advance", "()V"⟩, 9), (⟨"NobodyFirst$Tape", "isLetter", "(I)Z"⟩, 9), (⟨"NobodyFirst$Tape", "takeWord", "()V"⟩, 9), (⟨"NobodyFirst$Tape", "isSpelt", "(Ljava/lang/String;)Z"⟩, 9), (⟨"NobodyFirst$Tape", "isDigit", "(I)Z"⟩, 9), (⟨"NobodyFirst$Tape", "takeNumber", "()V"⟩, 9), (⟨"NobodyFirst$Tape", "readEither", "(I)Z"⟩, 9), (⟨"NobodyFirst$Tape", "readBoth", "(I)Z"⟩, 9), (⟨"NobodyFirst$Tape", "readDenied", "(I)Z"⟩, 9), (⟨"NobodyFirst$Tape", "readBehind", "(II)Z"⟩, 9), (⟨"NobodyFirst$Tape", "readOne", "(I)Z"⟩, 9), (⟨"NobodyFirst$Tape", "readInside", "(I)Z"⟩, 9), (⟨"NobodyFirst$Tape", "step", "(I)V"⟩, 9), (⟨"NobodyFirst$Tape", "readSum", "(I)Z"⟩, 9), (⟨"NobodyFirst$Tape", "readTerm", "(I)Z"⟩, 9), (⟨"NobodyFirst", "isSeat", "(III)Z"⟩, 9)]
theorem lw_r1 : ∀ q ∈ lw_privs_1, lw_okq q := List.forall_mem_cons.mpr ⟨lw_p0, List.forall_mem_cons.mpr ⟨lw_p1, List.forall_mem_cons.mpr ⟨lw_p2, List.forall_mem_cons.mpr ⟨lw_p3, List.forall_mem_cons.mpr ⟨lw_p4, List.forall_mem_cons.mpr ⟨lw_p5, List.forall_mem_cons.mpr ⟨lw_p6, List.forall_mem_cons.mpr ⟨lw_p7, List.forall_mem_cons.mpr ⟨lw_p8, List.forall_mem_cons.mpr ⟨lw_p9, List.forall_mem_cons.mpr ⟨lw_p10, List.forall_mem_cons.mpr ⟨lw_p11, List.forall_mem_cons.mpr ⟨lw_p12, List.forall_mem_cons.mpr ⟨lw_p13, List.forall_mem_cons.mpr ⟨lw_p14, List.forall_mem_cons.mpr ⟨lw_p15, fun _ h => absurd h List.not_mem_nil⟩⟩⟩⟩⟩⟩⟩⟩⟩⟩⟩⟩⟩⟩⟩⟩
theorem lw_p16 : lw_okq (⟨"NobodyFirst$Rules", "valueOf", "(I)I"⟩, 7) := ⟨⟨by decide +kernel, by decide +kernel⟩, List.mem_of_getElem? (i := 139) (by decide +kernel), List.mem_of_getElem? (i := 582) (by decide +kernel), List.mem_of_getElem? (i := 583) (by decide +kernel)⟩
theorem lw_p17 : lw_okq (⟨"NobodyFirst", "isRide", "(II)Z"⟩, 9) := ⟨⟨by decide +kernel, by decide +kernel⟩, List.mem_of_getElem? (i := 22) (by decide +kernel), List.mem_of_getElem? (i := 610) (by decide +kernel), List.mem_of_getElem? (i := 611) (by decide +kernel)⟩
theorem lw_p18 : lw_okq (⟨"NobodyFirst$Ride", "someWorks", "(I)Z"⟩, 9) := ⟨⟨by decide +kernel, by decide +kernel⟩, List.mem_of_getElem? (i := 172) (by decide +kernel), List.mem_of_getElem? (i := 645) (by decide +kernel), List.mem_of_getElem? (i := 646) (by decide +kernel)⟩
theorem lw_p19 : lw_okq (⟨"NobodyFirst$Ride", "takeTurns", "(I)V"⟩, 9) := ⟨⟨by decide +kernel, by decide +kernel⟩, List.mem_of_getElem? (i := 172) (by decide +kernel), List.mem_of_getElem? (i := 650) (by decide +kernel), List.mem_of_getElem? (i := 651) (by decide +kernel)⟩
theorem lw_p20 : lw_okq (⟨"NobodyFirst$Ride", "tire", "(I)V"⟩, 9) := ⟨⟨by decide +kernel, by decide +kernel⟩, List.mem_of_getElem? (i := 172) (by decide +kernel), List.mem_of_getElem? (i := 656) (by decide +kernel), List.mem_of_getElem? (i := 657) (by decide +kernel)⟩
theorem lw_p21 : lw_okq (⟨"NobodyFirst$Ride", "fallBack", "()V"⟩, 9) := ⟨⟨by decide +kernel, by decide +kernel⟩, List.mem_of_getElem? (i := 172) (by decide +kernel), List.mem_of_getElem? (i := 661) (by decide +kernel), List.mem_of_getElem? (i := 662) (by decide +kernel)⟩
theorem lw_p22 : lw_okq (⟨"NobodyFirst", "isChase", "(IIII)Z"⟩, 9) := ⟨⟨by decide +kernel, by decide +kernel⟩, List.mem_of_getElem? (i := 22) (by decide +kernel), List.mem_of_getElem? (i := 682) (by decide +kernel), List.mem_of_getElem? (i := 683) (by decide +kernel)⟩
theorem lw_p23 : lw_okq (⟨"NobodyFirst", "beginChase", "(II)V"⟩, 9) := ⟨⟨by decide +kernel, by decide +kernel⟩, List.mem_of_getElem? (i := 22) (by decide +kernel), List.mem_of_getElem? (i := 686) (by decide +kernel), List.mem_of_getElem? (i := 687) (by decide +kernel)⟩
theorem lw_p24 : lw_okq (⟨"NobodyFirst", "gained", "(I)I"⟩, 9) := ⟨⟨by decide +kernel, by decide +kernel⟩, List.mem_of_getElem? (i := 22) (by decide +kernel), List.mem_of_getElem? (i := 693) (by decide +kernel), List.mem_of_getElem? (i := 694) (by decide +kernel)⟩
theorem lw_p25 : lw_okq (⟨"NobodyFirst", "lossBehind", "(III)I"⟩, 9) := ⟨⟨by decide +kernel, by decide +kernel⟩, List.mem_of_getElem? (i := 22) (by decide +kernel), List.mem_of_getElem? (i := 711) (by decide +kernel), List.mem_of_getElem? (i := 712) (by decide +kernel)⟩
theorem lw_p26 : lw_okq (⟨"NobodyFirst", "getsAway", "(III)Z"⟩, 9) := ⟨⟨by decide +kernel, by decide +kernel⟩, List.mem_of_getElem? (i := 22) (by decide +kernel), List.mem_of_getElem? (i := 742) (by decide +kernel), List.mem_of_getElem? (i := 743) (by decide +kernel)⟩
theorem lw_p27 : lw_okq (⟨"NobodyFirst$Train", "tryAll", "(III)V"⟩, 3) := ⟨⟨by decide +kernel, by decide +kernel⟩, List.mem_of_getElem? (i := 209) (by decide +kernel), List.mem_of_getElem? (i := 754) (by decide +kernel), List.mem_of_getElem? (i := 755) (by decide +kernel)⟩
theorem lw_p28 : lw_okq (⟨"NobodyFirstModel", "spell", "(IJ)V"⟩, 55) := ⟨⟨by decide +kernel, by decide +kernel⟩, List.mem_of_getElem? (i := 857) (by decide +kernel), List.mem_of_getElem? (i := 864) (by decide +kernel), List.mem_of_getElem? (i := 865) (by decide +kernel)⟩
theorem lw_p29 : lw_okq (⟨"NobodyFirstModel", "isRider", "(I)Z"⟩, 55) := ⟨⟨by decide +kernel, by decide +kernel⟩, List.mem_of_getElem? (i := 857) (by decide +kernel), List.mem_of_getElem? (i := 1067) (by decide +kernel), List.mem_of_getElem? (i := 1068) (by decide +kernel)⟩
theorem lw_p30 : lw_okq (⟨"NobodyFirstModel", "works", "(III)Z"⟩, 55) := ⟨⟨by decide +kernel, by decide +kernel⟩, List.mem_of_getElem? (i := 857) (by decide +kernel), List.mem_of_getElem? (i := 1076) (by decide +kernel), List.mem_of_getElem? (i := 1077) (by decide +kernel)⟩
theorem lw_p31 : lw_okq (⟨"NobodyFirstModel", "stays", "(I)I"⟩, 55) := ⟨⟨by decide +kernel, by decide +kernel⟩, List.mem_of_getElem? (i := 857) (by decide +kernel), List.mem_of_getElem? (i := 1080) (by decide +kernel), List.mem_of_getElem? (i := 1081) (by decide +kernel)⟩
def lw_privs_2 : List (MethodName × Nat) := [(⟨"NobodyFirst$Rules", "valueOf", "(I)I"⟩, 7), (⟨"NobodyFirst", "isRide", "(II)Z"⟩, 9), (⟨"NobodyFirst$Ride", "someWorks", "(I)Z"⟩, 9), (⟨"NobodyFirst$Ride", "takeTurns", "(I)V"⟩, 9), (⟨"NobodyFirst$Ride", "tire", "(I)V"⟩, 9), (⟨"NobodyFirst$Ride", "fallBack", "()V"⟩, 9), (⟨"NobodyFirst", "isChase", "(IIII)Z"⟩, 9), (⟨"NobodyFirst", "beginChase", "(II)V"⟩, 9), (⟨"NobodyFirst", "gained", "(I)I"⟩, 9), (⟨"NobodyFirst", "lossBehind", "(III)I"⟩, 9), (⟨"NobodyFirst", "getsAway", "(III)Z"⟩, 9), (⟨"NobodyFirst$Train", "tryAll", "(III)V"⟩, 3), (⟨"NobodyFirstModel", "spell", "(IJ)V"⟩, 55), (⟨"NobodyFirstModel", "isRider", "(I)Z"⟩, 55), (⟨"NobodyFirstModel", "works", "(III)Z"⟩, 55), (⟨"NobodyFirstModel", "stays", "(I)I"⟩, 55)]
theorem lw_r2 : ∀ q ∈ lw_privs_2, lw_okq q := List.forall_mem_cons.mpr ⟨lw_p16, List.forall_mem_cons.mpr ⟨lw_p17, List.forall_mem_cons.mpr ⟨lw_p18, List.forall_mem_cons.mpr ⟨lw_p19, List.forall_mem_cons.mpr ⟨lw_p20, List.forall_mem_cons.mpr ⟨lw_p21, List.forall_mem_cons.mpr ⟨lw_p22, List.forall_mem_cons.mpr ⟨lw_p23, List.forall_mem_cons.mpr ⟨lw_p24, List.forall_mem_cons.mpr ⟨lw_p25, List.forall_mem_cons.mpr ⟨lw_p26, List.forall_mem_cons.mpr ⟨lw_p27, List.forall_mem_cons.mpr ⟨lw_p28, List.forall_mem_cons.mpr ⟨lw_p29, List.forall_mem_cons.mpr ⟨lw_p30, List.forall_mem_cons.mpr ⟨lw_p31, fun _ h => absurd h List.not_mem_nil⟩⟩⟩⟩⟩⟩⟩⟩⟩⟩⟩⟩⟩⟩⟩⟩
theorem lw_p32 : lw_okq (⟨"NobodyFirstModel", "endsOf", "(I)I"⟩, 55) := ⟨⟨by decide +kernel, by decide +kernel⟩, List.mem_of_getElem? (i := 857) (by decide +kernel), List.mem_of_getElem? (i := 1084) (by decide +kernel), List.mem_of_getElem? (i := 1085) (by decide +kernel)⟩
theorem lw_p33 : lw_okq (⟨"NobodyFirstModel", "read", "(II)I"⟩, 55) := ⟨⟨by decide +kernel, by decide +kernel⟩, List.mem_of_getElem? (i := 857) (by decide +kernel), List.mem_of_getElem? (i := 1102) (by decide +kernel), List.mem_of_getElem? (i := 1103) (by decide +kernel)⟩
theorem lw_p34 : lw_okq (⟨"NobodyFirstModel", "next", "()V"⟩, 55) := ⟨⟨by decide +kernel, by decide +kernel⟩, List.mem_of_getElem? (i := 857) (by decide +kernel), List.mem_of_getElem? (i := 1106) (by decide +kernel), List.mem_of_getElem? (i := 1107) (by decide +kernel)⟩
theorem lw_p35 : lw_okq (⟨"NobodyFirstModel", "byteAt", "(I)I"⟩, 55) := ⟨⟨by decide +kernel, by decide +kernel⟩, List.mem_of_getElem? (i := 857) (by decide +kernel), List.mem_of_getElem? (i := 1110) (by decide +kernel), List.mem_of_getElem? (i := 1111) (by decide +kernel)⟩
theorem lw_p36 : lw_okq (⟨"NobodyFirstModel", "part", "(J)I"⟩, 55) := ⟨⟨by decide +kernel, by decide +kernel⟩, List.mem_of_getElem? (i := 857) (by decide +kernel), List.mem_of_getElem? (i := 1123) (by decide +kernel), List.mem_of_getElem? (i := 1124) (by decide +kernel)⟩
theorem lw_p37 : lw_okq (⟨"NobodyFirstModel", "isWord", "(J)Z"⟩, 55) := ⟨⟨by decide +kernel, by decide +kernel⟩, List.mem_of_getElem? (i := 857) (by decide +kernel), List.mem_of_getElem? (i := 1127) (by decide +kernel), List.mem_of_getElem? (i := 1128) (by decide +kernel)⟩
theorem lw_p38 : lw_okq (⟨"NobodyFirstModel", "fail", "()V"⟩, 55) := ⟨⟨by decide +kernel, by decide +kernel⟩, List.mem_of_getElem? (i := 857) (by decide +kernel), List.mem_of_getElem? (i := 1131) (by decide +kernel), List.mem_of_getElem? (i := 1132) (by decide +kernel)⟩
theorem lw_p39 : lw_okq (⟨"NobodyFirstModel", "either", "()I"⟩, 55) := ⟨⟨by decide +kernel, by decide +kernel⟩, List.mem_of_getElem? (i := 857) (by decide +kernel), List.mem_of_getElem? (i := 1135) (by decide +kernel), List.mem_of_getElem? (i := 1136) (by decide +kernel)⟩
theorem lw_p40 : lw_okq (⟨"NobodyFirstModel", "both", "()I"⟩, 55) := ⟨⟨by decide +kernel, by decide +kernel⟩, List.mem_of_getElem? (i := 857) (by decide +kernel), List.mem_of_getElem? (i := 1139) (by decide +kernel), List.mem_of_getElem? (i := 1140) (by decide +kernel)⟩
theorem lw_p41 : lw_okq (⟨"NobodyFirstModel", "not", "()I"⟩, 55) := ⟨⟨by decide +kernel, by decide +kernel⟩, List.mem_of_getElem? (i := 857) (by decide +kernel), List.mem_of_getElem? (i := 1143) (by decide +kernel), List.mem_of_getElem? (i := 1144) (by decide +kernel)⟩
theorem lw_p42 : lw_okq (⟨"NobodyFirstModel", "opens", "()Z"⟩, 55) := ⟨⟨by decide +kernel, by decide +kernel⟩, List.mem_of_getElem? (i := 857) (by decide +kernel), List.mem_of_getElem? (i := 1148) (by decide +kernel), List.mem_of_getElem? (i := 1149) (by decide +kernel)⟩
theorem lw_p43 : lw_okq (⟨"NobodyFirstModel", "added", "()I"⟩, 55) := ⟨⟨by decide +kernel, by decide +kernel⟩, List.mem_of_getElem? (i := 857) (by decide +kernel), List.mem_of_getElem? (i := 1152) (by decide +kernel), List.mem_of_getElem? (i := 1153) (by decide +kernel)⟩
theorem lw_p44 : lw_okq (⟨"NobodyFirstModel", "term", "()I"⟩, 55) := ⟨⟨by decide +kernel, by decide +kernel⟩, List.mem_of_getElem? (i := 857) (by decide +kernel), List.mem_of_getElem? (i := 1156) (by decide +kernel), List.mem_of_getElem? (i := 1157) (by decide +kernel)⟩
theorem lw_p45 : lw_okq (⟨"NobodyFirstModel", "one", "()I"⟩, 55) := ⟨⟨by decide +kernel, by decide +kernel⟩, List.mem_of_getElem? (i := 857) (by decide +kernel), List.mem_of_getElem? (i := 1160) (by decide +kernel), List.mem_of_getElem? (i := 1161) (by decide +kernel)⟩
theorem lw_p46 : lw_okq (⟨"NobodyFirstModel", "isSign", "(I)Z"⟩, 55) := ⟨⟨by decide +kernel, by decide +kernel⟩, List.mem_of_getElem? (i := 857) (by decide +kernel), List.mem_of_getElem? (i := 1164) (by decide +kernel), List.mem_of_getElem? (i := 1165) (by decide +kernel)⟩
theorem lw_p47 : lw_okq (⟨"NobodyFirstModel", "name", "()I"⟩, 55) := ⟨⟨by decide +kernel, by decide +kernel⟩, List.mem_of_getElem? (i := 857) (by decide +kernel), List.mem_of_getElem? (i := 1168) (by decide +kernel), List.mem_of_getElem? (i := 1169) (by decide +kernel)⟩
def lw_privs_3 : List (MethodName × Nat) := [(⟨"NobodyFirstModel", "endsOf", "(I)I"⟩, 55), (⟨"NobodyFirstModel", "read", "(II)I"⟩, 55), (⟨"NobodyFirstModel", "next", "()V"⟩, 55), (⟨"NobodyFirstModel", "byteAt", "(I)I"⟩, 55), (⟨"NobodyFirstModel", "part", "(J)I"⟩, 55), (⟨"NobodyFirstModel", "isWord", "(J)Z"⟩, 55), (⟨"NobodyFirstModel", "fail", "()V"⟩, 55), (⟨"NobodyFirstModel", "either", "()I"⟩, 55), (⟨"NobodyFirstModel", "both", "()I"⟩, 55), (⟨"NobodyFirstModel", "not", "()I"⟩, 55), (⟨"NobodyFirstModel", "opens", "()Z"⟩, 55), (⟨"NobodyFirstModel", "added", "()I"⟩, 55), (⟨"NobodyFirstModel", "term", "()I"⟩, 55), (⟨"NobodyFirstModel", "one", "()I"⟩, 55), (⟨"NobodyFirstModel", "isSign", "(I)Z"⟩, 55), (⟨"NobodyFirstModel", "name", "()I"⟩, 55)]
theorem lw_r3 : ∀ q ∈ lw_privs_3, lw_okq q := List.forall_mem_cons.mpr ⟨lw_p32, List.forall_mem_cons.mpr ⟨lw_p33, List.forall_mem_cons.mpr ⟨lw_p34, List.forall_mem_cons.mpr ⟨lw_p35, List.forall_mem_cons.mpr ⟨lw_p36, List.forall_mem_cons.mpr ⟨lw_p37, List.forall_mem_cons.mpr ⟨lw_p38, List.forall_mem_cons.mpr ⟨lw_p39, List.forall_mem_cons.mpr ⟨lw_p40, List.forall_mem_cons.mpr ⟨lw_p41, List.forall_mem_cons.mpr ⟨lw_p42, List.forall_mem_cons.mpr ⟨lw_p43, List.forall_mem_cons.mpr ⟨lw_p44, List.forall_mem_cons.mpr ⟨lw_p45, List.forall_mem_cons.mpr ⟨lw_p46, List.forall_mem_cons.mpr ⟨lw_p47, fun _ h => absurd h List.not_mem_nil⟩⟩⟩⟩⟩⟩⟩⟩⟩⟩⟩⟩⟩⟩⟩⟩
theorem lw_p48 : lw_okq (⟨"NobodyFirstModel", "isTenth", "(I)Z"⟩, 55) := ⟨⟨by decide +kernel, by decide +kernel⟩, List.mem_of_getElem? (i := 857) (by decide +kernel), List.mem_of_getElem? (i := 1192) (by decide +kernel), List.mem_of_getElem? (i := 1193) (by decide +kernel)⟩
theorem lw_p49 : lw_okq (⟨"NobodyFirstModel", "saysOf", "(IIIII)I"⟩, 55) := ⟨⟨by decide +kernel, by decide +kernel⟩, List.mem_of_getElem? (i := 857) (by decide +kernel), List.mem_of_getElem? (i := 1197) (by decide +kernel), List.mem_of_getElem? (i := 1198) (by decide +kernel)⟩
theorem lw_p50 : lw_okq (⟨"NobodyFirstModel", "isGroup", "(I)Z"⟩, 55) := ⟨⟨by decide +kernel, by decide +kernel⟩, List.mem_of_getElem? (i := 857) (by decide +kernel), List.mem_of_getElem? (i := 1208) (by decide +kernel), List.mem_of_getElem? (i := 1209) (by decide +kernel)⟩
theorem lw_p51 : lw_okq (⟨"NobodyFirstModel", "areTenths", "(I)Z"⟩, 55) := ⟨⟨by decide +kernel, by decide +kernel⟩, List.mem_of_getElem? (i := 857) (by decide +kernel), List.mem_of_getElem? (i := 1212) (by decide +kernel), List.mem_of_getElem? (i := 1213) (by decide +kernel)⟩
theorem lw_p52 : lw_okq (⟨"NobodyFirstModel", "goes1", "(II)V"⟩, 55) := ⟨⟨by decide +kernel, by decide +kernel⟩, List.mem_of_getElem? (i := 857) (by decide +kernel), List.mem_of_getElem? (i := 1216) (by decide +kernel), List.mem_of_getElem? (i := 1217) (by decide +kernel)⟩
theorem lw_p53 : lw_okq (⟨"NobodyFirstModel", "begins", "(II)V"⟩, 55) := ⟨⟨by decide +kernel, by decide +kernel⟩, List.mem_of_getElem? (i := 857) (by decide +kernel), List.mem_of_getElem? (i := 1220) (by decide +kernel), List.mem_of_getElem? (i := 1221) (by decide +kernel)⟩
theorem lw_p54 : lw_okq (⟨"NobodyFirstModel", "rides", "(II)I"⟩, 55) := ⟨⟨by decide +kernel, by decide +kernel⟩, List.mem_of_getElem? (i := 857) (by decide +kernel), List.mem_of_getElem? (i := 1224) (by decide +kernel), List.mem_of_getElem? (i := 1225) (by decide +kernel)⟩
theorem lw_p55 : lw_okq (⟨"NobodyFirstModel", "turnsOn", "(I)V"⟩, 55) := ⟨⟨by decide +kernel, by decide +kernel⟩, List.mem_of_getElem? (i := 857) (by decide +kernel), List.mem_of_getElem? (i := 1228) (by decide +kernel), List.mem_of_getElem? (i := 1229) (by decide +kernel)⟩
theorem lw_p56 : lw_okq (⟨"NobodyFirstModel", "leftIn", "()I"⟩, 55) := ⟨⟨by decide +kernel, by decide +kernel⟩, List.mem_of_getElem? (i := 857) (by decide +kernel), List.mem_of_getElem? (i := 1232) (by decide +kernel), List.mem_of_getElem? (i := 1233) (by decide +kernel)⟩
theorem lw_p57 : lw_okq (⟨"NobodyFirstModel", "areGroups", "(II)Z"⟩, 55) := ⟨⟨by decide +kernel, by decide +kernel⟩, List.mem_of_getElem? (i := 857) (by decide +kernel), List.mem_of_getElem? (i := 1249) (by decide +kernel), List.mem_of_getElem? (i := 1250) (by decide +kernel)⟩
theorem lw_p58 : lw_okq (⟨"NobodyFirstModel", "chases", "(IIIII)V"⟩, 55) := ⟨⟨by decide +kernel, by decide +kernel⟩, List.mem_of_getElem? (i := 857) (by decide +kernel), List.mem_of_getElem? (i := 1254) (by decide +kernel), List.mem_of_getElem? (i := 1255) (by decide +kernel)⟩
theorem lw_p59 : lw_okq (⟨"NobodyFirstModel", "lossOf", "(III)I"⟩, 55) := ⟨⟨by decide +kernel, by decide +kernel⟩, List.mem_of_getElem? (i := 857) (by decide +kernel), List.mem_of_getElem? (i := 1268) (by decide +kernel), List.mem_of_getElem? (i := 1269) (by decide +kernel)⟩
theorem lw_p60 : lw_okq (⟨"NobodyFirstModel", "lossBy", "(III)I"⟩, 55) := ⟨⟨by decide +kernel, by decide +kernel⟩, List.mem_of_getElem? (i := 857) (by decide +kernel), List.mem_of_getElem? (i := 1276) (by decide +kernel), List.mem_of_getElem? (i := 1277) (by decide +kernel)⟩
theorem lw_p61 : lw_okq (⟨"NobodyFirstModel", "couples", "(III)V"⟩, 55) := ⟨⟨by decide +kernel, by decide +kernel⟩, List.mem_of_getElem? (i := 857) (by decide +kernel), List.mem_of_getElem? (i := 1299) (by decide +kernel), List.mem_of_getElem? (i := 1300) (by decide +kernel)⟩
def lw_privs_4 : List (MethodName × Nat) := [(⟨"NobodyFirstModel", "isTenth", "(I)Z"⟩, 55), (⟨"NobodyFirstModel", "saysOf", "(IIIII)I"⟩, 55), (⟨"NobodyFirstModel", "isGroup", "(I)Z"⟩, 55), (⟨"NobodyFirstModel", "areTenths", "(I)Z"⟩, 55), (⟨"NobodyFirstModel", "goes1", "(II)V"⟩, 55), (⟨"NobodyFirstModel", "begins", "(II)V"⟩, 55), (⟨"NobodyFirstModel", "rides", "(II)I"⟩, 55), (⟨"NobodyFirstModel", "turnsOn", "(I)V"⟩, 55), (⟨"NobodyFirstModel", "leftIn", "()I"⟩, 55), (⟨"NobodyFirstModel", "areGroups", "(II)Z"⟩, 55), (⟨"NobodyFirstModel", "chases", "(IIIII)V"⟩, 55), (⟨"NobodyFirstModel", "lossOf", "(III)I"⟩, 55), (⟨"NobodyFirstModel", "lossBy", "(III)I"⟩, 55), (⟨"NobodyFirstModel", "couples", "(III)V"⟩, 55)]
theorem lw_r4 : ∀ q ∈ lw_privs_4, lw_okq q := List.forall_mem_cons.mpr ⟨lw_p48, List.forall_mem_cons.mpr ⟨lw_p49, List.forall_mem_cons.mpr ⟨lw_p50, List.forall_mem_cons.mpr ⟨lw_p51, List.forall_mem_cons.mpr ⟨lw_p52, List.forall_mem_cons.mpr ⟨lw_p53, List.forall_mem_cons.mpr ⟨lw_p54, List.forall_mem_cons.mpr ⟨lw_p55, List.forall_mem_cons.mpr ⟨lw_p56, List.forall_mem_cons.mpr ⟨lw_p57, List.forall_mem_cons.mpr ⟨lw_p58, List.forall_mem_cons.mpr ⟨lw_p59, List.forall_mem_cons.mpr ⟨lw_p60, List.forall_mem_cons.mpr ⟨lw_p61, fun _ h => absurd h List.not_mem_nil⟩⟩⟩⟩⟩⟩⟩⟩⟩⟩⟩⟩⟩⟩
def lw_privs : List (MethodName × Nat) := lw_privs_1 ++ (lw_privs_2 ++ (lw_privs_3 ++ (lw_privs_4)))
def lw_tbl : List Cond := k2_sels lw_privs ++ tables_1
theorem lw_privs_ok : ∀ q ∈ lw_privs, lw_okq q := by
  show ∀ q ∈ lw_privs_1 ++ (lw_privs_2 ++ (lw_privs_3 ++ (lw_privs_4))), lw_okq q
  exact List.forall_mem_append.mpr ⟨lw_r1, List.forall_mem_append.mpr ⟨lw_r2, List.forall_mem_append.mpr ⟨lw_r3, lw_r4⟩⟩⟩
end
section
def RX0 : String := "NobodyFirst$Image"
def TX0 : u_T := fun k => match k with
  | 0 => ("NobodyFirst$Image", "power", "[I", true)
  | 1 => ("NobodyFirst$Image", "store", "[I", true)
  | 2 => ("NobodyFirst$Image", "filmed", "[J", true)
  | 3 => ("NobodyFirst$Image", "count", "I", false)
  | 4 => ("NobodyFirst$Image", "rule", "I", false)
  | _ => ("NobodyFirst$Image", "is", "Z", false)
def tyX0 : Nat → FieldType := fun k => match k with
  | 0 => .array .int
  | 1 => .array .int
  | 2 => .array .long
  | 3 => .int
  | 4 => .int
  | _ => .boolean
theorem nmX0 : ∀ a, a < 6 → ∀ b, b < 6 → a ≠ b → (TX0 a).2.1 ≠ (TX0 b).2.1 := by decide +kernel
theorem tyX0_ok : ∀ k, k < 6 → parseFieldDescriptor (TX0 k).2.2.1 = some (tyX0 k) := by decide +kernel
abbrev cX0_init : ByteArray := prog_2_method_1_code
def yX0_init : MethodName := ⟨RX0, "<init>", "()V"⟩
abbrev cX0_keep : ByteArray := prog_2_method_2_code
def yX0_keep : MethodName := ⟨RX0, "keep", "(LNobodyFirst$Team;LNobodyFirst$Rules;)V"⟩
abbrev cX0_layBack : ByteArray := prog_2_method_3_code
def yX0_layBack : MethodName := ⟨RX0, "layBack", "(LNobodyFirst$Team;LNobodyFirst$Rules;)V"⟩
def RX1 : String := "NobodyFirst$Ride"
def TX1 : u_T := fun k => match k with
  | 0 => ("NobodyFirst$Ride", "road", "LNobodyFirst$Road;", true)
  | 1 => ("NobodyFirst$Ride", "team", "LNobodyFirst$Team;", true)
  | 2 => ("NobodyFirst$Ride", "rules", "LNobodyFirst$Rules;", true)
  | 3 => ("NobodyFirst$Ride", "store", "[I", true)
  | 4 => ("NobodyFirst$Ride", "row", "[I", true)
  | 5 => ("NobodyFirst$Ride", "size", "I", false)
  | 6 => ("NobodyFirst$Ride", "since", "I", false)
  | 7 => ("NobodyFirst$Ride", "front", "I", false)
  | _ => ("NobodyFirst$Ride", "pace", "I", false)
def tyX1 : Nat → FieldType := fun k => match k with
  | 0 => .object "NobodyFirst$Road"
  | 1 => .object "NobodyFirst$Team"
  | 2 => .object "NobodyFirst$Rules"
  | 3 => .array .int
  | 4 => .array .int
  | 5 => .int
  | 6 => .int
  | 7 => .int
  | _ => .int
theorem nmX1 : ∀ a, a < 9 → ∀ b, b < 9 → a ≠ b → (TX1 a).2.1 ≠ (TX1 b).2.1 := by decide +kernel
theorem tyX1_ok : ∀ k, k < 9 → parseFieldDescriptor (TX1 k).2.2.1 = some (tyX1 k) := by decide +kernel
abbrev cX1_init : ByteArray := prog_3_method_1_code
def yX1_init : MethodName := ⟨RX1, "<init>", "(LNobodyFirst$Road;LNobodyFirst$Team;LNobodyFirst$Rules;)V"⟩
abbrev cX1_begin : ByteArray := prog_3_method_2_code
def yX1_begin : MethodName := ⟨RX1, "begin", "(I)V"⟩
abbrev cX1_go : ByteArray := prog_3_method_3_code
def yX1_go : MethodName := ⟨RX1, "go", "(I)V"⟩
abbrev cX1_rideAll : ByteArray := prog_3_method_4_code
def yX1_rideAll : MethodName := ⟨RX1, "rideAll", "(II)I"⟩
abbrev cX1_left : ByteArray := prog_3_method_5_code
def yX1_left : MethodName := ⟨RX1, "left", "()I"⟩
abbrev cX1_someWorks : ByteArray := prog_3_method_6_code
def yX1_someWorks : MethodName := ⟨RX1, "someWorks", "(I)Z"⟩
abbrev cX1_takeTurns : ByteArray := prog_3_method_7_code
def yX1_takeTurns : MethodName := ⟨RX1, "takeTurns", "(I)V"⟩
abbrev cX1_tire : ByteArray := prog_3_method_8_code
def yX1_tire : MethodName := ⟨RX1, "tire", "(I)V"⟩
abbrev cX1_fallBack : ByteArray := prog_3_method_9_code
def yX1_fallBack : MethodName := ⟨RX1, "fallBack", "()V"⟩
def RX2 : String := "NobodyFirst$Road"
def TX2 : u_T := fun k => match k with
  | 0 => ("NobodyFirst$Road", "slope", "[I", true)
  | 1 => ("NobodyFirst$Road", "wind", "[I", true)
  | 2 => ("NobodyFirst$Road", "side", "[I", true)
  | 3 => ("NobodyFirst$Road", "wide", "[I", true)
  | _ => ("NobodyFirst$Road", "size", "I", false)
def tyX2 : Nat → FieldType := fun k => match k with
  | 0 => .array .int
  | 1 => .array .int
  | 2 => .array .int
  | 3 => .array .int
  | _ => .int
theorem nmX2 : ∀ a, a < 5 → ∀ b, b < 5 → a ≠ b → (TX2 a).2.1 ≠ (TX2 b).2.1 := by decide +kernel
theorem tyX2_ok : ∀ k, k < 5 → parseFieldDescriptor (TX2 k).2.2.1 = some (tyX2 k) := by decide +kernel
abbrev cX2_init : ByteArray := prog_4_method_1_code
def yX2_init : MethodName := ⟨RX2, "<init>", "()V"⟩
abbrev cX2_add : ByteArray := prog_4_method_2_code
def yX2_add : MethodName := ⟨RX2, "add", "(III)I"⟩
abbrev cX2_has : ByteArray := prog_4_method_3_code
def yX2_has : MethodName := ⟨RX2, "has", "(I)Z"⟩
abbrev cX2_isSpan : ByteArray := prog_4_method_4_code
def yX2_isSpan : MethodName := ⟨RX2, "isSpan", "(I)Z"⟩
abbrev cX2_spanFrom : ByteArray := prog_4_method_5_code
def yX2_spanFrom : MethodName := ⟨RX2, "spanFrom", "(I)I"⟩
abbrev cX2_spanTo : ByteArray := prog_4_method_6_code
def yX2_spanTo : MethodName := ⟨RX2, "spanTo", "(I)I"⟩
abbrev cX2_left : ByteArray := prog_4_method_7_code
def yX2_left : MethodName := ⟨RX2, "left", "(I)I"⟩
abbrev cX2_sheltered : ByteArray := prog_4_method_8_code
def yX2_sheltered : MethodName := ⟨RX2, "sheltered", "(II)I"⟩
def RX3 : String := "NobodyFirst$Rules"
def TX3 : u_T := fun k => match k with
  | 0 => ("NobodyFirst$Rules", "road", "LNobodyFirst$Road;", true)
  | 1 => ("NobodyFirst$Rules", "team", "LNobodyFirst$Team;", true)
  | 2 => ("NobodyFirst$Rules", "texts", "[LNobodyFirst$Text;", true)
  | 3 => ("NobodyFirst$Rules", "names", "[I", true)
  | 4 => ("NobodyFirst$Rules", "stack", "[I", true)
  | 5 => ("NobodyFirst$Rules", "count", "I", false)
  | _ => ("NobodyFirst$Rules", "rule", "I", false)
def tyX3 : Nat → FieldType := fun k => match k with
  | 0 => .object "NobodyFirst$Road"
  | 1 => .object "NobodyFirst$Team"
  | 2 => .array (.object "NobodyFirst$Text")
  | 3 => .array .int
  | 4 => .array .int
  | 5 => .int
  | _ => .int
theorem nmX3 : ∀ a, a < 7 → ∀ b, b < 7 → a ≠ b → (TX3 a).2.1 ≠ (TX3 b).2.1 := by decide +kernel
theorem tyX3_ok : ∀ k, k < 7 → parseFieldDescriptor (TX3 k).2.2.1 = some (tyX3 k) := by decide +kernel
abbrev cX3_init : ByteArray := prog_5_method_1_code
def yX3_init : MethodName := ⟨RX3, "<init>", "(LNobodyFirst$Road;LNobodyFirst$Team;)V"⟩
abbrev cX3_add : ByteArray := prog_5_method_2_code
def yX3_add : MethodName := ⟨RX3, "add", "(LNobodyFirst$Text;)I"⟩
abbrev cX3_comesTo : ByteArray := prog_5_method_3_code
def yX3_comesTo : MethodName := ⟨RX3, "comesTo", "(IIIII)I"⟩
abbrev cX3_loss : ByteArray := prog_5_method_4_code
def yX3_loss : MethodName := ⟨RX3, "loss", "(III)I"⟩
abbrev cX3_valueOf : ByteArray := prog_5_method_5_code
def yX3_valueOf : MethodName := ⟨RX3, "valueOf", "(I)I"⟩
abbrev cX3_joined : ByteArray := prog_5_method_6_code
def yX3_joined : MethodName := ⟨RX3, "joined", "(III)I"⟩
abbrev cX3_truth : ByteArray := prog_5_method_7_code
def yX3_truth : MethodName := ⟨RX3, "truth", "(Z)I"⟩
def RX4 : String := "NobodyFirst$Sheet"
def TX4 : u_T := fun k => match k with
  | 0 => ("NobodyFirst$Sheet", "cells", "[I", true)
  | 1 => ("NobodyFirst$Sheet", "sort", "I", false)
  | _ => ("NobodyFirst$Sheet", "size", "I", false)
def tyX4 : Nat → FieldType := fun k => match k with
  | 0 => .array .int
  | 1 => .int
  | _ => .int
theorem nmX4 : ∀ a, a < 3 → ∀ b, b < 3 → a ≠ b → (TX4 a).2.1 ≠ (TX4 b).2.1 := by decide +kernel
theorem tyX4_ok : ∀ k, k < 3 → parseFieldDescriptor (TX4 k).2.2.1 = some (tyX4 k) := by decide +kernel
abbrev cX4_init : ByteArray := prog_6_method_1_code
def yX4_init : MethodName := ⟨RX4, "<init>", "()V"⟩
abbrev cX4_isMissing : ByteArray := prog_6_method_2_code
def yX4_isMissing : MethodName := ⟨RX4, "isMissing", "()Z"⟩
abbrev cX4_become : ByteArray := prog_6_method_3_code
def yX4_become : MethodName := ⟨RX4, "become", "(II)V"⟩
abbrev cX4_reaches : ByteArray := prog_6_method_4_code
def yX4_reaches : MethodName := ⟨RX4, "reaches", "(II)Z"⟩
abbrev cX4_put : ByteArray := prog_6_method_5_code
def yX4_put : MethodName := ⟨RX4, "put", "(II)V"⟩
def RX5 : String := "NobodyFirst$Tape"
def TX5 : u_T := fun k => match k with
  | 0 => ("NobodyFirst$Tape", "bytes", "[B", true)
  | 1 => ("NobodyFirst$Tape", "steps", "[I", true)
  | 2 => ("NobodyFirst$Tape", "begins", "[I", true)
  | 3 => ("NobodyFirst$Tape", "size", "I", false)
  | 4 => ("NobodyFirst$Tape", "stepCount", "I", false)
  | 5 => ("NobodyFirst$Tape", "next", "I", false)
  | 6 => ("NobodyFirst$Tape", "at", "I", false)
  | 7 => ("NobodyFirst$Tape", "token", "I", false)
  | _ => ("NobodyFirst$Tape", "number", "I", false)
def tyX5 : Nat → FieldType := fun k => match k with
  | 0 => .array .byte
  | 1 => .array .int
  | 2 => .array .int
  | 3 => .int
  | 4 => .int
  | 5 => .int
  | 6 => .int
  | 7 => .int
  | _ => .int
theorem nmX5 : ∀ a, a < 9 → ∀ b, b < 9 → a ≠ b → (TX5 a).2.1 ≠ (TX5 b).2.1 := by decide +kernel
theorem tyX5_ok : ∀ k, k < 9 → parseFieldDescriptor (TX5 k).2.2.1 = some (tyX5 k) := by decide +kernel
abbrev cX5_init : ByteArray := prog_7_method_1_code
def yX5_init : MethodName := ⟨RX5, "<init>", "()V"⟩
abbrev cX5_room : ByteArray := prog_7_method_2_code
def yX5_room : MethodName := ⟨RX5, "room", "()I"⟩
abbrev cX5_put : ByteArray := prog_7_method_3_code
def yX5_put : MethodName := ⟨RX5, "put", "(B)V"⟩
abbrev cX5_empty : ByteArray := prog_7_method_4_code
def yX5_empty : MethodName := ⟨RX5, "empty", "()V"⟩
abbrev cX5_lastText : ByteArray := prog_7_method_5_code
def yX5_lastText : MethodName := ⟨RX5, "lastText", "()LNobodyFirst$Text;"⟩
abbrev cX5_readText : ByteArray := prog_7_method_6_code
def yX5_readText : MethodName := ⟨RX5, "readText", "()I"⟩
abbrev cX5_readEither : ByteArray := prog_7_method_7_code
def yX5_readEither : MethodName := ⟨RX5, "readEither", "(I)Z"⟩
abbrev cX5_readBoth : ByteArray := prog_7_method_8_code
def yX5_readBoth : MethodName := ⟨RX5, "readBoth", "(I)Z"⟩
abbrev cX5_readDenied : ByteArray := prog_7_method_9_code
def yX5_readDenied : MethodName := ⟨RX5, "readDenied", "(I)Z"⟩
abbrev cX5_readBehind : ByteArray := prog_7_method_10_code
def yX5_readBehind : MethodName := ⟨RX5, "readBehind", "(II)Z"⟩
abbrev cX5_readSum : ByteArray := prog_7_method_11_code
def yX5_readSum : MethodName := ⟨RX5, "readSum", "(I)Z"⟩
abbrev cX5_readTerm : ByteArray := prog_7_method_12_code
def yX5_readTerm : MethodName := ⟨RX5, "readTerm", "(I)Z"⟩
abbrev cX5_readOne : ByteArray := prog_7_method_13_code
def yX5_readOne : MethodName := ⟨RX5, "readOne", "(I)Z"⟩
abbrev cX5_readInside : ByteArray := prog_7_method_14_code
def yX5_readInside : MethodName := ⟨RX5, "readInside", "(I)Z"⟩
abbrev cX5_step : ByteArray := prog_7_method_15_code
def yX5_step : MethodName := ⟨RX5, "step", "(I)V"⟩
abbrev cX5_advance : ByteArray := prog_7_method_16_code
def yX5_advance : MethodName := ⟨RX5, "advance", "()V"⟩
abbrev cX5_takeWord : ByteArray := prog_7_method_17_code
def yX5_takeWord : MethodName := ⟨RX5, "takeWord", "()V"⟩
abbrev cX5_isSpelt : ByteArray := prog_7_method_18_code
def yX5_isSpelt : MethodName := ⟨RX5, "isSpelt", "(Ljava/lang/String;)Z"⟩
abbrev cX5_takeNumber : ByteArray := prog_7_method_19_code
def yX5_takeNumber : MethodName := ⟨RX5, "takeNumber", "()V"⟩
abbrev cX5_isLetter : ByteArray := prog_7_method_20_code
def yX5_isLetter : MethodName := ⟨RX5, "isLetter", "(I)Z"⟩
abbrev cX5_isDigit : ByteArray := prog_7_method_21_code
def yX5_isDigit : MethodName := ⟨RX5, "isDigit", "(I)Z"⟩
abbrev cX5_isSign : ByteArray := prog_7_method_22_code
def yX5_isSign : MethodName := ⟨RX5, "isSign", "(I)Z"⟩
abbrev cX5_wordOf : ByteArray := prog_7_method_23_code
def yX5_wordOf : MethodName := ⟨RX5, "wordOf", "(I)Ljava/lang/String;"⟩
def RX6 : String := "NobodyFirst$Team"
def TX6 : u_T := fun k => match k with
  | 0 => ("NobodyFirst$Team", "kind", "[I", true)
  | 1 => ("NobodyFirst$Team", "house", "[I", true)
  | 2 => ("NobodyFirst$Team", "number", "[I", true)
  | 3 => ("NobodyFirst$Team", "power", "[I", true)
  | 4 => ("NobodyFirst$Team", "store", "[I", true)
  | 5 => ("NobodyFirst$Team", "filmed", "[J", true)
  | _ => ("NobodyFirst$Team", "count", "I", false)
def tyX6 : Nat → FieldType := fun k => match k with
  | 0 => .array .int
  | 1 => .array .int
  | 2 => .array .int
  | 3 => .array .int
  | 4 => .array .int
  | 5 => .array .long
  | _ => .int
theorem nmX6 : ∀ a, a < 7 → ∀ b, b < 7 → a ≠ b → (TX6 a).2.1 ≠ (TX6 b).2.1 := by decide +kernel
theorem tyX6_ok : ∀ k, k < 7 → parseFieldDescriptor (TX6 k).2.2.1 = some (tyX6 k) := by decide +kernel
abbrev cX6_init : ByteArray := prog_8_method_1_code
def yX6_init : MethodName := ⟨RX6, "<init>", "()V"⟩
abbrev cX6_add : ByteArray := prog_8_method_2_code
def yX6_add : MethodName := ⟨RX6, "add", "(IIII)I"⟩
abbrev cX6_has : ByteArray := prog_8_method_3_code
def yX6_has : MethodName := ⟨RX6, "has", "(I)Z"⟩
abbrev cX6_isGroup : ByteArray := prog_8_method_4_code
def yX6_isGroup : MethodName := ⟨RX6, "isGroup", "(I)Z"⟩
abbrev cX6_isUnder : ByteArray := prog_8_method_5_code
def yX6_isUnder : MethodName := ⟨RX6, "isUnder", "(II)Z"⟩
abbrev cX6_ofHouse : ByteArray := prog_8_method_6_code
def yX6_ofHouse : MethodName := ⟨RX6, "ofHouse", "(I)I"⟩
abbrev cX6_works : ByteArray := prog_8_method_7_code
def yX6_works : MethodName := ⟨RX6, "works", "(III)Z"⟩
abbrev cX6_stays : ByteArray := prog_8_method_8_code
def yX6_stays : MethodName := ⟨RX6, "stays", "(I)I"⟩
abbrev cX6_ends : ByteArray := prog_8_method_9_code
def yX6_ends : MethodName := ⟨RX6, "ends", "(I)I"⟩
abbrev cX6_someFilmed : ByteArray := prog_8_method_10_code
def yX6_someFilmed : MethodName := ⟨RX6, "someFilmed", "(II)Z"⟩
abbrev cX6_allFilmed : ByteArray := prog_8_method_11_code
def yX6_allFilmed : MethodName := ⟨RX6, "allFilmed", "()I"⟩
abbrev cX6_allStores : ByteArray := prog_8_method_12_code
def yX6_allStores : MethodName := ⟨RX6, "allStores", "()I"⟩
def RX7 : String := "NobodyFirst$Text"
def TX7 : u_T := fun k => match k with
  | 0 => ("NobodyFirst$Text", "steps", "[I", true)
  | 1 => ("NobodyFirst$Text", "fillFrom", "I", true)
  | _ => ("NobodyFirst$Text", "paceFrom", "I", true)
def tyX7 : Nat → FieldType := fun k => match k with
  | 0 => .array .int
  | 1 => .int
  | _ => .int
theorem nmX7 : ∀ a, a < 3 → ∀ b, b < 3 → a ≠ b → (TX7 a).2.1 ≠ (TX7 b).2.1 := by decide +kernel
theorem tyX7_ok : ∀ k, k < 3 → parseFieldDescriptor (TX7 k).2.2.1 = some (tyX7 k) := by decide +kernel
abbrev cX7_init : ByteArray := prog_9_method_1_code
def yX7_init : MethodName := ⟨RX7, "<init>", "([III)V"⟩
abbrev cX7_from : ByteArray := prog_9_method_2_code
def yX7_from : MethodName := ⟨RX7, "from", "(I)I"⟩
abbrev cX7_to : ByteArray := prog_9_method_3_code
def yX7_to : MethodName := ⟨RX7, "to", "(I)I"⟩
def RX8 : String := "NobodyFirst$Train"
def TX8 : u_T := fun k => match k with
  | 0 => ("NobodyFirst$Train", "team", "LNobodyFirst$Team;", true)
  | 1 => ("NobodyFirst$Train", "order", "I", false)
  | _ => ("NobodyFirst$Train", "has", "I", false)
def tyX8 : Nat → FieldType := fun k => match k with
  | 0 => .object "NobodyFirst$Team"
  | 1 => .int
  | _ => .int
theorem nmX8 : ∀ a, a < 3 → ∀ b, b < 3 → a ≠ b → (TX8 a).2.1 ≠ (TX8 b).2.1 := by decide +kernel
theorem tyX8_ok : ∀ k, k < 3 → parseFieldDescriptor (TX8 k).2.2.1 = some (tyX8 k) := by decide +kernel
abbrev cX8_init : ByteArray := prog_10_method_1_code
def yX8_init : MethodName := ⟨RX8, "<init>", "(LNobodyFirst$Team;)V"⟩
abbrev cX8_search : ByteArray := prog_10_method_2_code
def yX8_search : MethodName := ⟨RX8, "search", "(I)V"⟩
abbrev cX8_tryAll : ByteArray := prog_10_method_3_code
def yX8_tryAll : MethodName := ⟨RX8, "tryAll", "(III)V"⟩
def RX9 : String := "NobodyFirst"
def TX9 : u_T := fun k => match k with
  | 0 => ("NobodyFirst", "road", "LNobodyFirst$Road;", true)
  | 1 => ("NobodyFirst", "team", "LNobodyFirst$Team;", true)
  | 2 => ("NobodyFirst", "tape", "LNobodyFirst$Tape;", true)
  | 3 => ("NobodyFirst", "rules", "LNobodyFirst$Rules;", true)
  | 4 => ("NobodyFirst", "ahead", "LNobodyFirst$Ride;", true)
  | 5 => ("NobodyFirst", "behind", "LNobodyFirst$Ride;", true)
  | 6 => ("NobodyFirst", "line", "LNobodyFirst$Train;", true)
  | 7 => ("NobodyFirst", "kept", "LNobodyFirst$Image;", true)
  | _ => ("NobodyFirst", "sheets", "[LNobodyFirst$Sheet;", true)
def tyX9 : Nat → FieldType := fun k => match k with
  | 0 => .object "NobodyFirst$Road"
  | 1 => .object "NobodyFirst$Team"
  | 2 => .object "NobodyFirst$Tape"
  | 3 => .object "NobodyFirst$Rules"
  | 4 => .object "NobodyFirst$Ride"
  | 5 => .object "NobodyFirst$Ride"
  | 6 => .object "NobodyFirst$Train"
  | 7 => .object "NobodyFirst$Image"
  | _ => .array (.object "NobodyFirst$Sheet")
theorem nmX9 : ∀ a, a < 9 → ∀ b, b < 9 → a ≠ b → (TX9 a).2.1 ≠ (TX9 b).2.1 := by decide +kernel
theorem tyX9_ok : ∀ k, k < 9 → parseFieldDescriptor (TX9 k).2.2.1 = some (tyX9 k) := by decide +kernel
abbrev cX9_init : ByteArray := prog_1_method_1_code
def yX9_init : MethodName := ⟨RX9, "<init>", "()V"⟩
abbrev cX9_tenth : ByteArray := prog_1_method_2_code
def yX9_tenth : MethodName := ⟨RX9, "tenth", "(III)I"⟩
abbrev cX9_rider : ByteArray := prog_1_method_3_code
def yX9_rider : MethodName := ⟨RX9, "rider", "(IIII)I"⟩
abbrev cX9_set : ByteArray := prog_1_method_4_code
def yX9_set : MethodName := ⟨RX9, "set", "(III)I"⟩
abbrev cX9_told : ByteArray := prog_1_method_5_code
def yX9_told : MethodName := ⟨RX9, "told", "(III)I"⟩
abbrev cX9_house : ByteArray := prog_1_method_6_code
def yX9_house : MethodName := ⟨RX9, "house", "(I)I"⟩
abbrev cX9_feed : ByteArray := prog_1_method_7_code
def yX9_feed : MethodName := ⟨RX9, "feed", "(IJ)I"⟩
abbrev cX9_text : ByteArray := prog_1_method_8_code
def yX9_text : MethodName := ⟨RX9, "text", "()I"⟩
abbrev cX9_force : ByteArray := prog_1_method_9_code
def yX9_force : MethodName := ⟨RX9, "force", "(I)I"⟩
abbrev cX9_says : ByteArray := prog_1_method_10_code
def yX9_says : MethodName := ⟨RX9, "says", "(IIII)I"⟩
abbrev cX9_ride : ByteArray := prog_1_method_11_code
def yX9_ride : MethodName := ⟨RX9, "ride", "(III)I"⟩
abbrev cX9_spent : ByteArray := prog_1_method_12_code
def yX9_spent : MethodName := ⟨RX9, "spent", "(III)J"⟩
abbrev cX9_ridden : ByteArray := prog_1_method_13_code
def yX9_ridden : MethodName := ⟨RX9, "ridden", "(II)I"⟩
abbrev cX9_caught : ByteArray := prog_1_method_14_code
def yX9_caught : MethodName := ⟨RX9, "caught", "(IIIII)J"⟩
abbrev cX9_worth : ByteArray := prog_1_method_15_code
def yX9_worth : MethodName := ⟨RX9, "worth", "(III)J"⟩
abbrev cX9_turns : ByteArray := prog_1_method_16_code
def yX9_turns : MethodName := ⟨RX9, "turns", "(III)J"⟩
abbrev cX9_game : ByteArray := prog_1_method_17_code
def yX9_game : MethodName := ⟨RX9, "game", "(III)I"⟩
abbrev cX9_goes : ByteArray := prog_1_method_18_code
def yX9_goes : MethodName := ⟨RX9, "goes", "(II)I"⟩
abbrev cX9_train : ByteArray := prog_1_method_19_code
def yX9_train : MethodName := ⟨RX9, "train", "(II)I"⟩
abbrev cX9_split : ByteArray := prog_1_method_20_code
def yX9_split : MethodName := ⟨RX9, "split", "(II)I"⟩
abbrev cX9_film : ByteArray := prog_1_method_21_code
def yX9_film : MethodName := ⟨RX9, "film", "(III)I"⟩
abbrev cX9_wrong : ByteArray := prog_1_method_22_code
def yX9_wrong : MethodName := ⟨RX9, "wrong", "(II)I"⟩
abbrev cX9_clock : ByteArray := prog_1_method_23_code
def yX9_clock : MethodName := ⟨RX9, "clock", "(IIIII)J"⟩
abbrev cX9_image : ByteArray := prog_1_method_24_code
def yX9_image : MethodName := ⟨RX9, "image", "()I"⟩
abbrev cX9_back : ByteArray := prog_1_method_25_code
def yX9_back : MethodName := ⟨RX9, "back", "()I"⟩
abbrev cX9_count : ByteArray := prog_1_method_26_code
def yX9_count : MethodName := ⟨RX9, "count", "(I)I"⟩
abbrev cX9_sheet : ByteArray := prog_1_method_27_code
def yX9_sheet : MethodName := ⟨RX9, "sheet", "(III)I"⟩
abbrev cX9_cell : ByteArray := prog_1_method_28_code
def yX9_cell : MethodName := ⟨RX9, "cell", "(III)I"⟩
abbrev cX9_copy : ByteArray := prog_1_method_29_code
def yX9_copy : MethodName := ⟨RX9, "copy", "(IIIII)I"⟩
abbrev cX9_tenths : ByteArray := prog_1_method_30_code
def yX9_tenths : MethodName := ⟨RX9, "tenths", "(IIII)I"⟩
abbrev cX9_taken : ByteArray := prog_1_method_31_code
def yX9_taken : MethodName := ⟨RX9, "taken", "(II)I"⟩
abbrev cX9_isPower : ByteArray := prog_1_method_32_code
def yX9_isPower : MethodName := ⟨RX9, "isPower", "(I)Z"⟩
abbrev cX9_isStore : ByteArray := prog_1_method_33_code
def yX9_isStore : MethodName := ⟨RX9, "isStore", "(I)Z"⟩
abbrev cX9_isSheet : ByteArray := prog_1_method_34_code
def yX9_isSheet : MethodName := ⟨RX9, "isSheet", "(I)Z"⟩
abbrev cX9_within : ByteArray := prog_1_method_35_code
def yX9_within : MethodName := ⟨RX9, "within", "(III)I"⟩
abbrev cX9_isSeat : ByteArray := prog_1_method_36_code
def yX9_isSeat : MethodName := ⟨RX9, "isSeat", "(III)Z"⟩
abbrev cX9_isRide : ByteArray := prog_1_method_37_code
def yX9_isRide : MethodName := ⟨RX9, "isRide", "(II)Z"⟩
abbrev cX9_isChase : ByteArray := prog_1_method_38_code
def yX9_isChase : MethodName := ⟨RX9, "isChase", "(IIII)Z"⟩
abbrev cX9_beginChase : ByteArray := prog_1_method_39_code
def yX9_beginChase : MethodName := ⟨RX9, "beginChase", "(II)V"⟩
abbrev cX9_gained : ByteArray := prog_1_method_40_code
def yX9_gained : MethodName := ⟨RX9, "gained", "(I)I"⟩
abbrev cX9_lossBehind : ByteArray := prog_1_method_41_code
def yX9_lossBehind : MethodName := ⟨RX9, "lossBehind", "(III)I"⟩
abbrev cX9_getsAway : ByteArray := prog_1_method_42_code
def yX9_getsAway : MethodName := ⟨RX9, "getsAway", "(III)Z"⟩
abbrev cX9_restsOf : ByteArray := prog_1_method_43_code
def yX9_restsOf : MethodName := ⟨RX9, "restsOf", "(LNobodyFirst$Sheet;I)I"⟩
abbrev cX9_goodOf : ByteArray := prog_1_method_44_code
def yX9_goodOf : MethodName := ⟨RX9, "goodOf", "(LNobodyFirst$Sheet;I)I"⟩
def RX10 : String := "NobodyFirstModel"
def TX10 : u_T := fun k => match k with
  | 0 => ("NobodyFirstModel", "thrown", "I", false)
  | 1 => ("NobodyFirstModel", "texts", "[I", true)
  | 2 => ("NobodyFirstModel", "textSize", "[I", true)
  | 3 => ("NobodyFirstModel", "textCount", "I", false)
  | 4 => ("NobodyFirstModel", "rule", "I", false)
  | 5 => ("NobodyFirstModel", "tape", "[I", true)
  | 6 => ("NobodyFirstModel", "taped", "I", false)
  | 7 => ("NobodyFirstModel", "slope", "[I", true)
  | 8 => ("NobodyFirstModel", "wind", "[I", true)
  | 9 => ("NobodyFirstModel", "wide", "[I", true)
  | 10 => ("NobodyFirstModel", "filmed", "[I", true)
  | 11 => ("NobodyFirstModel", "tenthMany", "I", false)
  | 12 => ("NobodyFirstModel", "kind", "[I", true)
  | 13 => ("NobodyFirstModel", "houseOf", "[I", true)
  | 14 => ("NobodyFirstModel", "number", "[I", true)
  | 15 => ("NobodyFirstModel", "power", "[I", true)
  | 16 => ("NobodyFirstModel", "store", "[I", true)
  | 17 => ("NobodyFirstModel", "riderMany", "I", false)
  | 18 => ("NobodyFirstModel", "from", "I", false)
  | 19 => ("NobodyFirstModel", "size", "I", false)
  | 20 => ("NobodyFirstModel", "token", "I", false)
  | 21 => ("NobodyFirstModel", "tokenAt", "I", false)
  | 22 => ("NobodyFirstModel", "tokenWorth", "J", false)
  | 23 => ("NobodyFirstModel", "here", "I", false)
  | 24 => ("NobodyFirstModel", "open", "I", false)
  | 25 => ("NobodyFirstModel", "bad", "Z", false)
  | 26 => ("NobodyFirstModel", "fault", "I", false)
  | 27 => ("NobodyFirstModel", "aboutPower", "I", false)
  | 28 => ("NobodyFirstModel", "aboutPlace", "I", false)
  | 29 => ("NobodyFirstModel", "aboutSlope", "I", false)
  | 30 => ("NobodyFirstModel", "aboutWind", "I", false)
  | 31 => ("NobodyFirstModel", "aboutStore", "I", false)
  | 32 => ("NobodyFirstModel", "aboutLeft", "I", false)
  | 33 => ("NobodyFirstModel", "row", "[I", true)
  | 34 => ("NobodyFirstModel", "rowMany", "[I", true)
  | 35 => ("NobodyFirstModel", "frontFor", "[I", true)
  | 36 => ("NobodyFirstModel", "has", "[I", true)
  | 37 => ("NobodyFirstModel", "frontNow", "[I", true)
  | 38 => ("NobodyFirstModel", "far", "I", false)
  | 39 => ("NobodyFirstModel", "caughtAt", "I", false)
  | 40 => ("NobodyFirstModel", "gapNow", "I", false)
  | 41 => ("NobodyFirstModel", "clocked", "J", false)
  | 42 => ("NobodyFirstModel", "trainBest", "I", false)
  | 43 => ("NobodyFirstModel", "trainHas", "I", false)
  | 44 => ("NobodyFirstModel", "imagePower", "[I", true)
  | 45 => ("NobodyFirstModel", "imageStore", "[I", true)
  | 46 => ("NobodyFirstModel", "imageFilmed", "[I", true)
  | 47 => ("NobodyFirstModel", "hasImage", "Z", false)
  | 48 => ("NobodyFirstModel", "imageRiders", "I", false)
  | 49 => ("NobodyFirstModel", "imageTenths", "I", false)
  | 50 => ("NobodyFirstModel", "imageRule", "I", false)
  | 51 => ("NobodyFirstModel", "isThere", "[Z", true)
  | 52 => ("NobodyFirstModel", "sorts", "[I", true)
  | 53 => ("NobodyFirstModel", "sheetSize", "[I", true)
  | _ => ("NobodyFirstModel", "items", "[I", true)
def tyX10 : Nat → FieldType := fun k => match k with
  | 0 => .int
  | 1 => .array .int
  | 2 => .array .int
  | 3 => .int
  | 4 => .int
  | 5 => .array .int
  | 6 => .int
  | 7 => .array .int
  | 8 => .array .int
  | 9 => .array .int
  | 10 => .array .int
  | 11 => .int
  | 12 => .array .int
  | 13 => .array .int
  | 14 => .array .int
  | 15 => .array .int
  | 16 => .array .int
  | 17 => .int
  | 18 => .int
  | 19 => .int
  | 20 => .int
  | 21 => .int
  | 22 => .long
  | 23 => .int
  | 24 => .int
  | 25 => .boolean
  | 26 => .int
  | 27 => .int
  | 28 => .int
  | 29 => .int
  | 30 => .int
  | 31 => .int
  | 32 => .int
  | 33 => .array .int
  | 34 => .array .int
  | 35 => .array .int
  | 36 => .array .int
  | 37 => .array .int
  | 38 => .int
  | 39 => .int
  | 40 => .int
  | 41 => .long
  | 42 => .int
  | 43 => .int
  | 44 => .array .int
  | 45 => .array .int
  | 46 => .array .int
  | 47 => .boolean
  | 48 => .int
  | 49 => .int
  | 50 => .int
  | 51 => .array .boolean
  | 52 => .array .int
  | 53 => .array .int
  | _ => .array .int
theorem nmX10 : ∀ a, a < 55 → ∀ b, b < 55 → a ≠ b → (TX10 a).2.1 ≠ (TX10 b).2.1 := by decide +kernel
theorem tyX10_ok : ∀ k, k < 55 → parseFieldDescriptor (TX10 k).2.2.1 = some (tyX10 k) := by decide +kernel
abbrev cX10_in : ByteArray := prog_12_method_2_code
def yX10_in : MethodName := ⟨RX10, "in", "(JJJ)Z"⟩
abbrev cX10_init : ByteArray := prog_12_method_3_code
def yX10_init : MethodName := ⟨RX10, "<init>", "()V"⟩
abbrev cX10_spell : ByteArray := prog_12_method_4_code
def yX10_spell : MethodName := ⟨RX10, "spell", "(IJ)V"⟩
abbrev cX10_isTenth : ByteArray := prog_12_method_5_code
def yX10_isTenth : MethodName := ⟨RX10, "isTenth", "(I)Z"⟩
abbrev cX10_isRider : ByteArray := prog_12_method_6_code
def yX10_isRider : MethodName := ⟨RX10, "isRider", "(I)Z"⟩
abbrev cX10_isGroup : ByteArray := prog_12_method_7_code
def yX10_isGroup : MethodName := ⟨RX10, "isGroup", "(I)Z"⟩
abbrev cX10_areTenths : ByteArray := prog_12_method_8_code
def yX10_areTenths : MethodName := ⟨RX10, "areTenths", "(I)Z"⟩
abbrev cX10_tenth : ByteArray := prog_12_method_9_code
def yX10_tenth : MethodName := ⟨RX10, "tenth", "(III)I"⟩
abbrev cX10_rider : ByteArray := prog_12_method_10_code
def yX10_rider : MethodName := ⟨RX10, "rider", "(IIII)I"⟩
abbrev cX10_set : ByteArray := prog_12_method_11_code
def yX10_set : MethodName := ⟨RX10, "set", "(III)I"⟩
abbrev cX10_works : ByteArray := prog_12_method_12_code
def yX10_works : MethodName := ⟨RX10, "works", "(III)Z"⟩
abbrev cX10_stays : ByteArray := prog_12_method_13_code
def yX10_stays : MethodName := ⟨RX10, "stays", "(I)I"⟩
abbrev cX10_endsOf : ByteArray := prog_12_method_14_code
def yX10_endsOf : MethodName := ⟨RX10, "endsOf", "(I)I"⟩
abbrev cX10_told : ByteArray := prog_12_method_15_code
def yX10_told : MethodName := ⟨RX10, "told", "(III)I"⟩
abbrev cX10_house : ByteArray := prog_12_method_16_code
def yX10_house : MethodName := ⟨RX10, "house", "(I)I"⟩
abbrev cX10_feed : ByteArray := prog_12_method_17_code
def yX10_feed : MethodName := ⟨RX10, "feed", "(IJ)I"⟩
abbrev cX10_byteAt : ByteArray := prog_12_method_18_code
def yX10_byteAt : MethodName := ⟨RX10, "byteAt", "(I)I"⟩
abbrev cX10_next : ByteArray := prog_12_method_19_code
def yX10_next : MethodName := ⟨RX10, "next", "()V"⟩
abbrev cX10_fail : ByteArray := prog_12_method_20_code
def yX10_fail : MethodName := ⟨RX10, "fail", "()V"⟩
abbrev cX10_isWord : ByteArray := prog_12_method_21_code
def yX10_isWord : MethodName := ⟨RX10, "isWord", "(J)Z"⟩
abbrev cX10_isSign : ByteArray := prog_12_method_22_code
def yX10_isSign : MethodName := ⟨RX10, "isSign", "(I)Z"⟩
abbrev cX10_opens : ByteArray := prog_12_method_23_code
def yX10_opens : MethodName := ⟨RX10, "opens", "()Z"⟩
abbrev cX10_name : ByteArray := prog_12_method_24_code
def yX10_name : MethodName := ⟨RX10, "name", "()I"⟩
abbrev cX10_one : ByteArray := prog_12_method_25_code
def yX10_one : MethodName := ⟨RX10, "one", "()I"⟩
abbrev cX10_term : ByteArray := prog_12_method_26_code
def yX10_term : MethodName := ⟨RX10, "term", "()I"⟩
abbrev cX10_added : ByteArray := prog_12_method_27_code
def yX10_added : MethodName := ⟨RX10, "added", "()I"⟩
abbrev cX10_not : ByteArray := prog_12_method_28_code
def yX10_not : MethodName := ⟨RX10, "not", "()I"⟩
abbrev cX10_both : ByteArray := prog_12_method_29_code
def yX10_both : MethodName := ⟨RX10, "both", "()I"⟩
abbrev cX10_either : ByteArray := prog_12_method_30_code
def yX10_either : MethodName := ⟨RX10, "either", "()I"⟩
abbrev cX10_part : ByteArray := prog_12_method_31_code
def yX10_part : MethodName := ⟨RX10, "part", "(J)I"⟩
abbrev cX10_read : ByteArray := prog_12_method_32_code
def yX10_read : MethodName := ⟨RX10, "read", "(II)I"⟩
abbrev cX10_text : ByteArray := prog_12_method_33_code
def yX10_text : MethodName := ⟨RX10, "text", "()I"⟩
abbrev cX10_force : ByteArray := prog_12_method_34_code
def yX10_force : MethodName := ⟨RX10, "force", "(I)I"⟩
abbrev cX10_within : ByteArray := prog_12_method_35_code
def yX10_within : MethodName := ⟨RX10, "within", "(III)I"⟩
abbrev cX10_saysOf : ByteArray := prog_12_method_36_code
def yX10_saysOf : MethodName := ⟨RX10, "saysOf", "(IIIII)I"⟩
abbrev cX10_says : ByteArray := prog_12_method_37_code
def yX10_says : MethodName := ⟨RX10, "says", "(IIII)I"⟩
abbrev cX10_begins : ByteArray := prog_12_method_38_code
def yX10_begins : MethodName := ⟨RX10, "begins", "(II)V"⟩
abbrev cX10_turnsOn : ByteArray := prog_12_method_39_code
def yX10_turnsOn : MethodName := ⟨RX10, "turnsOn", "(I)V"⟩
abbrev cX10_rides : ByteArray := prog_12_method_40_code
def yX10_rides : MethodName := ⟨RX10, "rides", "(II)I"⟩
abbrev cX10_goes1 : ByteArray := prog_12_method_41_code
def yX10_goes1 : MethodName := ⟨RX10, "goes1", "(II)V"⟩
abbrev cX10_leftIn : ByteArray := prog_12_method_42_code
def yX10_leftIn : MethodName := ⟨RX10, "leftIn", "()I"⟩
abbrev cX10_ride : ByteArray := prog_12_method_43_code
def yX10_ride : MethodName := ⟨RX10, "ride", "(III)I"⟩
abbrev cX10_spent : ByteArray := prog_12_method_44_code
def yX10_spent : MethodName := ⟨RX10, "spent", "(III)J"⟩
abbrev cX10_ridden : ByteArray := prog_12_method_45_code
def yX10_ridden : MethodName := ⟨RX10, "ridden", "(II)I"⟩
abbrev cX10_chases : ByteArray := prog_12_method_46_code
def yX10_chases : MethodName := ⟨RX10, "chases", "(IIIII)V"⟩
abbrev cX10_areGroups : ByteArray := prog_12_method_47_code
def yX10_areGroups : MethodName := ⟨RX10, "areGroups", "(II)Z"⟩
abbrev cX10_caught : ByteArray := prog_12_method_48_code
def yX10_caught : MethodName := ⟨RX10, "caught", "(IIIII)J"⟩
abbrev cX10_clock : ByteArray := prog_12_method_49_code
def yX10_clock : MethodName := ⟨RX10, "clock", "(IIIII)J"⟩
abbrev cX10_lossOf : ByteArray := prog_12_method_50_code
def yX10_lossOf : MethodName := ⟨RX10, "lossOf", "(III)I"⟩
abbrev cX10_worth : ByteArray := prog_12_method_51_code
def yX10_worth : MethodName := ⟨RX10, "worth", "(III)J"⟩
abbrev cX10_lossBy : ByteArray := prog_12_method_52_code
def yX10_lossBy : MethodName := ⟨RX10, "lossBy", "(III)I"⟩
abbrev cX10_turns : ByteArray := prog_12_method_53_code
def yX10_turns : MethodName := ⟨RX10, "turns", "(III)J"⟩
abbrev cX10_bitsOf : ByteArray := prog_12_method_54_code
def yX10_bitsOf : MethodName := ⟨RX10, "bitsOf", "(I)I"⟩
abbrev cX10_game : ByteArray := prog_12_method_55_code
def yX10_game : MethodName := ⟨RX10, "game", "(III)I"⟩
abbrev cX10_goes : ByteArray := prog_12_method_56_code
def yX10_goes : MethodName := ⟨RX10, "goes", "(II)I"⟩
abbrev cX10_couples : ByteArray := prog_12_method_57_code
def yX10_couples : MethodName := ⟨RX10, "couples", "(III)V"⟩
abbrev cX10_train : ByteArray := prog_12_method_58_code
def yX10_train : MethodName := ⟨RX10, "train", "(II)I"⟩
abbrev cX10_split : ByteArray := prog_12_method_59_code
def yX10_split : MethodName := ⟨RX10, "split", "(II)I"⟩
abbrev cX10_film : ByteArray := prog_12_method_60_code
def yX10_film : MethodName := ⟨RX10, "film", "(III)I"⟩
abbrev cX10_wrong : ByteArray := prog_12_method_61_code
def yX10_wrong : MethodName := ⟨RX10, "wrong", "(II)I"⟩
abbrev cX10_image : ByteArray := prog_12_method_62_code
def yX10_image : MethodName := ⟨RX10, "image", "()I"⟩
abbrev cX10_back : ByteArray := prog_12_method_63_code
def yX10_back : MethodName := ⟨RX10, "back", "()I"⟩
abbrev cX10_count : ByteArray := prog_12_method_64_code
def yX10_count : MethodName := ⟨RX10, "count", "(I)I"⟩
abbrev cX10_isSheet : ByteArray := prog_12_method_65_code
def yX10_isSheet : MethodName := ⟨RX10, "isSheet", "(I)Z"⟩
abbrev cX10_sheet : ByteArray := prog_12_method_66_code
def yX10_sheet : MethodName := ⟨RX10, "sheet", "(III)I"⟩
abbrev cX10_cell : ByteArray := prog_12_method_67_code
def yX10_cell : MethodName := ⟨RX10, "cell", "(III)I"⟩
abbrev cX10_copy : ByteArray := prog_12_method_68_code
def yX10_copy : MethodName := ⟨RX10, "copy", "(IIIII)I"⟩
abbrev cX10_tenths : ByteArray := prog_12_method_69_code
def yX10_tenths : MethodName := ⟨RX10, "tenths", "(IIII)I"⟩
abbrev cX10_over : ByteArray := prog_12_method_70_code
def yX10_over : MethodName := ⟨RX10, "over", "(I)I"⟩
abbrev cX10_taken : ByteArray := prog_12_method_71_code
def yX10_taken : MethodName := ⟨RX10, "taken", "(II)I"⟩
def RJx145de : String := "java/io/Serializable"
def RJx9f9b0 : String := "java/lang/CharSequence"
def RJx8e188 : String := "java/lang/Cloneable"
def RJxb160c : String := "java/lang/Comparable"
def RJ6 : String := "java/lang/Integer"
abbrev cJ6_bitCount_0f7a4 : ByteArray := prog_14_method_49_code
def yJ6_bitCount_0f7a4 : MethodName := ⟨RJ6, "bitCount", "(I)I"⟩
def RJ13 : String := "java/lang/Long"
abbrev cJ13_bitCount_95d88 : ByteArray := prog_15_method_50_code
def yJ13_bitCount_95d88 : MethodName := ⟨RJ13, "bitCount", "(J)I"⟩
def RJ9 : String := "java/lang/Math"
abbrev cJ9_max_7cf53 : ByteArray := prog_16_method_65_code
def yJ9_max_7cf53 : MethodName := ⟨RJ9, "max", "(II)I"⟩
abbrev cJ9_min_7cf53 : ByteArray := prog_16_method_69_code
def yJ9_min_7cf53 : MethodName := ⟨RJ9, "min", "(II)I"⟩
def RJ0 : String := "java/lang/String"
abbrev cJ0_length_8abf5 : ByteArray := prog_17_method_54_code
def yJ0_length_8abf5 : MethodName := ⟨RJ0, "length", "()I"⟩
abbrev cJ0_charAt_5068e : ByteArray := prog_17_method_56_code
def yJ0_charAt_5068e : MethodName := ⟨RJ0, "charAt", "(I)C"⟩
abbrev cJ0_coder_7d493 : ByteArray := prog_17_method_152_code
def yJ0_coder_7d493 : MethodName := ⟨RJ0, "coder", "()B"⟩
abbrev cJ0_isLatin1_aae02 : ByteArray := prog_17_method_154_code
def yJ0_isLatin1_aae02 : MethodName := ⟨RJ0, "isLatin1", "()Z"⟩
abbrev cJ0_checkIndex_df160 : ByteArray := prog_17_method_155_code
def yJ0_checkIndex_df160 : MethodName := ⟨RJ0, "checkIndex", "(II)V"⟩
def RJ1 : String := "java/lang/StringLatin1"
abbrev cJ1_charAt_3b067 : ByteArray := prog_18_method_2_code
def yJ1_charAt_3b067 : MethodName := ⟨RJ1, "charAt", "([BI)C"⟩
def RJ2 : String := "java/lang/StringUTF16"
abbrev cJ2_getChar_3b067 : ByteArray := prog_19_method_5_code
def yJ2_getChar_3b067 : MethodName := ⟨RJ2, "getChar", "([BI)C"⟩
abbrev cJ2_length_9d52b : ByteArray := prog_19_method_6_code
def yJ2_length_9d52b : MethodName := ⟨RJ2, "length", "([B)I"⟩
abbrev cJ2_charAt_3b067 : ByteArray := prog_19_method_83_code
def yJ2_charAt_3b067 : MethodName := ⟨RJ2, "charAt", "([BI)C"⟩
abbrev cJ2_checkIndex_2214a : ByteArray := prog_19_method_91_code
def yJ2_checkIndex_2214a : MethodName := ⟨RJ2, "checkIndex", "(I[B)V"⟩
def RJ10 : String := "java/lang/System"
def RJxfd54e : String := "java/lang/constant/Constable"
def RJx3cf43 : String := "java/lang/constant/ConstantDesc"
def RJ7 : String := "java/util/Arrays"
abbrev cJ7_fill_53178 : ByteArray := prog_21_method_103_code
def yJ7_fill_53178 : MethodName := ⟨RJ7, "fill", "([II)V"⟩
abbrev cJ7_copyOf_59c91 : ByteArray := prog_21_method_123_code
def yJ7_copyOf_59c91 : MethodName := ⟨RJ7, "copyOf", "([II)[I"⟩
def RJ3 : String := "jdk/internal/util/Preconditions"
abbrev cJ3_checkIndex_8e157 : ByteArray := prog_22_method_11_code
def yJ3_checkIndex_8e157 : MethodName := ⟨RJ3, "checkIndex", "(IILjava/util/function/BiFunction;)I"⟩
def RL : String := "NobodyFirstLaw"
abbrev cL_law : ByteArray := code
def yL_law : MethodName := ⟨RL, "law", "([I)Z"⟩
abbrev vwCl : List vw_C := [(RX0, TX0, 6), (RX1, TX1, 9), (RX2, TX2, 5), (RX3, TX3, 7), (RX4, TX4, 3), (RX5, TX5, 9), (RX6, TX6, 7), (RX7, TX7, 3), (RX8, TX8, 3), (RX9, TX9, 9), (RX10, TX10, 55)]
end
section
/-! THE WALKER. A point of a method's walk is told by numbers of cells, not by addresses: the world u = (n, sh, I, L, R) has n cells; cell k is an object of class ci (sh k = .inl ci) or an array (sh k = .inr (kind of its items, length)); I, L, R hold ints, longs, references by cell and place. 'ad' says where a cell lies. gstp: what one instruction does, as a condition on what comes behind it. -/
abbrev gSh : Type := Nat ⊕ (Nat × Nat)
abbrev gS : Type := Nat × (Nat → gSh) × (Nat → Nat → Int32) × (Nat → Nat → Int64) × (Nat → Nat → Option Nat)
abbrev gLv : Type := List (Option Value)
/-- a row of a method: its place, length, instruction, three numbers, a constant, a switch's rows -/
abbrev gI : Type := Nat × Nat × Instr × (Nat × Nat × Nat) × Value × List (Int32 × Nat)
def gset {α : Type} (I : Nat → Nat → α) (k : Nat) (f : Nat → α) : Nat → Nat → α := fun a => cond (Nat.beq a k) f (I a)
def gupd {α : Type} (f : Nat → α) (j : Nat) (v : α) : Nat → α := fun q => cond (Nat.beq q j) v (f q)
def gcv (ad : Nat → Nat) (v : Value) : Value := match v with
  | .ref k => .ref (ad k)
  | .int x => .int x
  | .long x => .long x
  | .null => .null
  | .float x => .float x
  | .double x => .double x
  | .retAddr x => .retAddr x
def gnth : gLv → Nat → Option Value
  | [], _ => none
  | v :: _, 0 => v
  | _ :: l, i + 1 => gnth l i
def gputl : gLv → Nat → Option Value → gLv
  | [], _, _ => []
  | _ :: l, 0, v => v :: l
  | w :: l, i + 1, v => w :: gputl l i v
/-- a store to place i: a long that lies just ahead of it is broken -/
def gbrk (w : Option Value) : Option Value := match w with
  | some (.long _) => none
  | w => w
def gsto1 : gLv → Nat → Value → gLv
  | [], _, _ => []
  | _ :: l, 0, v => some v :: l
  | w :: l, 1, v => gbrk w :: gsto1 l 0 v
  | w :: l, i + 2, v => w :: gsto1 l (i + 1) v
def gsto2h : gLv → Value → gLv
  | [], _ => []
  | _ :: l, v => some v :: none :: l
def gsto2 : gLv → Nat → Value → gLv
  | [], _, _ => []
  | _ :: l, 0, v => gsto2h l v
  | w :: l, 1, v => gbrk w :: gsto2 l 0 v
  | w :: l, i + 2, v => w :: gsto2 l (i + 1) v
def gfind : List gI → Nat → Option (Nat × Instr × (Nat × Nat × Nat) × Value × List (Int32 × Nat))
  | [], _ => none
  | e :: l, pc => cond (Nat.beq e.1 pc) (some e.2) (gfind l pc)
theorem gfind_mem : ∀ {C : List gI} {pc : Nat} {r : Nat × Instr × (Nat × Nat × Nat) × Value × List (Int32 × Nat)}, gfind C pc = some r → (pc, r) ∈ C := by
  intro C
  induction C with
  | nil => intro pc r h; cases h
  | cons e l ih =>
    intro pc r h
    unfold gfind at h
    cases hb : Nat.beq e.1 pc with
    | true =>
      rw [hb] at h
      have h1 : e.1 = pc := Nat.eq_of_beq_eq_true hb
      have h2 : e.2 = r := Option.some.inj h
      subst h1; subst h2
      exact List.mem_cons_self
    | false =>
      rw [hb] at h
      exact List.mem_cons_of_mem _ (ih h)
-- shapes of the operand stack
def g1i (st : List Value) (k : Int32 → List Value → Prop) : Prop := match st with
  | .int x :: r => k x r
  | _ => False
def g1l (st : List Value) (k : Int64 → List Value → Prop) : Prop := match st with
  | .long x :: r => k x r
  | _ => False
def g1r (st : List Value) (k : Nat → List Value → Prop) : Prop := match st with
  | .ref x :: r => k x r
  | _ => False
def g2i (st : List Value) (k : Int32 → Int32 → List Value → Prop) : Prop := g1i st (fun y r => g1i r (fun x r => k y x r))
def g2l (st : List Value) (k : Int64 → Int64 → List Value → Prop) : Prop := g1l st (fun y r => g1l r (fun x r => k y x r))
/-- any value of one unit -/
def g1v (st : List Value) (k : Value → List Value → Prop) : Prop := match st with
  | .int x :: r => k (.int x) r
  | .ref x :: r => k (.ref x) r
  | _ => False
theorem g1i_e {st : List Value} {k : Int32 → List Value → Prop} (h : g1i st k) : ∃ x r, st = .int x :: r ∧ k x r := by
  unfold g1i at h
  split at h
  · exact ⟨_, _, rfl, h⟩
  · exact h.elim
theorem g1l_e {st : List Value} {k : Int64 → List Value → Prop} (h : g1l st k) : ∃ x r, st = .long x :: r ∧ k x r := by
  unfold g1l at h
  split at h
  · exact ⟨_, _, rfl, h⟩
  · exact h.elim
theorem g1r_e {st : List Value} {k : Nat → List Value → Prop} (h : g1r st k) : ∃ x r, st = .ref x :: r ∧ k x r := by
  unfold g1r at h
  split at h
  · exact ⟨_, _, rfl, h⟩
  · exact h.elim
theorem g2i_e {st : List Value} {k : Int32 → Int32 → List Value → Prop} (h : g2i st k) : ∃ y x r, st = .int y :: .int x :: r ∧ k y x r := by
  obtain ⟨y, r1, e1, h1⟩ := g1i_e h
  obtain ⟨x, r, e2, h2⟩ := g1i_e h1
  exact ⟨y, x, r, by rw [e1, e2], h2⟩
theorem g2l_e {st : List Value} {k : Int64 → Int64 → List Value → Prop} (h : g2l st k) : ∃ y x r, st = .long y :: .long x :: r ∧ k y x r := by
  obtain ⟨y, r1, e1, h1⟩ := g1l_e h
  obtain ⟨x, r, e2, h2⟩ := g1l_e h1
  exact ⟨y, x, r, by rw [e1, e2], h2⟩
theorem g1v_e {st : List Value} {k : Value → List Value → Prop} (h : g1v st k) : ∃ v r, st = v :: r ∧ v.category = 1 ∧ (∀ ad, (gcv ad v).category = 1) ∧ k v r := by
  unfold g1v at h
  split at h
  · exact ⟨_, _, rfl, rfl, fun _ => rfl, h⟩
  · exact ⟨_, _, rfl, rfl, fun _ => rfl, h⟩
  · exact h.elim
def gldi (lv : gLv) (i : Nat) (k : Int32 → Prop) : Prop := match gnth lv i with
  | some (.int x) => k x
  | _ => False
def gldl (lv : gLv) (i : Nat) (k : Int64 → Prop) : Prop := match gnth lv i with
  | some (.long x) => k x
  | _ => False
def gldr (lv : gLv) (i : Nat) (k : Nat → Prop) : Prop := match gnth lv i with
  | some (.ref x) => k x
  | _ => False
theorem gldi_e {lv : gLv} {i : Nat} {k : Int32 → Prop} (h : gldi lv i k) : ∃ x, gnth lv i = some (.int x) ∧ k x := by
  unfold gldi at h
  split at h
  · exact ⟨_, by assumption, h⟩
  · exact h.elim
theorem gldl_e {lv : gLv} {i : Nat} {k : Int64 → Prop} (h : gldl lv i k) : ∃ x, gnth lv i = some (.long x) ∧ k x := by
  unfold gldl at h
  split at h
  · exact ⟨_, by assumption, h⟩
  · exact h.elim
theorem gldr_e {lv : gLv} {i : Nat} {k : Nat → Prop} (h : gldr lv i k) : ∃ x, gnth lv i = some (.ref x) ∧ k x := by
  unfold gldr at h
  split at h
  · exact ⟨_, by assumption, h⟩
  · exact h.elim
-- locals
def gL (ad : Nat → Nat) (ls : Array Slot) (nL : Nat) (lv : gLv) : Prop := ls.size = nL ∧ lv_wf ls ∧ ∀ (i : Nat) (v : Value), gnth lv i = some v → ls[i]? = some (.val (gcv ad v))
/-- the same, as the kit has it -/
def gas (ad : Nat → Nat) : Nat → gLv → List (Nat × Value)
  | _, [] => []
  | b, none :: l => gas ad (b + 1) l
  | b, some v :: l => (b, gcv ad v) :: gas ad (b + 1) l
theorem gas_mem {ad : Nat → Nat} : ∀ {l : gLv} {b : Nat} {q : Nat × Value}, q ∈ gas ad b l → ∃ i v, q = (b + i, gcv ad v) ∧ gnth l i = some v := by
  intro l
  induction l with
  | nil => intro b q h; cases h
  | cons w l ih =>
    intro b q h
    cases w with
    | none =>
      obtain ⟨i, v, h1, h2⟩ := ih h
      exact ⟨i + 1, v, by rw [h1]; congr 1; omega, h2⟩
    | some w =>
      rcases List.mem_cons.mp h with h | h
      · exact ⟨0, w, h, rfl⟩
      · obtain ⟨i, v, h1, h2⟩ := ih h
        exact ⟨i + 1, v, by rw [h1]; congr 1; omega, h2⟩
theorem gas_of {ad : Nat → Nat} : ∀ {l : gLv} {b i : Nat} {v : Value}, gnth l i = some v → (b + i, gcv ad v) ∈ gas ad b l := by
  intro l
  induction l with
  | nil => intro b i v h; cases h
  | cons w l ih =>
    intro b i v h
    cases i with
    | zero =>
      have hw : w = some v := h
      subst hw
      exact List.mem_cons_self
    | succ i =>
      have h2 := ih (b := b + 1) (i := i) (v := v) h
      rw [show b + (i + 1) = b + 1 + i by omega]
      cases w with
      | none => exact h2
      | some w => exact List.mem_cons_of_mem _ h2
theorem gL.has {ad : Nat → Nat} {ls : Array Slot} {nL : Nat} {lv : gLv} (h : gL ad ls nL lv) : lv_has ls nL (gas ad 0 lv) := ⟨h.1, h.2.1, fun q hq => by
  obtain ⟨i, v, h1, h2⟩ := gas_mem hq
  rw [h1, Nat.zero_add]
  exact h.2.2 i v h2⟩
theorem gL.at {ad : Nat → Nat} {ls : Array Slot} {nL : Nat} {lv : gLv} (h : gL ad ls nL lv) {i : Nat} {v : Value} (hv : gnth lv i = some v) : ls[i]? = some (.val (gcv ad v)) := h.2.2 i v hv
theorem gcat (ad : Nat → Nat) (v : Value) : (gcv ad v).category = v.category := by cases v <;> rfl
theorem gbrk_s {w : Option Value} {v : Value} (h : gbrk w = some v) : w = some v ∧ v.category = 1 ∨ w = some v ∧ ∃ x, v = .double x := by
  unfold gbrk at h
  split at h
  · cases h
  · subst h
    rename_i hw
    cases v <;> first | exact Or.inl ⟨rfl, rfl⟩ | exact Or.inr ⟨rfl, _, rfl⟩ | exact absurd rfl (hw _)
/-- what a store to place i leaves: the value there; elsewhere what was, but no long just ahead -/
theorem gsto1_nth : ∀ (l : gLv) (i : Nat) (w : Value) (j : Nat) (v : Value), gnth (gsto1 l i w) j = some v → (j = i ∧ v = w) ∨ (j ≠ i ∧ gnth l j = some v ∧ (j + 1 = i → ∀ x, v ≠ .long x)) := by
  intro l
  induction l with
  | nil => intro i w j v h; cases h
  | cons a l ih =>
    intro i w j v h
    match i, j, h with
    | 0, 0, h => exact Or.inl ⟨rfl, (Option.some.inj h).symm⟩
    | 0, j + 1, h => exact Or.inr ⟨by omega, h, by omega⟩
    | 1, 0, h =>
      have h1 : gbrk a = some v := h
      refine Or.inr ⟨by omega, ?_, fun _ x hx => ?_⟩
      · rcases gbrk_s h1 with q | q <;> exact q.1
      · subst hx
        rcases gbrk_s h1 with q | ⟨_, _, q⟩
        · cases q.2
        · cases q
    | 1, j + 1, h =>
      rcases ih 0 w j v h with ⟨h1, h2⟩ | ⟨h1, h2, h3⟩
      · exact Or.inl ⟨by omega, h2⟩
      · exact Or.inr ⟨by omega, h2, by omega⟩
    | i + 2, 0, h => exact Or.inr ⟨by omega, h, by omega⟩
    | i + 2, j + 1, h =>
      rcases ih (i + 1) w j v h with ⟨h1, h2⟩ | ⟨h1, h2, h3⟩
      · exact Or.inl ⟨by omega, h2⟩
      · exact Or.inr ⟨by omega, h2, fun e => h3 (by omega)⟩
theorem gsto2_nth : ∀ (l : gLv) (i : Nat) (w : Value) (j : Nat) (v : Value), gnth (gsto2 l i w) j = some v → (j = i ∧ v = w) ∨ (j ≠ i ∧ j ≠ i + 1 ∧ gnth l j = some v ∧ (j + 1 = i → ∀ x, v ≠ .long x)) := by
  intro l
  induction l with
  | nil => intro i w j v h; match i, h with
    | 0, h => cases h
    | 1, h => cases h
    | i + 2, h => cases h
  | cons a l ih =>
    intro i w j v h
    match i, j, h with
    | 0, j, h =>
      cases l with
      | nil => cases h
      | cons b l =>
        match j, h with
        | 0, h => exact Or.inl ⟨rfl, (Option.some.inj h).symm⟩
        | 1, h => cases h
        | j + 2, h => exact Or.inr ⟨by omega, by omega, h, by omega⟩
    | 1, 0, h =>
      have h1 : gbrk a = some v := h
      refine Or.inr ⟨by omega, by omega, ?_, fun _ x hx => ?_⟩
      · rcases gbrk_s h1 with q | q <;> exact q.1
      · subst hx
        rcases gbrk_s h1 with q | ⟨_, _, q⟩
        · cases q.2
        · cases q
    | 1, j + 1, h =>
      rcases ih 0 w j v h with ⟨h1, h2⟩ | ⟨h1, h2, h3, h4⟩
      · exact Or.inl ⟨by omega, h2⟩
      · exact Or.inr ⟨by omega, by omega, h3, by omega⟩
    | i + 2, 0, h => exact Or.inr ⟨by omega, by omega, h, by omega⟩
    | i + 2, j + 1, h =>
      rcases ih (i + 1) w j v h with ⟨h1, h2⟩ | ⟨h1, h2, h3, h4⟩
      · exact Or.inl ⟨by omega, h2⟩
      · exact Or.inr ⟨by omega, by omega, h3, fun e => h4 (by omega)⟩
/-- no value of the walk is a double -/
def gnd (lv : gLv) : Prop := ∀ (i : Nat) (v : Value) (x : UInt64), gnth lv i = some v → v ≠ .double x
theorem gL.sto1 {ad : Nat → Nat} {ls : Array Slot} {nL : Nat} {lv : gLv} {i : Nat} {w : Value} (hn : gnd lv) {P : List (Nat × Value)} (h : lv_has ls nL P) (hP : (i, gcv ad w) :: (gas ad 0 lv).filter (fun q => !(q.1 == i) && !(q.1 + 1 == i && q.2.category == 2)) = P) : gL ad ls nL (gsto1 lv i w) := by
  refine ⟨h.1, h.2.1, fun j v hv => ?_⟩
  have hm : (j, gcv ad v) ∈ P := by
    rw [← hP]
    rcases gsto1_nth lv i w j v hv with ⟨h1, h2⟩ | ⟨h1, h2, h3⟩
    · subst h1; subst h2; exact List.mem_cons_self
    · refine List.mem_cons_of_mem _ (List.mem_filter.mpr ⟨by have := gas_of (ad := ad) (b := 0) h2; rwa [Nat.zero_add] at this, ?_⟩)
      have hc : j + 1 = i → (gcv ad v).category = 1 := fun e => by
        rw [gcat]
        cases v <;> first | rfl | exact absurd rfl (h3 e _) | exact absurd rfl (hn j _ _ h2)
      by_cases e : j + 1 = i
      · simp [h1, e, hc e]
      · simp [h1, e]
  exact h.2.2 _ hm
theorem gL.sto2 {ad : Nat → Nat} {ls : Array Slot} {nL : Nat} {lv : gLv} {i : Nat} {w : Value} (hn : gnd lv) {P : List (Nat × Value)} (h : lv_has ls nL P) (hP : (i, gcv ad w) :: (gas ad 0 lv).filter (fun q => !(q.1 == i) && (!(q.1 == i + 1) && !(q.1 + 1 == i && q.2.category == 2))) = P) : gL ad ls nL (gsto2 lv i w) := by
  refine ⟨h.1, h.2.1, fun j v hv => ?_⟩
  have hm : (j, gcv ad v) ∈ P := by
    rw [← hP]
    rcases gsto2_nth lv i w j v hv with ⟨h1, h2⟩ | ⟨h1, h0, h2, h3⟩
    · subst h1; subst h2; exact List.mem_cons_self
    · refine List.mem_cons_of_mem _ (List.mem_filter.mpr ⟨by have := gas_of (ad := ad) (b := 0) h2; rwa [Nat.zero_add] at this, ?_⟩)
      have hc : j + 1 = i → (gcv ad v).category = 1 := fun e => by
        rw [gcat]
        cases v <;> first | rfl | exact absurd rfl (h3 e _) | exact absurd rfl (hn j _ _ h2)
      by_cases e : j + 1 = i
      · simp [h1, h0, e, hc e]
      · simp [h1, h0, e]
  exact h.2.2 _ hm
theorem gnd.sto1 {lv : gLv} {i : Nat} {w : Value} (h : gnd lv) (hw : ∀ x, w ≠ .double x) : gnd (gsto1 lv i w) := fun j v x hv => by
  rcases gsto1_nth lv i w j v hv with ⟨_, h2⟩ | ⟨_, h2, _⟩
  · subst h2; exact hw x
  · exact h j v x h2
theorem gnd.sto2 {lv : gLv} {i : Nat} {w : Value} (h : gnd lv) (hw : ∀ x, w ≠ .double x) : gnd (gsto2 lv i w) := fun j v x hv => by
  rcases gsto2_nth lv i w j v hv with ⟨_, h2⟩ | ⟨_, _, h2, _⟩
  · subst h2; exact hw x
  · exact h j v x h2
end
section
-- classes, fields, words
def gkd (ty : FieldType) : Nat := match ty with
  | .long => 1
  | .object _ => 2
  | .array _ => 2
  | _ => 0
def gTy (ci : Nat) : Nat → FieldType := match ci with
  | 0 => tyX0
  | 1 => tyX1
  | 2 => tyX2
  | 3 => tyX3
  | 4 => tyX4
  | 5 => tyX5
  | 6 => tyX6
  | 7 => tyX7
  | 8 => tyX8
  | 9 => tyX9
  | _ => tyX10
def gN (ci : Nat) : Nat := match ci with
  | 0 => 6
  | 1 => 9
  | 2 => 5
  | 3 => 7
  | 4 => 3
  | 5 => 9
  | 6 => 7
  | 7 => 3
  | 8 => 3
  | 9 => 9
  | _ => 55
def gT : List Cond := lw_tbl.filter goodWord
def gat (c : Nat) (w : Cond) : Bool := decide (lw_tbl[c]? = some w) && goodWord w
theorem gat_mem {c : Nat} {w : Cond} (h : gat c w = true) : w ∈ gT := by
  unfold gat at h
  rw [Bool.and_eq_true] at h
  exact List.mem_filter.mpr ⟨List.mem_of_getElem? (of_decide_eq_true h.1), h.2⟩
theorem gall {ws : List Cond} (h : ws.all (fun w => decide (w ∈ lw_tbl) && goodWord w) = true) : ∀ w ∈ ws, w ∈ gT := fun w hw => by
  have h1 := List.all_eq_true.mp h w hw
  rw [Bool.and_eq_true] at h1
  exact List.mem_filter.mpr ⟨of_decide_eq_true h1.1, h1.2⟩
theorem gin0 : ∀ w ∈ u_ws RX0 TX0 6, w ∈ gT := gall (by decide +kernel)
theorem gin1 : ∀ w ∈ u_ws RX1 TX1 9, w ∈ gT := gall (by decide +kernel)
theorem gin2 : ∀ w ∈ u_ws RX2 TX2 5, w ∈ gT := gall (by decide +kernel)
theorem gin3 : ∀ w ∈ u_ws RX3 TX3 7, w ∈ gT := gall (by decide +kernel)
theorem gin4 : ∀ w ∈ u_ws RX4 TX4 3, w ∈ gT := gall (by decide +kernel)
theorem gin5 : ∀ w ∈ u_ws RX5 TX5 9, w ∈ gT := gall (by decide +kernel)
theorem gin6 : ∀ w ∈ u_ws RX6 TX6 7, w ∈ gT := gall (by decide +kernel)
theorem gin7 : ∀ w ∈ u_ws RX7 TX7 3, w ∈ gT := gall (by decide +kernel)
theorem gin8 : ∀ w ∈ u_ws RX8 TX8 3, w ∈ gT := gall (by decide +kernel)
theorem gin9 : ∀ w ∈ u_ws RX9 TX9 9, w ∈ gT := gall (by decide +kernel)
theorem gin10 : ∀ w ∈ u_ws RX10 TX10 55, w ∈ gT := gall (by decide +kernel)
/-- what is said of a class of the list by its number -/
def gClOk (ci : Nat) (q : vw_C) : Prop := q.2.2 = gN ci ∧ (∀ k, k < q.2.2 → parseFieldDescriptor (q.2.1 k).2.2.1 = some (gTy ci k)) ∧ (∀ a, a < q.2.2 → ∀ b, b < q.2.2 → a ≠ b → (q.2.1 a).2.1 ≠ (q.2.1 b).2.1) ∧ ∀ w ∈ u_ws q.1 q.2.1 q.2.2, w ∈ gT
theorem gcl : ∀ {ci : Nat} {q : vw_C}, vwCl[ci]? = some q → gClOk ci q := by
  intro ci q h
  match ci, h with
  | 0, h => cases h; exact ⟨rfl, tyX0_ok, nmX0, gin0⟩
  | 1, h => cases h; exact ⟨rfl, tyX1_ok, nmX1, gin1⟩
  | 2, h => cases h; exact ⟨rfl, tyX2_ok, nmX2, gin2⟩
  | 3, h => cases h; exact ⟨rfl, tyX3_ok, nmX3, gin3⟩
  | 4, h => cases h; exact ⟨rfl, tyX4_ok, nmX4, gin4⟩
  | 5, h => cases h; exact ⟨rfl, tyX5_ok, nmX5, gin5⟩
  | 6, h => cases h; exact ⟨rfl, tyX6_ok, nmX6, gin6⟩
  | 7, h => cases h; exact ⟨rfl, tyX7_ok, nmX7, gin7⟩
  | 8, h => cases h; exact ⟨rfl, tyX8_ok, nmX8, gin8⟩
  | 9, h => cases h; exact ⟨rfl, tyX9_ok, nmX9, gin9⟩
  | 10, h => cases h; exact ⟨rfl, tyX10_ok, nmX10, gin10⟩
  | ci + 11, h => simp [vwCl] at h
-- the world's cells
def gv (u : gS) (kd k j : Nat) : Value := match kd with
  | 0 => .int (u.2.2.1 k j)
  | 1 => .long (u.2.2.2.1 k j)
  | _ => va_rf (u.2.2.2.2 k j)
def gF (ad : Nat → Nat) (u : gS) (ci k : Nat) : List Value := (List.range (gN ci)).map (fun j => gcv ad (gv u (gkd (gTy ci j)) k j))
def gAr (ad : Nat → Nat) (u : gS) (tc len k : Nat) : vp_A := (len, match tc with
  | 2 => .inr (.inl (u.2.2.2.1 k))
  | 4 => .inr (.inr (.inr (.inr (fun j => (u.2.2.2.2 k j).map ad))))
  | 5 => .inr (.inr (.inr (.inr (fun j => (u.2.2.2.2 k j).map ad))))
  | _ => .inl (u.2.2.1 k))
def gE1 (cy : Nat → ClassId) (ad : Nat → Nat) (u : gS) (k : Nat) : va_E := match u.2.1 k with
  | .inl ci => .inr (ci, gF ad u ci k)
  | .inr (tc, len) => .inl (cy tc, gAr ad u tc len k)
def gW (cy : Nat → ClassId) (ad : Nat → Nat) (u : gS) : va_W := (List.range u.1).map (fun k => (ad k, gE1 cy ad u k))
theorem gW_at {cy : Nat → ClassId} {ad : Nat → Nat} {u : gS} {k : Nat} (h : k < u.1) : (gW cy ad u)[k]? = some (ad k, gE1 cy ad u k) := by
  unfold gW
  rw [List.getElem?_map, List.getElem?_range h]
  rfl
theorem gW_lt {cy : Nat → ClassId} {ad : Nat → Nat} {u : gS} {k : Nat} {q : Nat × va_E} (h : (gW cy ad u)[k]? = some q) : k < u.1 ∧ q = (ad k, gE1 cy ad u k) := by
  have hl : k < u.1 := by
    have := (List.getElem?_eq_some_iff.mp h).1
    simpa [gW] using this
  rw [gW_at hl] at h
  exact ⟨hl, (Option.some.inj h).symm⟩
theorem gF_at {ad : Nat → Nat} {u : gS} {ci k j : Nat} (h : j < gN ci) : (gF ad u ci k)[j]? = some (gcv ad (gv u (gkd (gTy ci j)) k j)) := by
  unfold gF
  rw [List.getElem?_map, List.getElem?_range h]
  rfl
theorem gF_len {ad : Nat → Nat} {u : gS} {ci k : Nat} : (gF ad u ci k).length = gN ci := by simp [gF]
theorem gset_s {α : Type} {I : Nat → Nat → α} {k : Nat} {f : Nat → α} : gset I k f k = f := by simp [gset]
theorem gset_n {α : Type} {I : Nat → Nat → α} {k a : Nat} {f : Nat → α} (h : a ≠ k) : gset I k f a = I a := by
  unfold gset
  cases hb : Nat.beq a k with
  | true => exact absurd (Nat.eq_of_beq_eq_true hb) h
  | false => rfl
theorem gupd_s {α : Type} {f : Nat → α} {j : Nat} {v : α} : gupd f j v j = v := by simp [gupd]
theorem gupd_n {α : Type} {f : Nat → α} {j q : Nat} {v : α} (h : q ≠ j) : gupd f j v q = f q := by
  unfold gupd
  cases hb : Nat.beq q j with
  | true => exact absurd (Nat.eq_of_beq_eq_true hb) h
  | false => rfl
theorem gupd_upd (f : Nat → Int32) (k : Nat) (x : Int32) : upd f k x = gupd f k x := by
  funext q
  by_cases h : q = k
  · subst h; simp [upd, gupd_s]
  · simp [upd, h, gupd_n h]
theorem gupd_updL (f : Nat → Int64) (k : Nat) (x : Int64) : vp_updL f k x = gupd f k x := by
  funext q
  by_cases h : q = k
  · subst h; simp [vp_updL, gupd_s]
  · simp [vp_updL, h, gupd_n h]
theorem gset_gset {α : Type} (I : Nat → Nat → α) (k : Nat) (f g : Nat → α) : gset (gset I k f) k g = gset I k g := by
  funext a
  by_cases h : a = k
  · subst h; rw [gset_s, gset_s]
  · rw [gset_n h, gset_n h, gset_n h]
theorem gset_self {α : Type} (I : Nat → Nat → α) (k : Nat) : gset I k (I k) = I := by
  funext a
  by_cases h : a = k
  · subst h; rw [gset_s]
  · rw [gset_n h]
theorem gset_comm {α : Type} (I : Nat → Nat → α) {k j : Nat} (h : k ≠ j) (f g : Nat → α) : gset (gset I k f) j g = gset (gset I j g) k f := by
  funext a
  by_cases h1 : a = k
  · subst h1; rw [gset_n h, gset_s, gset_s]
  · by_cases h2 : a = j
    · subst h2; rw [gset_s, gset_n h1, gset_s]
    · rw [gset_n h2, gset_n h1, gset_n h1, gset_n h2]
/-- one cell of the world is another: the list with that place set -/
theorem gW_set {cy : Nat → ClassId} {ad : Nat → Nat} {u u' : gS} {k : Nat} {e : va_E} (h1 : u'.1 = u.1) (hk : gE1 cy ad u' k = e) (ho : ∀ a, a < u.1 → a ≠ k → gE1 cy ad u' a = gE1 cy ad u a) : (gW cy ad u).set k (ad k, e) = gW cy ad u' := by
  apply List.ext_getElem?
  intro a
  rw [List.getElem?_set]
  by_cases h : a < u.1
  · rw [gW_at (u := u') (by rw [h1]; exact h)]
    by_cases ha : k = a
    · subst ha
      rw [if_pos rfl, if_pos (by simpa [gW] using h), hk]
    · rw [if_neg ha, gW_at h, ho a h (fun e => ha e.symm)]
  · have h2 : (gW cy ad u')[a]? = none := by
      rw [List.getElem?_eq_none_iff]; simp [gW]; omega
    have h3 : (gW cy ad u)[a]? = none := by
      rw [List.getElem?_eq_none_iff]; simp [gW]; omega
    rw [h2, h3]
    by_cases ha : k = a
    · subst ha; rw [if_pos rfl, if_neg (by simp [gW]; omega)]
    · rw [if_neg ha]
/-- an int place of a cell is another -/
theorem gE1_I {cy : Nat → ClassId} {ad : Nat → Nat} {n : Nat} {sh : Nat → gSh} {I I' : Nat → Nat → Int32} {L : Nat → Nat → Int64} {R : Nat → Nat → Option Nat} {a : Nat} (h : I' a = I a) : gE1 cy ad (n, sh, I', L, R) a = gE1 cy ad (n, sh, I, L, R) a := by
  unfold gE1
  show (match sh a with | .inl ci => _ | .inr (tc, len) => _) = (match sh a with | .inl ci => _ | .inr (tc, len) => _)
  split
  · congr 2
    unfold gF
    apply List.map_congr_left
    intro j _
    congr 1
    unfold gv
    split <;> simp only [h]
  · congr 2
    unfold gAr
    congr 1
    split <;> simp only [h]
theorem gE1_L {cy : Nat → ClassId} {ad : Nat → Nat} {n : Nat} {sh : Nat → gSh} {I : Nat → Nat → Int32} {L L' : Nat → Nat → Int64} {R : Nat → Nat → Option Nat} {a : Nat} (h : L' a = L a) : gE1 cy ad (n, sh, I, L', R) a = gE1 cy ad (n, sh, I, L, R) a := by
  unfold gE1
  show (match sh a with | .inl ci => _ | .inr (tc, len) => _) = (match sh a with | .inl ci => _ | .inr (tc, len) => _)
  split
  · congr 2
    unfold gF
    apply List.map_congr_left
    intro j _
    congr 1
    unfold gv
    split <;> simp only [h]
  · congr 2
    unfold gAr
    congr 1
    split <;> simp only [h]
theorem gE1_R {cy : Nat → ClassId} {ad : Nat → Nat} {n : Nat} {sh : Nat → gSh} {I : Nat → Nat → Int32} {L : Nat → Nat → Int64} {R R' : Nat → Nat → Option Nat} {a : Nat} (h : R' a = R a) : gE1 cy ad (n, sh, I, L, R') a = gE1 cy ad (n, sh, I, L, R) a := by
  unfold gE1
  show (match sh a with | .inl ci => _ | .inr (tc, len) => _) = (match sh a with | .inl ci => _ | .inr (tc, len) => _)
  split
  · congr 2
    unfold gF
    apply List.map_congr_left
    intro j _
    congr 1
    unfold gv
    split <;> simp only [h]
  · congr 2
    unfold gAr
    congr 1
    split <;> simp only [h]
/-- the fields of an object with one of them set -/
theorem gF_set {ad : Nat → Nat} {u u' : gS} {ci k j : Nat} {v : Value} (hj : j < gN ci) (hv : gcv ad (gv u' (gkd (gTy ci j)) k j) = v) (ho : ∀ i, i < gN ci → i ≠ j → gv u' (gkd (gTy ci i)) k i = gv u (gkd (gTy ci i)) k i) : (gF ad u ci k).set j v = gF ad u' ci k := by
  apply List.ext_getElem?
  intro i
  rw [List.getElem?_set]
  by_cases h : i < gN ci
  · rw [gF_at (u := u') h]
    by_cases hi : j = i
    · subst hi; rw [if_pos rfl, if_pos (by rw [gF_len]; exact h), hv]
    · rw [if_neg hi, gF_at h, ho i h (fun e => hi e.symm)]
  · have h2 : (gF ad u' ci k)[i]? = none := by rw [List.getElem?_eq_none_iff, gF_len]; omega
    have h3 : (gF ad u ci k)[i]? = none := by rw [List.getElem?_eq_none_iff, gF_len]; omega
    rw [h2, h3]
    by_cases hi : j = i
    · subst hi; rw [if_pos rfl, if_neg (by rw [gF_len]; omega)]
    · rw [if_neg hi]
theorem gv_I {n : Nat} {sh : Nat → gSh} {I I' : Nat → Nat → Int32} {L : Nat → Nat → Int64} {R : Nat → Nat → Option Nat} {kd k j : Nat} (h : I' k j = I k j) : gv (n, sh, I', L, R) kd k j = gv (n, sh, I, L, R) kd k j := by unfold gv; split <;> simp only [h]
theorem gv_L {n : Nat} {sh : Nat → gSh} {I : Nat → Nat → Int32} {L L' : Nat → Nat → Int64} {R : Nat → Nat → Option Nat} {kd k j : Nat} (h : L' k j = L k j) : gv (n, sh, I, L', R) kd k j = gv (n, sh, I, L, R) kd k j := by unfold gv; split <;> simp only [h]
theorem gv_R {n : Nat} {sh : Nat → gSh} {I : Nat → Nat → Int32} {L : Nat → Nat → Int64} {R R' : Nat → Nat → Option Nat} {kd k j : Nat} (h : R' k j = R k j) : gv (n, sh, I, L, R') kd k j = gv (n, sh, I, L, R) kd k j := by unfold gv; split <;> simp only [h]
end
section
/-- a method: name, code, places for locals, what it returns, its kind (0 static, 1 virtual, 2 constructor), parameters, the places of its words (code, its class initialized, static or instanceMethod, selects) -/
abbrev gM : Type := MethodName × ByteArray × Nat × Option FieldType × Nat × Nat × List Nat
def gMt0 : List gM := [(yX9_init, prog_1_method_1_code, 2, none, 2, 0, [87, 63, 86, 0]),
  (yX2_init, prog_4_method_1_code, 1, none, 2, 0, [95, 64, 94, 0]),
  (yX6_init, prog_8_method_1_code, 1, none, 2, 0, [123, 65, 122, 0]),
  (yX5_init, prog_7_method_1_code, 1, none, 2, 0, [168, 66, 167, 0]),
  (yX3_init, prog_5_method_1_code, 3, none, 2, 2, [204, 67, 203, 0]),
  (yX1_init, prog_3_method_1_code, 4, none, 2, 3, [237, 68, 236, 0]),
  (yX8_init, prog_10_method_1_code, 2, none, 2, 1, [274, 69, 273, 0]),
  (yX0_init, prog_2_method_1_code, 1, none, 2, 0, [292, 70, 291, 0]),
  (yX4_init, prog_6_method_1_code, 1, none, 2, 0, [319, 71, 318, 0]),
  (yJ0_length_8abf5, prog_17_method_54_code, 1, (some FieldType.int), 1, 0, [338, 72, 336, 337]),
  (yJ0_coder_7d493, prog_17_method_152_code, 1, (some FieldType.byte), 1, 0, [342, 72, 340, 341]),
  (yJ0_charAt_5068e, prog_17_method_56_code, 2, (some FieldType.char), 1, 1, [348, 72, 346, 347]),
  (yJ0_isLatin1_aae02, prog_17_method_154_code, 1, (some FieldType.boolean), 1, 0, [352, 72, 350, 351]),
  (yJ1_charAt_3b067, prog_18_method_2_code, 2, (some FieldType.char), 0, 2, [355, 73, 354, 0]),
  (yJ0_checkIndex_df160, prog_17_method_155_code, 2, none, 0, 2, [358, 72, 357, 0]),
  (yJ3_checkIndex_8e157, prog_22_method_11_code, 3, (some FieldType.int), 0, 3, [363, 74, 362, 0]),
  (yJ2_charAt_3b067, prog_19_method_83_code, 2, (some FieldType.char), 0, 2, [366, 75, 365, 0]),
  (yJ2_checkIndex_2214a, prog_19_method_91_code, 2, none, 0, 2, [369, 75, 368, 0]),
  (yJ2_length_9d52b, prog_19_method_6_code, 1, (some FieldType.int), 0, 1, [372, 75, 371, 0]),
  (yJ2_getChar_3b067, prog_19_method_5_code, 2, (some FieldType.char), 0, 2, [376, 75, 375, 0]),
  (yX5_put, prog_7_method_3_code, 2, none, 1, 1, [386, 66, 384, 385]),
  (yX5_readText, prog_7_method_6_code, 2, (some FieldType.int), 1, 0, [390, 66, 388, 389]),
  (yX5_advance, prog_7_method_16_code, 2, none, 1, 0, [394, 66, 393, 0]),
  (yX5_isLetter, prog_7_method_20_code, 2, (some FieldType.boolean), 1, 1, [398, 66, 397, 1]),
  (yX5_takeWord, prog_7_method_17_code, 2, none, 1, 0, [402, 66, 401, 2]),
  (yX5_wordOf, prog_7_method_23_code, 1, (some (FieldType.object "java/lang/String")), 0, 1, [405, 66, 404, 0]),
  (yX5_isSpelt, prog_7_method_18_code, 3, (some FieldType.boolean), 1, 1, [421, 66, 420, 3]),
  (yX5_isDigit, prog_7_method_21_code, 2, (some FieldType.boolean), 1, 1, [427, 66, 426, 4]),
  (yX5_takeNumber, prog_7_method_19_code, 1, none, 1, 0, [431, 66, 430, 5]),
  (yX5_isSign, prog_7_method_22_code, 1, (some FieldType.boolean), 0, 1, [434, 66, 433, 0]),
  (yX5_readEither, prog_7_method_7_code, 4, (some FieldType.boolean), 1, 1, [438, 66, 437, 6]),
  (yX5_readBoth, prog_7_method_8_code, 4, (some FieldType.boolean), 1, 1, [442, 66, 441, 7]),
  (yX5_readDenied, prog_7_method_9_code, 4, (some FieldType.boolean), 1, 1, [446, 66, 445, 8]),
  (yX5_readBehind, prog_7_method_10_code, 4, (some FieldType.boolean), 1, 2, [450, 66, 449, 9]),
  (yX5_readOne, prog_7_method_13_code, 2, (some FieldType.boolean), 1, 1, [454, 66, 453, 10]),
  (yX5_readInside, prog_7_method_14_code, 2, (some FieldType.boolean), 1, 1, [458, 66, 457, 11]),
  (yX5_step, prog_7_method_15_code, 2, none, 1, 1, [462, 66, 461, 12]),
  (yX5_readSum, prog_7_method_11_code, 5, (some FieldType.boolean), 1, 1, [466, 66, 465, 13]),
  (yX5_readTerm, prog_7_method_12_code, 4, (some FieldType.boolean), 1, 1, [470, 66, 469, 14]),
  (yX5_lastText, prog_7_method_5_code, 1, (some (FieldType.object "NobodyFirst$Text")), 1, 0, [474, 66, 472, 473])]
def gMt1 : List gM := [(yJ7_copyOf_59c91, prog_21_method_123_code, 3, (some (FieldType.array FieldType.int)), 0, 2, [479, 77, 478, 0]),
  (yX7_init, prog_9_method_1_code, 4, none, 2, 3, [495, 76, 494, 0]),
  (yX3_add, prog_5_method_2_code, 2, (some FieldType.int), 1, 1, [511, 67, 509, 510]),
  (yX5_empty, prog_7_method_4_code, 1, none, 1, 0, [515, 66, 513, 514]),
  (yX9_tenth, prog_1_method_2_code, 4, (some FieldType.int), 1, 3, [547, 63, 545, 546]),
  (yX2_add, prog_4_method_2_code, 4, (some FieldType.int), 1, 3, [551, 64, 549, 550]),
  (yX9_rider, prog_1_method_3_code, 5, (some FieldType.int), 1, 4, [555, 63, 553, 554]),
  (yX6_add, prog_8_method_2_code, 5, (some FieldType.int), 1, 4, [559, 65, 557, 558]),
  (yX9_isPower, prog_1_method_32_code, 1, (some FieldType.boolean), 0, 1, [562, 63, 561, 0]),
  (yX9_isStore, prog_1_method_33_code, 1, (some FieldType.boolean), 0, 1, [565, 63, 564, 0]),
  (yX9_set, prog_1_method_4_code, 6, (some FieldType.int), 1, 3, [569, 63, 567, 568]),
  (yX6_has, prog_8_method_3_code, 2, (some FieldType.boolean), 1, 1, [573, 65, 571, 572]),
  (yX9_told, prog_1_method_5_code, 4, (some FieldType.int), 1, 3, [579, 63, 577, 578]),
  (yX6_works, prog_8_method_7_code, 5, (some FieldType.boolean), 1, 3, [583, 65, 581, 582]),
  (yX6_stays, prog_8_method_8_code, 3, (some FieldType.int), 1, 1, [587, 65, 585, 586]),
  (yX6_ends, prog_8_method_9_code, 3, (some FieldType.int), 1, 1, [591, 65, 589, 590]),
  (yX9_house, prog_1_method_6_code, 2, (some FieldType.int), 1, 1, [598, 63, 596, 597]),
  (yX6_ofHouse, prog_8_method_6_code, 4, (some FieldType.int), 1, 1, [602, 65, 600, 601]),
  (yX9_feed, prog_1_method_7_code, 5, (some FieldType.int), 1, 2, [606, 63, 604, 605]),
  (yX5_room, prog_7_method_2_code, 1, (some FieldType.int), 1, 0, [610, 66, 608, 609]),
  (yX9_text, prog_1_method_8_code, 3, (some FieldType.int), 1, 0, [614, 63, 612, 613]),
  (yX9_force, prog_1_method_9_code, 3, (some FieldType.int), 1, 1, [618, 63, 616, 617]),
  (yX9_says, prog_1_method_10_code, 5, (some FieldType.int), 1, 4, [622, 63, 620, 621]),
  (yX9_isSeat, prog_1_method_36_code, 4, (some FieldType.boolean), 1, 3, [626, 63, 625, 15]),
  (yX2_has, prog_4_method_3_code, 2, (some FieldType.boolean), 1, 1, [630, 64, 628, 629]),
  (yX3_comesTo, prog_5_method_3_code, 6, (some FieldType.int), 1, 5, [634, 67, 632, 633]),
  (yX2_sheltered, prog_4_method_8_code, 3, (some FieldType.int), 1, 2, [638, 64, 636, 637]),
  (yX2_left, prog_4_method_7_code, 2, (some FieldType.int), 1, 1, [642, 64, 640, 641]),
  (yX3_valueOf, prog_5_method_5_code, 7, (some FieldType.int), 1, 1, [646, 67, 645, 16]),
  (yX7_to, prog_9_method_3_code, 2, (some FieldType.int), 1, 1, [650, 76, 648, 649]),
  (yX7_from, prog_9_method_2_code, 2, (some FieldType.int), 1, 1, [654, 76, 652, 653]),
  (yX3_truth, prog_5_method_7_code, 1, (some FieldType.int), 0, 1, [658, 67, 657, 0]),
  (yX3_joined, prog_5_method_6_code, 3, (some FieldType.int), 0, 3, [661, 67, 660, 0]),
  (yX9_within, prog_1_method_35_code, 3, (some FieldType.int), 0, 3, [664, 63, 663, 0]),
  (yX9_ride, prog_1_method_11_code, 5, (some FieldType.int), 1, 3, [670, 63, 668, 669]),
  (yX9_isRide, prog_1_method_37_code, 3, (some FieldType.boolean), 1, 2, [674, 63, 673, 17]),
  (yX6_isGroup, prog_8_method_4_code, 2, (some FieldType.boolean), 1, 1, [678, 65, 676, 677]),
  (yX2_isSpan, prog_4_method_4_code, 2, (some FieldType.boolean), 1, 1, [682, 64, 680, 681]),
  (yX2_spanFrom, prog_4_method_5_code, 2, (some FieldType.int), 1, 1, [686, 64, 684, 685]),
  (yX2_spanTo, prog_4_method_6_code, 2, (some FieldType.int), 1, 1, [690, 64, 688, 689])]
def gMt2 : List gM := [(yX1_rideAll, prog_3_method_4_code, 5, (some FieldType.int), 1, 2, [694, 68, 692, 693]),
  (yX1_begin, prog_3_method_2_code, 3, none, 1, 1, [698, 68, 696, 697]),
  (yX1_go, prog_3_method_3_code, 3, none, 1, 1, [704, 68, 702, 703]),
  (yX1_someWorks, prog_3_method_6_code, 3, (some FieldType.boolean), 1, 1, [709, 68, 708, 18]),
  (yX1_takeTurns, prog_3_method_7_code, 5, none, 1, 1, [714, 68, 713, 19]),
  (yX1_tire, prog_3_method_8_code, 7, none, 1, 1, [720, 68, 719, 20]),
  (yX1_fallBack, prog_3_method_9_code, 3, none, 1, 0, [725, 68, 724, 21]),
  (yX1_left, prog_3_method_5_code, 3, (some FieldType.int), 1, 0, [729, 68, 727, 728]),
  (yX9_spent, prog_1_method_12_code, 4, (some FieldType.long), 1, 3, [733, 63, 731, 732]),
  (yX9_ridden, prog_1_method_13_code, 4, (some FieldType.int), 1, 2, [738, 63, 736, 737]),
  (yX9_caught, prog_1_method_14_code, 9, (some FieldType.long), 1, 5, [742, 63, 740, 741]),
  (yX9_isChase, prog_1_method_38_code, 5, (some FieldType.boolean), 1, 4, [746, 63, 745, 22]),
  (yX9_beginChase, prog_1_method_39_code, 3, none, 1, 2, [750, 63, 749, 23]),
  (yX9_gained, prog_1_method_40_code, 2, (some FieldType.int), 1, 1, [757, 63, 756, 24]),
  (yX9_worth, prog_1_method_15_code, 4, (some FieldType.long), 1, 3, [762, 63, 760, 761]),
  (yX3_loss, prog_5_method_4_code, 5, (some FieldType.int), 1, 3, [766, 67, 764, 765]),
  (yX9_turns, prog_1_method_16_code, 8, (some FieldType.long), 1, 3, [771, 63, 769, 770]),
  (yX9_lossBehind, prog_1_method_41_code, 7, (some FieldType.int), 1, 3, [775, 63, 774, 25]),
  (yX9_game, prog_1_method_17_code, 6, (some FieldType.int), 1, 3, [779, 63, 777, 778]),
  (yJ6_bitCount_0f7a4, prog_14_method_49_code, 1, (some FieldType.int), 0, 1, [782, 81, 781, 0]),
  (yX9_isSheet, prog_1_method_34_code, 1, (some FieldType.boolean), 0, 1, [788, 63, 787, 0]),
  (yX4_isMissing, prog_6_method_2_code, 1, (some FieldType.boolean), 1, 0, [792, 71, 790, 791]),
  (yX9_restsOf, prog_1_method_43_code, 7, (some FieldType.int), 0, 2, [795, 63, 794, 0]),
  (yX9_goodOf, prog_1_method_44_code, 9, (some FieldType.int), 0, 2, [798, 63, 797, 0]),
  (yX9_goes, prog_1_method_18_code, 4, (some FieldType.int), 1, 2, [802, 63, 800, 801]),
  (yX9_getsAway, prog_1_method_42_code, 6, (some FieldType.boolean), 1, 3, [806, 63, 805, 26]),
  (yX9_train, prog_1_method_19_code, 4, (some FieldType.int), 1, 2, [810, 63, 808, 809]),
  (yX8_search, prog_10_method_2_code, 2, none, 1, 1, [814, 69, 812, 813]),
  (yX8_tryAll, prog_10_method_3_code, 7, none, 1, 3, [818, 69, 817, 27]),
  (yX9_split, prog_1_method_20_code, 3, (some FieldType.int), 1, 2, [823, 63, 821, 822]),
  (yX9_film, prog_1_method_21_code, 5, (some FieldType.int), 1, 3, [827, 63, 825, 826]),
  (yX9_wrong, prog_1_method_22_code, 5, (some FieldType.int), 1, 2, [831, 63, 829, 830]),
  (yX6_someFilmed, prog_8_method_10_code, 4, (some FieldType.boolean), 1, 2, [835, 65, 833, 834]),
  (yX9_clock, prog_1_method_23_code, 12, (some FieldType.long), 1, 5, [839, 63, 837, 838]),
  (yX9_image, prog_1_method_24_code, 1, (some FieldType.int), 1, 0, [844, 63, 842, 843]),
  (yX0_keep, prog_2_method_2_code, 3, none, 1, 2, [848, 70, 846, 847]),
  (yX9_back, prog_1_method_25_code, 1, (some FieldType.int), 1, 0, [853, 63, 851, 852]),
  (yX0_layBack, prog_2_method_3_code, 3, none, 1, 2, [857, 70, 855, 856]),
  (yX9_count, prog_1_method_26_code, 2, (some FieldType.int), 1, 1, [861, 63, 859, 860]),
  (yX6_allFilmed, prog_8_method_11_code, 3, (some FieldType.int), 1, 0, [865, 65, 863, 864])]
def gMt3 : List gM := [(yJ13_bitCount_95d88, prog_15_method_50_code, 2, (some FieldType.int), 0, 1, [868, 82, 867, 0]),
  (yX6_allStores, prog_8_method_12_code, 3, (some FieldType.int), 1, 0, [875, 65, 873, 874]),
  (yX9_sheet, prog_1_method_27_code, 4, (some FieldType.int), 1, 3, [879, 63, 877, 878]),
  (yX4_become, prog_6_method_3_code, 3, none, 1, 2, [883, 71, 881, 882]),
  (yJ7_fill_53178, prog_21_method_103_code, 4, none, 0, 2, [886, 77, 885, 0]),
  (yX9_cell, prog_1_method_28_code, 5, (some FieldType.int), 1, 3, [890, 63, 888, 889]),
  (yX4_reaches, prog_6_method_4_code, 3, (some FieldType.boolean), 1, 2, [894, 71, 892, 893]),
  (yX4_put, prog_6_method_5_code, 3, none, 1, 2, [898, 71, 896, 897]),
  (yX9_copy, prog_1_method_29_code, 8, (some FieldType.int), 1, 5, [902, 63, 900, 901]),
  (yX9_tenths, prog_1_method_30_code, 9, (some FieldType.int), 1, 4, [907, 63, 905, 906]),
  (yX9_taken, prog_1_method_31_code, 3, (some FieldType.int), 1, 2, [911, 63, 909, 910]),
  (yX6_isUnder, prog_8_method_5_code, 5, (some FieldType.boolean), 1, 2, [915, 65, 913, 914]),
  (yX10_init, prog_12_method_3_code, 1, none, 2, 0, [922, 80, 921, 0]),
  (yX10_spell, prog_12_method_4_code, 5, none, 1, 2, [928, 80, 927, 28]),
  (yX10_tenth, prog_12_method_9_code, 4, (some FieldType.int), 1, 3, [1108, 80, 1106, 1107]),
  (yX10_in, prog_12_method_2_code, 6, (some FieldType.boolean), 0, 3, [1113, 80, 1112, 0]),
  (yX10_rider, prog_12_method_10_code, 5, (some FieldType.int), 1, 4, [1119, 80, 1117, 1118]),
  (yX10_set, prog_12_method_11_code, 5, (some FieldType.int), 1, 3, [1127, 80, 1125, 1126]),
  (yX10_isRider, prog_12_method_6_code, 2, (some FieldType.boolean), 1, 1, [1131, 80, 1130, 29]),
  (yX10_told, prog_12_method_15_code, 4, (some FieldType.int), 1, 3, [1135, 80, 1133, 1134]),
  (yX10_works, prog_12_method_12_code, 4, (some FieldType.boolean), 1, 3, [1140, 80, 1139, 30]),
  (yX10_stays, prog_12_method_13_code, 2, (some FieldType.int), 1, 1, [1144, 80, 1143, 31]),
  (yX10_endsOf, prog_12_method_14_code, 3, (some FieldType.int), 1, 1, [1148, 80, 1147, 32]),
  (yX10_house, prog_12_method_16_code, 4, (some FieldType.int), 1, 1, [1152, 80, 1150, 1151]),
  (yX10_feed, prog_12_method_17_code, 5, (some FieldType.int), 1, 2, [1157, 80, 1155, 1156]),
  (yX10_text, prog_12_method_33_code, 2, (some FieldType.int), 1, 0, [1162, 80, 1160, 1161]),
  (yX10_read, prog_12_method_32_code, 6, (some FieldType.int), 1, 2, [1166, 80, 1165, 33]),
  (yX10_next, prog_12_method_19_code, 3, none, 1, 0, [1170, 80, 1169, 34]),
  (yX10_byteAt, prog_12_method_18_code, 2, (some FieldType.int), 1, 1, [1174, 80, 1173, 35]),
  (yX10_part, prog_12_method_31_code, 4, (some FieldType.int), 1, 1, [1187, 80, 1186, 36]),
  (yX10_isWord, prog_12_method_21_code, 3, (some FieldType.boolean), 1, 1, [1191, 80, 1190, 37]),
  (yX10_fail, prog_12_method_20_code, 1, none, 1, 0, [1195, 80, 1194, 38]),
  (yX10_either, prog_12_method_30_code, 3, (some FieldType.int), 1, 0, [1199, 80, 1198, 39]),
  (yX10_both, prog_12_method_29_code, 3, (some FieldType.int), 1, 0, [1203, 80, 1202, 40]),
  (yX10_not, prog_12_method_28_code, 4, (some FieldType.int), 1, 0, [1207, 80, 1206, 41]),
  (yX10_opens, prog_12_method_23_code, 1, (some FieldType.boolean), 1, 0, [1212, 80, 1211, 42]),
  (yX10_added, prog_12_method_27_code, 4, (some FieldType.int), 1, 0, [1216, 80, 1215, 43]),
  (yX10_term, prog_12_method_26_code, 2, (some FieldType.int), 1, 0, [1220, 80, 1219, 44]),
  (yX10_one, prog_12_method_25_code, 2, (some FieldType.int), 1, 0, [1224, 80, 1223, 45]),
  (yX10_isSign, prog_12_method_22_code, 2, (some FieldType.boolean), 1, 1, [1228, 80, 1227, 46])]
def gMt4 : List gM := [(yX10_name, prog_12_method_24_code, 1, (some FieldType.int), 1, 0, [1232, 80, 1231, 47]),
  (yX10_force, prog_12_method_34_code, 3, (some FieldType.int), 1, 1, [1248, 80, 1246, 1247]),
  (yX10_says, prog_12_method_37_code, 5, (some FieldType.int), 1, 4, [1252, 80, 1250, 1251]),
  (yX10_isTenth, prog_12_method_5_code, 2, (some FieldType.boolean), 1, 1, [1256, 80, 1255, 48]),
  (yX10_saysOf, prog_12_method_36_code, 6, (some FieldType.int), 1, 5, [1261, 80, 1260, 49]),
  (yX10_within, prog_12_method_35_code, 3, (some FieldType.int), 0, 3, [1264, 80, 1263, 0]),
  (yX10_ride, prog_12_method_43_code, 4, (some FieldType.int), 1, 3, [1268, 80, 1266, 1267]),
  (yX10_isGroup, prog_12_method_7_code, 2, (some FieldType.boolean), 1, 1, [1272, 80, 1271, 50]),
  (yX10_areTenths, prog_12_method_8_code, 2, (some FieldType.boolean), 1, 1, [1276, 80, 1275, 51]),
  (yX10_goes1, prog_12_method_41_code, 4, none, 1, 2, [1280, 80, 1279, 52]),
  (yX10_begins, prog_12_method_38_code, 4, none, 1, 2, [1284, 80, 1283, 53]),
  (yX10_rides, prog_12_method_40_code, 14, (some FieldType.int), 1, 2, [1288, 80, 1287, 54]),
  (yX10_turnsOn, prog_12_method_39_code, 5, none, 1, 1, [1292, 80, 1291, 55]),
  (yX10_leftIn, prog_12_method_42_code, 3, (some FieldType.int), 1, 0, [1296, 80, 1295, 56]),
  (yX10_spent, prog_12_method_44_code, 4, (some FieldType.long), 1, 3, [1300, 80, 1298, 1299]),
  (yX10_ridden, prog_12_method_45_code, 4, (some FieldType.int), 1, 2, [1305, 80, 1303, 1304]),
  (yX10_caught, prog_12_method_48_code, 6, (some FieldType.long), 1, 5, [1309, 80, 1307, 1308]),
  (yX10_areGroups, prog_12_method_47_code, 3, (some FieldType.boolean), 1, 2, [1313, 80, 1312, 57]),
  (yX10_chases, prog_12_method_46_code, 7, none, 1, 5, [1318, 80, 1317, 58]),
  (yX10_clock, prog_12_method_49_code, 6, (some FieldType.long), 1, 5, [1322, 80, 1320, 1321]),
  (yX10_worth, prog_12_method_51_code, 4, (some FieldType.long), 1, 3, [1328, 80, 1326, 1327]),
  (yX10_lossOf, prog_12_method_50_code, 4, (some FieldType.int), 1, 3, [1332, 80, 1331, 59]),
  (yX10_turns, prog_12_method_53_code, 6, (some FieldType.long), 1, 3, [1336, 80, 1334, 1335]),
  (yX10_lossBy, prog_12_method_52_code, 7, (some FieldType.int), 1, 3, [1340, 80, 1339, 60]),
  (yX10_game, prog_12_method_55_code, 15, (some FieldType.int), 1, 3, [1344, 80, 1342, 1343]),
  (yX10_bitsOf, prog_12_method_54_code, 3, (some FieldType.int), 0, 1, [1347, 80, 1346, 0]),
  (yX10_isSheet, prog_12_method_65_code, 1, (some FieldType.boolean), 0, 1, [1350, 80, 1349, 0]),
  (yX10_goes, prog_12_method_56_code, 4, (some FieldType.int), 1, 2, [1354, 80, 1352, 1353]),
  (yX10_train, prog_12_method_58_code, 3, (some FieldType.int), 1, 2, [1358, 80, 1356, 1357]),
  (yX10_couples, prog_12_method_57_code, 5, none, 1, 3, [1363, 80, 1362, 61]),
  (yX10_split, prog_12_method_59_code, 4, (some FieldType.int), 1, 2, [1367, 80, 1365, 1366]),
  (yX10_film, prog_12_method_60_code, 5, (some FieldType.int), 1, 3, [1371, 80, 1369, 1370]),
  (yX10_wrong, prog_12_method_61_code, 6, (some FieldType.int), 1, 2, [1375, 80, 1373, 1374]),
  (yX10_image, prog_12_method_62_code, 2, (some FieldType.int), 1, 0, [1379, 80, 1377, 1378]),
  (yX10_back, prog_12_method_63_code, 3, (some FieldType.int), 1, 0, [1383, 80, 1381, 1382]),
  (yX10_count, prog_12_method_64_code, 4, (some FieldType.int), 1, 1, [1387, 80, 1385, 1386]),
  (yX10_sheet, prog_12_method_66_code, 5, (some FieldType.int), 1, 3, [1391, 80, 1389, 1390]),
  (yX10_cell, prog_12_method_67_code, 4, (some FieldType.int), 1, 3, [1395, 80, 1393, 1394]),
  (yX10_copy, prog_12_method_68_code, 9, (some FieldType.int), 1, 5, [1399, 80, 1397, 1398]),
  (yX10_tenths, prog_12_method_69_code, 8, (some FieldType.int), 1, 4, [1403, 80, 1401, 1402])]
def gMt5 : List gM := [(yX10_taken, prog_12_method_71_code, 4, (some FieldType.int), 1, 2, [1409, 80, 1407, 1408]),
  (yX10_over, prog_12_method_70_code, 1, (some FieldType.int), 0, 1, [1412, 80, 1411, 0])]
def gMt : List gM := gMt0 ++ gMt1 ++ gMt2 ++ gMt3 ++ gMt4 ++ gMt5
def gMok (q : gM) : Bool := match q.2.2.2.2.2.2 with
  | [_, p2, p3, p4] => gat p2 (.initialized q.1.cls) && (match q.2.2.2.2.1 with
    | 0 => gat p3 (.static q.1)
    | 1 => gat p3 (.instanceMethod q.1) && gat p4 (.selects q.1.cls q.1 q.1)
    | _ => gat p3 (.instanceMethod q.1) && decide (q.1.name = "<init>") && decide (q.2.2.2.1 = none)) && decide (plainName q.1.cls = true ∧ q.1.cls ≠ "java/lang/invoke/MethodHandle" ∧ q.1.cls ≠ "java/lang/invoke/VarHandle" ∧ (parseMethodDescriptor q.1.desc).map (fun d => d.parameters.length) = some q.2.2.2.2.2.1) && Nat.ble q.2.2.1 21
  | _ => false
theorem gcw {p : Nat} {y : MethodName} {b : ByteArray} {ml : Nat} {r : Option FieldType} (h : lw_tbl[p]? = some (.code y b ml r)) : Cond.code y b ml r ∈ gT := List.mem_filter.mpr ⟨List.mem_of_getElem? h, rfl⟩
/-- its words are among the tables' -/
def gMw (q : gM) : Prop := Cond.code q.1 q.2.1 q.2.2.1 q.2.2.2.1 ∈ gT ∧ gMok q = true
set_option maxRecDepth 100000 in
theorem gMw_0 : gMw (yX9_init, prog_1_method_1_code, 2, none, 2, 0, [87, 63, 86, 0]) := ⟨gcw (p := 87) rfl, by decide +kernel⟩
set_option maxRecDepth 100000 in
theorem gMw_1 : gMw (yX2_init, prog_4_method_1_code, 1, none, 2, 0, [95, 64, 94, 0]) := ⟨gcw (p := 95) rfl, by decide +kernel⟩
set_option maxRecDepth 100000 in
theorem gMw_2 : gMw (yX6_init, prog_8_method_1_code, 1, none, 2, 0, [123, 65, 122, 0]) := ⟨gcw (p := 123) rfl, by decide +kernel⟩
set_option maxRecDepth 100000 in
theorem gMw_3 : gMw (yX5_init, prog_7_method_1_code, 1, none, 2, 0, [168, 66, 167, 0]) := ⟨gcw (p := 168) rfl, by decide +kernel⟩
set_option maxRecDepth 100000 in
theorem gMw_4 : gMw (yX3_init, prog_5_method_1_code, 3, none, 2, 2, [204, 67, 203, 0]) := ⟨gcw (p := 204) rfl, by decide +kernel⟩
set_option maxRecDepth 100000 in
theorem gMw_5 : gMw (yX1_init, prog_3_method_1_code, 4, none, 2, 3, [237, 68, 236, 0]) := ⟨gcw (p := 237) rfl, by decide +kernel⟩
set_option maxRecDepth 100000 in
theorem gMw_6 : gMw (yX8_init, prog_10_method_1_code, 2, none, 2, 1, [274, 69, 273, 0]) := ⟨gcw (p := 274) rfl, by decide +kernel⟩
set_option maxRecDepth 100000 in
theorem gMw_7 : gMw (yX0_init, prog_2_method_1_code, 1, none, 2, 0, [292, 70, 291, 0]) := ⟨gcw (p := 292) rfl, by decide +kernel⟩
set_option maxRecDepth 100000 in
theorem gMw_8 : gMw (yX4_init, prog_6_method_1_code, 1, none, 2, 0, [319, 71, 318, 0]) := ⟨gcw (p := 319) rfl, by decide +kernel⟩
set_option maxRecDepth 100000 in
theorem gMw_9 : gMw (yJ0_length_8abf5, prog_17_method_54_code, 1, (some FieldType.int), 1, 0, [338, 72, 336, 337]) := ⟨gcw (p := 338) rfl, by decide +kernel⟩
set_option maxRecDepth 100000 in
theorem gMw_10 : gMw (yJ0_coder_7d493, prog_17_method_152_code, 1, (some FieldType.byte), 1, 0, [342, 72, 340, 341]) := ⟨gcw (p := 342) rfl, by decide +kernel⟩
set_option maxRecDepth 100000 in
theorem gMw_11 : gMw (yJ0_charAt_5068e, prog_17_method_56_code, 2, (some FieldType.char), 1, 1, [348, 72, 346, 347]) := ⟨gcw (p := 348) rfl, by decide +kernel⟩
set_option maxRecDepth 100000 in
theorem gMw_12 : gMw (yJ0_isLatin1_aae02, prog_17_method_154_code, 1, (some FieldType.boolean), 1, 0, [352, 72, 350, 351]) := ⟨gcw (p := 352) rfl, by decide +kernel⟩
set_option maxRecDepth 100000 in
theorem gMw_13 : gMw (yJ1_charAt_3b067, prog_18_method_2_code, 2, (some FieldType.char), 0, 2, [355, 73, 354, 0]) := ⟨gcw (p := 355) rfl, by decide +kernel⟩
set_option maxRecDepth 100000 in
theorem gMw_14 : gMw (yJ0_checkIndex_df160, prog_17_method_155_code, 2, none, 0, 2, [358, 72, 357, 0]) := ⟨gcw (p := 358) rfl, by decide +kernel⟩
set_option maxRecDepth 100000 in
theorem gMw_15 : gMw (yJ3_checkIndex_8e157, prog_22_method_11_code, 3, (some FieldType.int), 0, 3, [363, 74, 362, 0]) := ⟨gcw (p := 363) rfl, by decide +kernel⟩
set_option maxRecDepth 100000 in
theorem gMw_16 : gMw (yJ2_charAt_3b067, prog_19_method_83_code, 2, (some FieldType.char), 0, 2, [366, 75, 365, 0]) := ⟨gcw (p := 366) rfl, by decide +kernel⟩
set_option maxRecDepth 100000 in
theorem gMw_17 : gMw (yJ2_checkIndex_2214a, prog_19_method_91_code, 2, none, 0, 2, [369, 75, 368, 0]) := ⟨gcw (p := 369) rfl, by decide +kernel⟩
set_option maxRecDepth 100000 in
theorem gMw_18 : gMw (yJ2_length_9d52b, prog_19_method_6_code, 1, (some FieldType.int), 0, 1, [372, 75, 371, 0]) := ⟨gcw (p := 372) rfl, by decide +kernel⟩
set_option maxRecDepth 100000 in
theorem gMw_19 : gMw (yJ2_getChar_3b067, prog_19_method_5_code, 2, (some FieldType.char), 0, 2, [376, 75, 375, 0]) := ⟨gcw (p := 376) rfl, by decide +kernel⟩
set_option maxRecDepth 100000 in
theorem gMw_20 : gMw (yX5_put, prog_7_method_3_code, 2, none, 1, 1, [386, 66, 384, 385]) := ⟨gcw (p := 386) rfl, by decide +kernel⟩
set_option maxRecDepth 100000 in
theorem gMw_21 : gMw (yX5_readText, prog_7_method_6_code, 2, (some FieldType.int), 1, 0, [390, 66, 388, 389]) := ⟨gcw (p := 390) rfl, by decide +kernel⟩
set_option maxRecDepth 100000 in
theorem gMw_22 : gMw (yX5_advance, prog_7_method_16_code, 2, none, 1, 0, [394, 66, 393, 0]) := ⟨gcw (p := 394) rfl, by decide +kernel⟩
set_option maxRecDepth 100000 in
theorem gMw_23 : gMw (yX5_isLetter, prog_7_method_20_code, 2, (some FieldType.boolean), 1, 1, [398, 66, 397, 1]) := ⟨gcw (p := 398) rfl, by decide +kernel⟩
set_option maxRecDepth 100000 in
theorem gMw_24 : gMw (yX5_takeWord, prog_7_method_17_code, 2, none, 1, 0, [402, 66, 401, 2]) := ⟨gcw (p := 402) rfl, by decide +kernel⟩
set_option maxRecDepth 100000 in
theorem gMw_25 : gMw (yX5_wordOf, prog_7_method_23_code, 1, (some (FieldType.object "java/lang/String")), 0, 1, [405, 66, 404, 0]) := ⟨gcw (p := 405) rfl, by decide +kernel⟩
set_option maxRecDepth 100000 in
theorem gMw_26 : gMw (yX5_isSpelt, prog_7_method_18_code, 3, (some FieldType.boolean), 1, 1, [421, 66, 420, 3]) := ⟨gcw (p := 421) rfl, by decide +kernel⟩
set_option maxRecDepth 100000 in
theorem gMw_27 : gMw (yX5_isDigit, prog_7_method_21_code, 2, (some FieldType.boolean), 1, 1, [427, 66, 426, 4]) := ⟨gcw (p := 427) rfl, by decide +kernel⟩
set_option maxRecDepth 100000 in
theorem gMw_28 : gMw (yX5_takeNumber, prog_7_method_19_code, 1, none, 1, 0, [431, 66, 430, 5]) := ⟨gcw (p := 431) rfl, by decide +kernel⟩
set_option maxRecDepth 100000 in
theorem gMw_29 : gMw (yX5_isSign, prog_7_method_22_code, 1, (some FieldType.boolean), 0, 1, [434, 66, 433, 0]) := ⟨gcw (p := 434) rfl, by decide +kernel⟩
set_option maxRecDepth 100000 in
theorem gMw_30 : gMw (yX5_readEither, prog_7_method_7_code, 4, (some FieldType.boolean), 1, 1, [438, 66, 437, 6]) := ⟨gcw (p := 438) rfl, by decide +kernel⟩
set_option maxRecDepth 100000 in
theorem gMw_31 : gMw (yX5_readBoth, prog_7_method_8_code, 4, (some FieldType.boolean), 1, 1, [442, 66, 441, 7]) := ⟨gcw (p := 442) rfl, by decide +kernel⟩
set_option maxRecDepth 100000 in
theorem gMw_32 : gMw (yX5_readDenied, prog_7_method_9_code, 4, (some FieldType.boolean), 1, 1, [446, 66, 445, 8]) := ⟨gcw (p := 446) rfl, by decide +kernel⟩
set_option maxRecDepth 100000 in
theorem gMw_33 : gMw (yX5_readBehind, prog_7_method_10_code, 4, (some FieldType.boolean), 1, 2, [450, 66, 449, 9]) := ⟨gcw (p := 450) rfl, by decide +kernel⟩
set_option maxRecDepth 100000 in
theorem gMw_34 : gMw (yX5_readOne, prog_7_method_13_code, 2, (some FieldType.boolean), 1, 1, [454, 66, 453, 10]) := ⟨gcw (p := 454) rfl, by decide +kernel⟩
set_option maxRecDepth 100000 in
theorem gMw_35 : gMw (yX5_readInside, prog_7_method_14_code, 2, (some FieldType.boolean), 1, 1, [458, 66, 457, 11]) := ⟨gcw (p := 458) rfl, by decide +kernel⟩
set_option maxRecDepth 100000 in
theorem gMw_36 : gMw (yX5_step, prog_7_method_15_code, 2, none, 1, 1, [462, 66, 461, 12]) := ⟨gcw (p := 462) rfl, by decide +kernel⟩
set_option maxRecDepth 100000 in
theorem gMw_37 : gMw (yX5_readSum, prog_7_method_11_code, 5, (some FieldType.boolean), 1, 1, [466, 66, 465, 13]) := ⟨gcw (p := 466) rfl, by decide +kernel⟩
set_option maxRecDepth 100000 in
theorem gMw_38 : gMw (yX5_readTerm, prog_7_method_12_code, 4, (some FieldType.boolean), 1, 1, [470, 66, 469, 14]) := ⟨gcw (p := 470) rfl, by decide +kernel⟩
set_option maxRecDepth 100000 in
theorem gMw_39 : gMw (yX5_lastText, prog_7_method_5_code, 1, (some (FieldType.object "NobodyFirst$Text")), 1, 0, [474, 66, 472, 473]) := ⟨gcw (p := 474) rfl, by decide +kernel⟩
set_option maxRecDepth 100000 in
theorem gMw_40 : gMw (yJ7_copyOf_59c91, prog_21_method_123_code, 3, (some (FieldType.array FieldType.int)), 0, 2, [479, 77, 478, 0]) := ⟨gcw (p := 479) rfl, by decide +kernel⟩
set_option maxRecDepth 100000 in
theorem gMw_41 : gMw (yX7_init, prog_9_method_1_code, 4, none, 2, 3, [495, 76, 494, 0]) := ⟨gcw (p := 495) rfl, by decide +kernel⟩
set_option maxRecDepth 100000 in
theorem gMw_42 : gMw (yX3_add, prog_5_method_2_code, 2, (some FieldType.int), 1, 1, [511, 67, 509, 510]) := ⟨gcw (p := 511) rfl, by decide +kernel⟩
set_option maxRecDepth 100000 in
theorem gMw_43 : gMw (yX5_empty, prog_7_method_4_code, 1, none, 1, 0, [515, 66, 513, 514]) := ⟨gcw (p := 515) rfl, by decide +kernel⟩
set_option maxRecDepth 100000 in
theorem gMw_44 : gMw (yX9_tenth, prog_1_method_2_code, 4, (some FieldType.int), 1, 3, [547, 63, 545, 546]) := ⟨gcw (p := 547) rfl, by decide +kernel⟩
set_option maxRecDepth 100000 in
theorem gMw_45 : gMw (yX2_add, prog_4_method_2_code, 4, (some FieldType.int), 1, 3, [551, 64, 549, 550]) := ⟨gcw (p := 551) rfl, by decide +kernel⟩
set_option maxRecDepth 100000 in
theorem gMw_46 : gMw (yX9_rider, prog_1_method_3_code, 5, (some FieldType.int), 1, 4, [555, 63, 553, 554]) := ⟨gcw (p := 555) rfl, by decide +kernel⟩
set_option maxRecDepth 100000 in
theorem gMw_47 : gMw (yX6_add, prog_8_method_2_code, 5, (some FieldType.int), 1, 4, [559, 65, 557, 558]) := ⟨gcw (p := 559) rfl, by decide +kernel⟩
set_option maxRecDepth 100000 in
theorem gMw_48 : gMw (yX9_isPower, prog_1_method_32_code, 1, (some FieldType.boolean), 0, 1, [562, 63, 561, 0]) := ⟨gcw (p := 562) rfl, by decide +kernel⟩
set_option maxRecDepth 100000 in
theorem gMw_49 : gMw (yX9_isStore, prog_1_method_33_code, 1, (some FieldType.boolean), 0, 1, [565, 63, 564, 0]) := ⟨gcw (p := 565) rfl, by decide +kernel⟩
set_option maxRecDepth 100000 in
theorem gMw_50 : gMw (yX9_set, prog_1_method_4_code, 6, (some FieldType.int), 1, 3, [569, 63, 567, 568]) := ⟨gcw (p := 569) rfl, by decide +kernel⟩
set_option maxRecDepth 100000 in
theorem gMw_51 : gMw (yX6_has, prog_8_method_3_code, 2, (some FieldType.boolean), 1, 1, [573, 65, 571, 572]) := ⟨gcw (p := 573) rfl, by decide +kernel⟩
set_option maxRecDepth 100000 in
theorem gMw_52 : gMw (yX9_told, prog_1_method_5_code, 4, (some FieldType.int), 1, 3, [579, 63, 577, 578]) := ⟨gcw (p := 579) rfl, by decide +kernel⟩
set_option maxRecDepth 100000 in
theorem gMw_53 : gMw (yX6_works, prog_8_method_7_code, 5, (some FieldType.boolean), 1, 3, [583, 65, 581, 582]) := ⟨gcw (p := 583) rfl, by decide +kernel⟩
set_option maxRecDepth 100000 in
theorem gMw_54 : gMw (yX6_stays, prog_8_method_8_code, 3, (some FieldType.int), 1, 1, [587, 65, 585, 586]) := ⟨gcw (p := 587) rfl, by decide +kernel⟩
set_option maxRecDepth 100000 in
theorem gMw_55 : gMw (yX6_ends, prog_8_method_9_code, 3, (some FieldType.int), 1, 1, [591, 65, 589, 590]) := ⟨gcw (p := 591) rfl, by decide +kernel⟩
set_option maxRecDepth 100000 in
theorem gMw_56 : gMw (yX9_house, prog_1_method_6_code, 2, (some FieldType.int), 1, 1, [598, 63, 596, 597]) := ⟨gcw (p := 598) rfl, by decide +kernel⟩
set_option maxRecDepth 100000 in
theorem gMw_57 : gMw (yX6_ofHouse, prog_8_method_6_code, 4, (some FieldType.int), 1, 1, [602, 65, 600, 601]) := ⟨gcw (p := 602) rfl, by decide +kernel⟩
set_option maxRecDepth 100000 in
theorem gMw_58 : gMw (yX9_feed, prog_1_method_7_code, 5, (some FieldType.int), 1, 2, [606, 63, 604, 605]) := ⟨gcw (p := 606) rfl, by decide +kernel⟩
set_option maxRecDepth 100000 in
theorem gMw_59 : gMw (yX5_room, prog_7_method_2_code, 1, (some FieldType.int), 1, 0, [610, 66, 608, 609]) := ⟨gcw (p := 610) rfl, by decide +kernel⟩
set_option maxRecDepth 100000 in
theorem gMw_60 : gMw (yX9_text, prog_1_method_8_code, 3, (some FieldType.int), 1, 0, [614, 63, 612, 613]) := ⟨gcw (p := 614) rfl, by decide +kernel⟩
set_option maxRecDepth 100000 in
theorem gMw_61 : gMw (yX9_force, prog_1_method_9_code, 3, (some FieldType.int), 1, 1, [618, 63, 616, 617]) := ⟨gcw (p := 618) rfl, by decide +kernel⟩
set_option maxRecDepth 100000 in
theorem gMw_62 : gMw (yX9_says, prog_1_method_10_code, 5, (some FieldType.int), 1, 4, [622, 63, 620, 621]) := ⟨gcw (p := 622) rfl, by decide +kernel⟩
set_option maxRecDepth 100000 in
theorem gMw_63 : gMw (yX9_isSeat, prog_1_method_36_code, 4, (some FieldType.boolean), 1, 3, [626, 63, 625, 15]) := ⟨gcw (p := 626) rfl, by decide +kernel⟩
set_option maxRecDepth 100000 in
theorem gMw_64 : gMw (yX2_has, prog_4_method_3_code, 2, (some FieldType.boolean), 1, 1, [630, 64, 628, 629]) := ⟨gcw (p := 630) rfl, by decide +kernel⟩
set_option maxRecDepth 100000 in
theorem gMw_65 : gMw (yX3_comesTo, prog_5_method_3_code, 6, (some FieldType.int), 1, 5, [634, 67, 632, 633]) := ⟨gcw (p := 634) rfl, by decide +kernel⟩
set_option maxRecDepth 100000 in
theorem gMw_66 : gMw (yX2_sheltered, prog_4_method_8_code, 3, (some FieldType.int), 1, 2, [638, 64, 636, 637]) := ⟨gcw (p := 638) rfl, by decide +kernel⟩
set_option maxRecDepth 100000 in
theorem gMw_67 : gMw (yX2_left, prog_4_method_7_code, 2, (some FieldType.int), 1, 1, [642, 64, 640, 641]) := ⟨gcw (p := 642) rfl, by decide +kernel⟩
set_option maxRecDepth 100000 in
theorem gMw_68 : gMw (yX3_valueOf, prog_5_method_5_code, 7, (some FieldType.int), 1, 1, [646, 67, 645, 16]) := ⟨gcw (p := 646) rfl, by decide +kernel⟩
set_option maxRecDepth 100000 in
theorem gMw_69 : gMw (yX7_to, prog_9_method_3_code, 2, (some FieldType.int), 1, 1, [650, 76, 648, 649]) := ⟨gcw (p := 650) rfl, by decide +kernel⟩
set_option maxRecDepth 100000 in
theorem gMw_70 : gMw (yX7_from, prog_9_method_2_code, 2, (some FieldType.int), 1, 1, [654, 76, 652, 653]) := ⟨gcw (p := 654) rfl, by decide +kernel⟩
set_option maxRecDepth 100000 in
theorem gMw_71 : gMw (yX3_truth, prog_5_method_7_code, 1, (some FieldType.int), 0, 1, [658, 67, 657, 0]) := ⟨gcw (p := 658) rfl, by decide +kernel⟩
set_option maxRecDepth 100000 in
theorem gMw_72 : gMw (yX3_joined, prog_5_method_6_code, 3, (some FieldType.int), 0, 3, [661, 67, 660, 0]) := ⟨gcw (p := 661) rfl, by decide +kernel⟩
set_option maxRecDepth 100000 in
theorem gMw_73 : gMw (yX9_within, prog_1_method_35_code, 3, (some FieldType.int), 0, 3, [664, 63, 663, 0]) := ⟨gcw (p := 664) rfl, by decide +kernel⟩
set_option maxRecDepth 100000 in
theorem gMw_74 : gMw (yX9_ride, prog_1_method_11_code, 5, (some FieldType.int), 1, 3, [670, 63, 668, 669]) := ⟨gcw (p := 670) rfl, by decide +kernel⟩
set_option maxRecDepth 100000 in
theorem gMw_75 : gMw (yX9_isRide, prog_1_method_37_code, 3, (some FieldType.boolean), 1, 2, [674, 63, 673, 17]) := ⟨gcw (p := 674) rfl, by decide +kernel⟩
set_option maxRecDepth 100000 in
theorem gMw_76 : gMw (yX6_isGroup, prog_8_method_4_code, 2, (some FieldType.boolean), 1, 1, [678, 65, 676, 677]) := ⟨gcw (p := 678) rfl, by decide +kernel⟩
set_option maxRecDepth 100000 in
theorem gMw_77 : gMw (yX2_isSpan, prog_4_method_4_code, 2, (some FieldType.boolean), 1, 1, [682, 64, 680, 681]) := ⟨gcw (p := 682) rfl, by decide +kernel⟩
set_option maxRecDepth 100000 in
theorem gMw_78 : gMw (yX2_spanFrom, prog_4_method_5_code, 2, (some FieldType.int), 1, 1, [686, 64, 684, 685]) := ⟨gcw (p := 686) rfl, by decide +kernel⟩
set_option maxRecDepth 100000 in
theorem gMw_79 : gMw (yX2_spanTo, prog_4_method_6_code, 2, (some FieldType.int), 1, 1, [690, 64, 688, 689]) := ⟨gcw (p := 690) rfl, by decide +kernel⟩
set_option maxRecDepth 100000 in
theorem gMw_80 : gMw (yX1_rideAll, prog_3_method_4_code, 5, (some FieldType.int), 1, 2, [694, 68, 692, 693]) := ⟨gcw (p := 694) rfl, by decide +kernel⟩
set_option maxRecDepth 100000 in
theorem gMw_81 : gMw (yX1_begin, prog_3_method_2_code, 3, none, 1, 1, [698, 68, 696, 697]) := ⟨gcw (p := 698) rfl, by decide +kernel⟩
set_option maxRecDepth 100000 in
theorem gMw_82 : gMw (yX1_go, prog_3_method_3_code, 3, none, 1, 1, [704, 68, 702, 703]) := ⟨gcw (p := 704) rfl, by decide +kernel⟩
set_option maxRecDepth 100000 in
theorem gMw_83 : gMw (yX1_someWorks, prog_3_method_6_code, 3, (some FieldType.boolean), 1, 1, [709, 68, 708, 18]) := ⟨gcw (p := 709) rfl, by decide +kernel⟩
set_option maxRecDepth 100000 in
theorem gMw_84 : gMw (yX1_takeTurns, prog_3_method_7_code, 5, none, 1, 1, [714, 68, 713, 19]) := ⟨gcw (p := 714) rfl, by decide +kernel⟩
set_option maxRecDepth 100000 in
theorem gMw_85 : gMw (yX1_tire, prog_3_method_8_code, 7, none, 1, 1, [720, 68, 719, 20]) := ⟨gcw (p := 720) rfl, by decide +kernel⟩
set_option maxRecDepth 100000 in
theorem gMw_86 : gMw (yX1_fallBack, prog_3_method_9_code, 3, none, 1, 0, [725, 68, 724, 21]) := ⟨gcw (p := 725) rfl, by decide +kernel⟩
set_option maxRecDepth 100000 in
theorem gMw_87 : gMw (yX1_left, prog_3_method_5_code, 3, (some FieldType.int), 1, 0, [729, 68, 727, 728]) := ⟨gcw (p := 729) rfl, by decide +kernel⟩
set_option maxRecDepth 100000 in
theorem gMw_88 : gMw (yX9_spent, prog_1_method_12_code, 4, (some FieldType.long), 1, 3, [733, 63, 731, 732]) := ⟨gcw (p := 733) rfl, by decide +kernel⟩
set_option maxRecDepth 100000 in
theorem gMw_89 : gMw (yX9_ridden, prog_1_method_13_code, 4, (some FieldType.int), 1, 2, [738, 63, 736, 737]) := ⟨gcw (p := 738) rfl, by decide +kernel⟩
set_option maxRecDepth 100000 in
theorem gMw_90 : gMw (yX9_caught, prog_1_method_14_code, 9, (some FieldType.long), 1, 5, [742, 63, 740, 741]) := ⟨gcw (p := 742) rfl, by decide +kernel⟩
set_option maxRecDepth 100000 in
theorem gMw_91 : gMw (yX9_isChase, prog_1_method_38_code, 5, (some FieldType.boolean), 1, 4, [746, 63, 745, 22]) := ⟨gcw (p := 746) rfl, by decide +kernel⟩
set_option maxRecDepth 100000 in
theorem gMw_92 : gMw (yX9_beginChase, prog_1_method_39_code, 3, none, 1, 2, [750, 63, 749, 23]) := ⟨gcw (p := 750) rfl, by decide +kernel⟩
set_option maxRecDepth 100000 in
theorem gMw_93 : gMw (yX9_gained, prog_1_method_40_code, 2, (some FieldType.int), 1, 1, [757, 63, 756, 24]) := ⟨gcw (p := 757) rfl, by decide +kernel⟩
set_option maxRecDepth 100000 in
theorem gMw_94 : gMw (yX9_worth, prog_1_method_15_code, 4, (some FieldType.long), 1, 3, [762, 63, 760, 761]) := ⟨gcw (p := 762) rfl, by decide +kernel⟩
set_option maxRecDepth 100000 in
theorem gMw_95 : gMw (yX3_loss, prog_5_method_4_code, 5, (some FieldType.int), 1, 3, [766, 67, 764, 765]) := ⟨gcw (p := 766) rfl, by decide +kernel⟩
set_option maxRecDepth 100000 in
theorem gMw_96 : gMw (yX9_turns, prog_1_method_16_code, 8, (some FieldType.long), 1, 3, [771, 63, 769, 770]) := ⟨gcw (p := 771) rfl, by decide +kernel⟩
set_option maxRecDepth 100000 in
theorem gMw_97 : gMw (yX9_lossBehind, prog_1_method_41_code, 7, (some FieldType.int), 1, 3, [775, 63, 774, 25]) := ⟨gcw (p := 775) rfl, by decide +kernel⟩
set_option maxRecDepth 100000 in
theorem gMw_98 : gMw (yX9_game, prog_1_method_17_code, 6, (some FieldType.int), 1, 3, [779, 63, 777, 778]) := ⟨gcw (p := 779) rfl, by decide +kernel⟩
set_option maxRecDepth 100000 in
theorem gMw_99 : gMw (yJ6_bitCount_0f7a4, prog_14_method_49_code, 1, (some FieldType.int), 0, 1, [782, 81, 781, 0]) := ⟨gcw (p := 782) rfl, by decide +kernel⟩
set_option maxRecDepth 100000 in
theorem gMw_100 : gMw (yX9_isSheet, prog_1_method_34_code, 1, (some FieldType.boolean), 0, 1, [788, 63, 787, 0]) := ⟨gcw (p := 788) rfl, by decide +kernel⟩
set_option maxRecDepth 100000 in
theorem gMw_101 : gMw (yX4_isMissing, prog_6_method_2_code, 1, (some FieldType.boolean), 1, 0, [792, 71, 790, 791]) := ⟨gcw (p := 792) rfl, by decide +kernel⟩
set_option maxRecDepth 100000 in
theorem gMw_102 : gMw (yX9_restsOf, prog_1_method_43_code, 7, (some FieldType.int), 0, 2, [795, 63, 794, 0]) := ⟨gcw (p := 795) rfl, by decide +kernel⟩
set_option maxRecDepth 100000 in
theorem gMw_103 : gMw (yX9_goodOf, prog_1_method_44_code, 9, (some FieldType.int), 0, 2, [798, 63, 797, 0]) := ⟨gcw (p := 798) rfl, by decide +kernel⟩
set_option maxRecDepth 100000 in
theorem gMw_104 : gMw (yX9_goes, prog_1_method_18_code, 4, (some FieldType.int), 1, 2, [802, 63, 800, 801]) := ⟨gcw (p := 802) rfl, by decide +kernel⟩
set_option maxRecDepth 100000 in
theorem gMw_105 : gMw (yX9_getsAway, prog_1_method_42_code, 6, (some FieldType.boolean), 1, 3, [806, 63, 805, 26]) := ⟨gcw (p := 806) rfl, by decide +kernel⟩
set_option maxRecDepth 100000 in
theorem gMw_106 : gMw (yX9_train, prog_1_method_19_code, 4, (some FieldType.int), 1, 2, [810, 63, 808, 809]) := ⟨gcw (p := 810) rfl, by decide +kernel⟩
set_option maxRecDepth 100000 in
theorem gMw_107 : gMw (yX8_search, prog_10_method_2_code, 2, none, 1, 1, [814, 69, 812, 813]) := ⟨gcw (p := 814) rfl, by decide +kernel⟩
set_option maxRecDepth 100000 in
theorem gMw_108 : gMw (yX8_tryAll, prog_10_method_3_code, 7, none, 1, 3, [818, 69, 817, 27]) := ⟨gcw (p := 818) rfl, by decide +kernel⟩
set_option maxRecDepth 100000 in
theorem gMw_109 : gMw (yX9_split, prog_1_method_20_code, 3, (some FieldType.int), 1, 2, [823, 63, 821, 822]) := ⟨gcw (p := 823) rfl, by decide +kernel⟩
set_option maxRecDepth 100000 in
theorem gMw_110 : gMw (yX9_film, prog_1_method_21_code, 5, (some FieldType.int), 1, 3, [827, 63, 825, 826]) := ⟨gcw (p := 827) rfl, by decide +kernel⟩
set_option maxRecDepth 100000 in
theorem gMw_111 : gMw (yX9_wrong, prog_1_method_22_code, 5, (some FieldType.int), 1, 2, [831, 63, 829, 830]) := ⟨gcw (p := 831) rfl, by decide +kernel⟩
set_option maxRecDepth 100000 in
theorem gMw_112 : gMw (yX6_someFilmed, prog_8_method_10_code, 4, (some FieldType.boolean), 1, 2, [835, 65, 833, 834]) := ⟨gcw (p := 835) rfl, by decide +kernel⟩
set_option maxRecDepth 100000 in
theorem gMw_113 : gMw (yX9_clock, prog_1_method_23_code, 12, (some FieldType.long), 1, 5, [839, 63, 837, 838]) := ⟨gcw (p := 839) rfl, by decide +kernel⟩
set_option maxRecDepth 100000 in
theorem gMw_114 : gMw (yX9_image, prog_1_method_24_code, 1, (some FieldType.int), 1, 0, [844, 63, 842, 843]) := ⟨gcw (p := 844) rfl, by decide +kernel⟩
set_option maxRecDepth 100000 in
theorem gMw_115 : gMw (yX0_keep, prog_2_method_2_code, 3, none, 1, 2, [848, 70, 846, 847]) := ⟨gcw (p := 848) rfl, by decide +kernel⟩
set_option maxRecDepth 100000 in
theorem gMw_116 : gMw (yX9_back, prog_1_method_25_code, 1, (some FieldType.int), 1, 0, [853, 63, 851, 852]) := ⟨gcw (p := 853) rfl, by decide +kernel⟩
set_option maxRecDepth 100000 in
theorem gMw_117 : gMw (yX0_layBack, prog_2_method_3_code, 3, none, 1, 2, [857, 70, 855, 856]) := ⟨gcw (p := 857) rfl, by decide +kernel⟩
set_option maxRecDepth 100000 in
theorem gMw_118 : gMw (yX9_count, prog_1_method_26_code, 2, (some FieldType.int), 1, 1, [861, 63, 859, 860]) := ⟨gcw (p := 861) rfl, by decide +kernel⟩
set_option maxRecDepth 100000 in
theorem gMw_119 : gMw (yX6_allFilmed, prog_8_method_11_code, 3, (some FieldType.int), 1, 0, [865, 65, 863, 864]) := ⟨gcw (p := 865) rfl, by decide +kernel⟩
set_option maxRecDepth 100000 in
theorem gMw_120 : gMw (yJ13_bitCount_95d88, prog_15_method_50_code, 2, (some FieldType.int), 0, 1, [868, 82, 867, 0]) := ⟨gcw (p := 868) rfl, by decide +kernel⟩
set_option maxRecDepth 100000 in
theorem gMw_121 : gMw (yX6_allStores, prog_8_method_12_code, 3, (some FieldType.int), 1, 0, [875, 65, 873, 874]) := ⟨gcw (p := 875) rfl, by decide +kernel⟩
set_option maxRecDepth 100000 in
theorem gMw_122 : gMw (yX9_sheet, prog_1_method_27_code, 4, (some FieldType.int), 1, 3, [879, 63, 877, 878]) := ⟨gcw (p := 879) rfl, by decide +kernel⟩
set_option maxRecDepth 100000 in
theorem gMw_123 : gMw (yX4_become, prog_6_method_3_code, 3, none, 1, 2, [883, 71, 881, 882]) := ⟨gcw (p := 883) rfl, by decide +kernel⟩
set_option maxRecDepth 100000 in
theorem gMw_124 : gMw (yJ7_fill_53178, prog_21_method_103_code, 4, none, 0, 2, [886, 77, 885, 0]) := ⟨gcw (p := 886) rfl, by decide +kernel⟩
set_option maxRecDepth 100000 in
theorem gMw_125 : gMw (yX9_cell, prog_1_method_28_code, 5, (some FieldType.int), 1, 3, [890, 63, 888, 889]) := ⟨gcw (p := 890) rfl, by decide +kernel⟩
set_option maxRecDepth 100000 in
theorem gMw_126 : gMw (yX4_reaches, prog_6_method_4_code, 3, (some FieldType.boolean), 1, 2, [894, 71, 892, 893]) := ⟨gcw (p := 894) rfl, by decide +kernel⟩
set_option maxRecDepth 100000 in
theorem gMw_127 : gMw (yX4_put, prog_6_method_5_code, 3, none, 1, 2, [898, 71, 896, 897]) := ⟨gcw (p := 898) rfl, by decide +kernel⟩
set_option maxRecDepth 100000 in
theorem gMw_128 : gMw (yX9_copy, prog_1_method_29_code, 8, (some FieldType.int), 1, 5, [902, 63, 900, 901]) := ⟨gcw (p := 902) rfl, by decide +kernel⟩
set_option maxRecDepth 100000 in
theorem gMw_129 : gMw (yX9_tenths, prog_1_method_30_code, 9, (some FieldType.int), 1, 4, [907, 63, 905, 906]) := ⟨gcw (p := 907) rfl, by decide +kernel⟩
set_option maxRecDepth 100000 in
theorem gMw_130 : gMw (yX9_taken, prog_1_method_31_code, 3, (some FieldType.int), 1, 2, [911, 63, 909, 910]) := ⟨gcw (p := 911) rfl, by decide +kernel⟩
set_option maxRecDepth 100000 in
theorem gMw_131 : gMw (yX6_isUnder, prog_8_method_5_code, 5, (some FieldType.boolean), 1, 2, [915, 65, 913, 914]) := ⟨gcw (p := 915) rfl, by decide +kernel⟩
set_option maxRecDepth 100000 in
theorem gMw_132 : gMw (yX10_init, prog_12_method_3_code, 1, none, 2, 0, [922, 80, 921, 0]) := ⟨gcw (p := 922) rfl, by decide +kernel⟩
set_option maxRecDepth 100000 in
theorem gMw_133 : gMw (yX10_spell, prog_12_method_4_code, 5, none, 1, 2, [928, 80, 927, 28]) := ⟨gcw (p := 928) rfl, by decide +kernel⟩
set_option maxRecDepth 100000 in
theorem gMw_134 : gMw (yX10_tenth, prog_12_method_9_code, 4, (some FieldType.int), 1, 3, [1108, 80, 1106, 1107]) := ⟨gcw (p := 1108) rfl, by decide +kernel⟩
set_option maxRecDepth 100000 in
theorem gMw_135 : gMw (yX10_in, prog_12_method_2_code, 6, (some FieldType.boolean), 0, 3, [1113, 80, 1112, 0]) := ⟨gcw (p := 1113) rfl, by decide +kernel⟩
set_option maxRecDepth 100000 in
theorem gMw_136 : gMw (yX10_rider, prog_12_method_10_code, 5, (some FieldType.int), 1, 4, [1119, 80, 1117, 1118]) := ⟨gcw (p := 1119) rfl, by decide +kernel⟩
set_option maxRecDepth 100000 in
theorem gMw_137 : gMw (yX10_set, prog_12_method_11_code, 5, (some FieldType.int), 1, 3, [1127, 80, 1125, 1126]) := ⟨gcw (p := 1127) rfl, by decide +kernel⟩
set_option maxRecDepth 100000 in
theorem gMw_138 : gMw (yX10_isRider, prog_12_method_6_code, 2, (some FieldType.boolean), 1, 1, [1131, 80, 1130, 29]) := ⟨gcw (p := 1131) rfl, by decide +kernel⟩
set_option maxRecDepth 100000 in
theorem gMw_139 : gMw (yX10_told, prog_12_method_15_code, 4, (some FieldType.int), 1, 3, [1135, 80, 1133, 1134]) := ⟨gcw (p := 1135) rfl, by decide +kernel⟩
set_option maxRecDepth 100000 in
theorem gMw_140 : gMw (yX10_works, prog_12_method_12_code, 4, (some FieldType.boolean), 1, 3, [1140, 80, 1139, 30]) := ⟨gcw (p := 1140) rfl, by decide +kernel⟩
set_option maxRecDepth 100000 in
theorem gMw_141 : gMw (yX10_stays, prog_12_method_13_code, 2, (some FieldType.int), 1, 1, [1144, 80, 1143, 31]) := ⟨gcw (p := 1144) rfl, by decide +kernel⟩
set_option maxRecDepth 100000 in
theorem gMw_142 : gMw (yX10_endsOf, prog_12_method_14_code, 3, (some FieldType.int), 1, 1, [1148, 80, 1147, 32]) := ⟨gcw (p := 1148) rfl, by decide +kernel⟩
set_option maxRecDepth 100000 in
theorem gMw_143 : gMw (yX10_house, prog_12_method_16_code, 4, (some FieldType.int), 1, 1, [1152, 80, 1150, 1151]) := ⟨gcw (p := 1152) rfl, by decide +kernel⟩
set_option maxRecDepth 100000 in
theorem gMw_144 : gMw (yX10_feed, prog_12_method_17_code, 5, (some FieldType.int), 1, 2, [1157, 80, 1155, 1156]) := ⟨gcw (p := 1157) rfl, by decide +kernel⟩
set_option maxRecDepth 100000 in
theorem gMw_145 : gMw (yX10_text, prog_12_method_33_code, 2, (some FieldType.int), 1, 0, [1162, 80, 1160, 1161]) := ⟨gcw (p := 1162) rfl, by decide +kernel⟩
set_option maxRecDepth 100000 in
theorem gMw_146 : gMw (yX10_read, prog_12_method_32_code, 6, (some FieldType.int), 1, 2, [1166, 80, 1165, 33]) := ⟨gcw (p := 1166) rfl, by decide +kernel⟩
set_option maxRecDepth 100000 in
theorem gMw_147 : gMw (yX10_next, prog_12_method_19_code, 3, none, 1, 0, [1170, 80, 1169, 34]) := ⟨gcw (p := 1170) rfl, by decide +kernel⟩
set_option maxRecDepth 100000 in
theorem gMw_148 : gMw (yX10_byteAt, prog_12_method_18_code, 2, (some FieldType.int), 1, 1, [1174, 80, 1173, 35]) := ⟨gcw (p := 1174) rfl, by decide +kernel⟩
set_option maxRecDepth 100000 in
theorem gMw_149 : gMw (yX10_part, prog_12_method_31_code, 4, (some FieldType.int), 1, 1, [1187, 80, 1186, 36]) := ⟨gcw (p := 1187) rfl, by decide +kernel⟩
set_option maxRecDepth 100000 in
theorem gMw_150 : gMw (yX10_isWord, prog_12_method_21_code, 3, (some FieldType.boolean), 1, 1, [1191, 80, 1190, 37]) := ⟨gcw (p := 1191) rfl, by decide +kernel⟩
set_option maxRecDepth 100000 in
theorem gMw_151 : gMw (yX10_fail, prog_12_method_20_code, 1, none, 1, 0, [1195, 80, 1194, 38]) := ⟨gcw (p := 1195) rfl, by decide +kernel⟩
set_option maxRecDepth 100000 in
theorem gMw_152 : gMw (yX10_either, prog_12_method_30_code, 3, (some FieldType.int), 1, 0, [1199, 80, 1198, 39]) := ⟨gcw (p := 1199) rfl, by decide +kernel⟩
set_option maxRecDepth 100000 in
theorem gMw_153 : gMw (yX10_both, prog_12_method_29_code, 3, (some FieldType.int), 1, 0, [1203, 80, 1202, 40]) := ⟨gcw (p := 1203) rfl, by decide +kernel⟩
set_option maxRecDepth 100000 in
theorem gMw_154 : gMw (yX10_not, prog_12_method_28_code, 4, (some FieldType.int), 1, 0, [1207, 80, 1206, 41]) := ⟨gcw (p := 1207) rfl, by decide +kernel⟩
set_option maxRecDepth 100000 in
theorem gMw_155 : gMw (yX10_opens, prog_12_method_23_code, 1, (some FieldType.boolean), 1, 0, [1212, 80, 1211, 42]) := ⟨gcw (p := 1212) rfl, by decide +kernel⟩
set_option maxRecDepth 100000 in
theorem gMw_156 : gMw (yX10_added, prog_12_method_27_code, 4, (some FieldType.int), 1, 0, [1216, 80, 1215, 43]) := ⟨gcw (p := 1216) rfl, by decide +kernel⟩
set_option maxRecDepth 100000 in
theorem gMw_157 : gMw (yX10_term, prog_12_method_26_code, 2, (some FieldType.int), 1, 0, [1220, 80, 1219, 44]) := ⟨gcw (p := 1220) rfl, by decide +kernel⟩
set_option maxRecDepth 100000 in
theorem gMw_158 : gMw (yX10_one, prog_12_method_25_code, 2, (some FieldType.int), 1, 0, [1224, 80, 1223, 45]) := ⟨gcw (p := 1224) rfl, by decide +kernel⟩
set_option maxRecDepth 100000 in
theorem gMw_159 : gMw (yX10_isSign, prog_12_method_22_code, 2, (some FieldType.boolean), 1, 1, [1228, 80, 1227, 46]) := ⟨gcw (p := 1228) rfl, by decide +kernel⟩
set_option maxRecDepth 100000 in
theorem gMw_160 : gMw (yX10_name, prog_12_method_24_code, 1, (some FieldType.int), 1, 0, [1232, 80, 1231, 47]) := ⟨gcw (p := 1232) rfl, by decide +kernel⟩
set_option maxRecDepth 100000 in
theorem gMw_161 : gMw (yX10_force, prog_12_method_34_code, 3, (some FieldType.int), 1, 1, [1248, 80, 1246, 1247]) := ⟨gcw (p := 1248) rfl, by decide +kernel⟩
set_option maxRecDepth 100000 in
theorem gMw_162 : gMw (yX10_says, prog_12_method_37_code, 5, (some FieldType.int), 1, 4, [1252, 80, 1250, 1251]) := ⟨gcw (p := 1252) rfl, by decide +kernel⟩
set_option maxRecDepth 100000 in
theorem gMw_163 : gMw (yX10_isTenth, prog_12_method_5_code, 2, (some FieldType.boolean), 1, 1, [1256, 80, 1255, 48]) := ⟨gcw (p := 1256) rfl, by decide +kernel⟩
set_option maxRecDepth 100000 in
theorem gMw_164 : gMw (yX10_saysOf, prog_12_method_36_code, 6, (some FieldType.int), 1, 5, [1261, 80, 1260, 49]) := ⟨gcw (p := 1261) rfl, by decide +kernel⟩
set_option maxRecDepth 100000 in
theorem gMw_165 : gMw (yX10_within, prog_12_method_35_code, 3, (some FieldType.int), 0, 3, [1264, 80, 1263, 0]) := ⟨gcw (p := 1264) rfl, by decide +kernel⟩
set_option maxRecDepth 100000 in
theorem gMw_166 : gMw (yX10_ride, prog_12_method_43_code, 4, (some FieldType.int), 1, 3, [1268, 80, 1266, 1267]) := ⟨gcw (p := 1268) rfl, by decide +kernel⟩
set_option maxRecDepth 100000 in
theorem gMw_167 : gMw (yX10_isGroup, prog_12_method_7_code, 2, (some FieldType.boolean), 1, 1, [1272, 80, 1271, 50]) := ⟨gcw (p := 1272) rfl, by decide +kernel⟩
set_option maxRecDepth 100000 in
theorem gMw_168 : gMw (yX10_areTenths, prog_12_method_8_code, 2, (some FieldType.boolean), 1, 1, [1276, 80, 1275, 51]) := ⟨gcw (p := 1276) rfl, by decide +kernel⟩
set_option maxRecDepth 100000 in
theorem gMw_169 : gMw (yX10_goes1, prog_12_method_41_code, 4, none, 1, 2, [1280, 80, 1279, 52]) := ⟨gcw (p := 1280) rfl, by decide +kernel⟩
set_option maxRecDepth 100000 in
theorem gMw_170 : gMw (yX10_begins, prog_12_method_38_code, 4, none, 1, 2, [1284, 80, 1283, 53]) := ⟨gcw (p := 1284) rfl, by decide +kernel⟩
set_option maxRecDepth 100000 in
theorem gMw_171 : gMw (yX10_rides, prog_12_method_40_code, 14, (some FieldType.int), 1, 2, [1288, 80, 1287, 54]) := ⟨gcw (p := 1288) rfl, by decide +kernel⟩
set_option maxRecDepth 100000 in
theorem gMw_172 : gMw (yX10_turnsOn, prog_12_method_39_code, 5, none, 1, 1, [1292, 80, 1291, 55]) := ⟨gcw (p := 1292) rfl, by decide +kernel⟩
set_option maxRecDepth 100000 in
theorem gMw_173 : gMw (yX10_leftIn, prog_12_method_42_code, 3, (some FieldType.int), 1, 0, [1296, 80, 1295, 56]) := ⟨gcw (p := 1296) rfl, by decide +kernel⟩
set_option maxRecDepth 100000 in
theorem gMw_174 : gMw (yX10_spent, prog_12_method_44_code, 4, (some FieldType.long), 1, 3, [1300, 80, 1298, 1299]) := ⟨gcw (p := 1300) rfl, by decide +kernel⟩
set_option maxRecDepth 100000 in
theorem gMw_175 : gMw (yX10_ridden, prog_12_method_45_code, 4, (some FieldType.int), 1, 2, [1305, 80, 1303, 1304]) := ⟨gcw (p := 1305) rfl, by decide +kernel⟩
set_option maxRecDepth 100000 in
theorem gMw_176 : gMw (yX10_caught, prog_12_method_48_code, 6, (some FieldType.long), 1, 5, [1309, 80, 1307, 1308]) := ⟨gcw (p := 1309) rfl, by decide +kernel⟩
set_option maxRecDepth 100000 in
theorem gMw_177 : gMw (yX10_areGroups, prog_12_method_47_code, 3, (some FieldType.boolean), 1, 2, [1313, 80, 1312, 57]) := ⟨gcw (p := 1313) rfl, by decide +kernel⟩
set_option maxRecDepth 100000 in
theorem gMw_178 : gMw (yX10_chases, prog_12_method_46_code, 7, none, 1, 5, [1318, 80, 1317, 58]) := ⟨gcw (p := 1318) rfl, by decide +kernel⟩
set_option maxRecDepth 100000 in
theorem gMw_179 : gMw (yX10_clock, prog_12_method_49_code, 6, (some FieldType.long), 1, 5, [1322, 80, 1320, 1321]) := ⟨gcw (p := 1322) rfl, by decide +kernel⟩
set_option maxRecDepth 100000 in
theorem gMw_180 : gMw (yX10_worth, prog_12_method_51_code, 4, (some FieldType.long), 1, 3, [1328, 80, 1326, 1327]) := ⟨gcw (p := 1328) rfl, by decide +kernel⟩
set_option maxRecDepth 100000 in
theorem gMw_181 : gMw (yX10_lossOf, prog_12_method_50_code, 4, (some FieldType.int), 1, 3, [1332, 80, 1331, 59]) := ⟨gcw (p := 1332) rfl, by decide +kernel⟩
set_option maxRecDepth 100000 in
theorem gMw_182 : gMw (yX10_turns, prog_12_method_53_code, 6, (some FieldType.long), 1, 3, [1336, 80, 1334, 1335]) := ⟨gcw (p := 1336) rfl, by decide +kernel⟩
set_option maxRecDepth 100000 in
theorem gMw_183 : gMw (yX10_lossBy, prog_12_method_52_code, 7, (some FieldType.int), 1, 3, [1340, 80, 1339, 60]) := ⟨gcw (p := 1340) rfl, by decide +kernel⟩
set_option maxRecDepth 100000 in
theorem gMw_184 : gMw (yX10_game, prog_12_method_55_code, 15, (some FieldType.int), 1, 3, [1344, 80, 1342, 1343]) := ⟨gcw (p := 1344) rfl, by decide +kernel⟩
set_option maxRecDepth 100000 in
theorem gMw_185 : gMw (yX10_bitsOf, prog_12_method_54_code, 3, (some FieldType.int), 0, 1, [1347, 80, 1346, 0]) := ⟨gcw (p := 1347) rfl, by decide +kernel⟩
set_option maxRecDepth 100000 in
theorem gMw_186 : gMw (yX10_isSheet, prog_12_method_65_code, 1, (some FieldType.boolean), 0, 1, [1350, 80, 1349, 0]) := ⟨gcw (p := 1350) rfl, by decide +kernel⟩
set_option maxRecDepth 100000 in
theorem gMw_187 : gMw (yX10_goes, prog_12_method_56_code, 4, (some FieldType.int), 1, 2, [1354, 80, 1352, 1353]) := ⟨gcw (p := 1354) rfl, by decide +kernel⟩
set_option maxRecDepth 100000 in
theorem gMw_188 : gMw (yX10_train, prog_12_method_58_code, 3, (some FieldType.int), 1, 2, [1358, 80, 1356, 1357]) := ⟨gcw (p := 1358) rfl, by decide +kernel⟩
set_option maxRecDepth 100000 in
theorem gMw_189 : gMw (yX10_couples, prog_12_method_57_code, 5, none, 1, 3, [1363, 80, 1362, 61]) := ⟨gcw (p := 1363) rfl, by decide +kernel⟩
set_option maxRecDepth 100000 in
theorem gMw_190 : gMw (yX10_split, prog_12_method_59_code, 4, (some FieldType.int), 1, 2, [1367, 80, 1365, 1366]) := ⟨gcw (p := 1367) rfl, by decide +kernel⟩
set_option maxRecDepth 100000 in
theorem gMw_191 : gMw (yX10_film, prog_12_method_60_code, 5, (some FieldType.int), 1, 3, [1371, 80, 1369, 1370]) := ⟨gcw (p := 1371) rfl, by decide +kernel⟩
set_option maxRecDepth 100000 in
theorem gMw_192 : gMw (yX10_wrong, prog_12_method_61_code, 6, (some FieldType.int), 1, 2, [1375, 80, 1373, 1374]) := ⟨gcw (p := 1375) rfl, by decide +kernel⟩
set_option maxRecDepth 100000 in
theorem gMw_193 : gMw (yX10_image, prog_12_method_62_code, 2, (some FieldType.int), 1, 0, [1379, 80, 1377, 1378]) := ⟨gcw (p := 1379) rfl, by decide +kernel⟩
set_option maxRecDepth 100000 in
theorem gMw_194 : gMw (yX10_back, prog_12_method_63_code, 3, (some FieldType.int), 1, 0, [1383, 80, 1381, 1382]) := ⟨gcw (p := 1383) rfl, by decide +kernel⟩
set_option maxRecDepth 100000 in
theorem gMw_195 : gMw (yX10_count, prog_12_method_64_code, 4, (some FieldType.int), 1, 1, [1387, 80, 1385, 1386]) := ⟨gcw (p := 1387) rfl, by decide +kernel⟩
set_option maxRecDepth 100000 in
theorem gMw_196 : gMw (yX10_sheet, prog_12_method_66_code, 5, (some FieldType.int), 1, 3, [1391, 80, 1389, 1390]) := ⟨gcw (p := 1391) rfl, by decide +kernel⟩
set_option maxRecDepth 100000 in
theorem gMw_197 : gMw (yX10_cell, prog_12_method_67_code, 4, (some FieldType.int), 1, 3, [1395, 80, 1393, 1394]) := ⟨gcw (p := 1395) rfl, by decide +kernel⟩
set_option maxRecDepth 100000 in
theorem gMw_198 : gMw (yX10_copy, prog_12_method_68_code, 9, (some FieldType.int), 1, 5, [1399, 80, 1397, 1398]) := ⟨gcw (p := 1399) rfl, by decide +kernel⟩
set_option maxRecDepth 100000 in
theorem gMw_199 : gMw (yX10_tenths, prog_12_method_69_code, 8, (some FieldType.int), 1, 4, [1403, 80, 1401, 1402]) := ⟨gcw (p := 1403) rfl, by decide +kernel⟩
set_option maxRecDepth 100000 in
theorem gMw_200 : gMw (yX10_taken, prog_12_method_71_code, 4, (some FieldType.int), 1, 2, [1409, 80, 1407, 1408]) := ⟨gcw (p := 1409) rfl, by decide +kernel⟩
set_option maxRecDepth 100000 in
theorem gMw_201 : gMw (yX10_over, prog_12_method_70_code, 1, (some FieldType.int), 0, 1, [1412, 80, 1411, 0]) := ⟨gcw (p := 1412) rfl, by decide +kernel⟩
theorem gMt0_ok : ∀ q ∈ gMt0, gMw q := List.forall_mem_cons.mpr ⟨gMw_0, List.forall_mem_cons.mpr ⟨gMw_1, List.forall_mem_cons.mpr ⟨gMw_2, List.forall_mem_cons.mpr ⟨gMw_3, List.forall_mem_cons.mpr ⟨gMw_4, List.forall_mem_cons.mpr ⟨gMw_5, List.forall_mem_cons.mpr ⟨gMw_6, List.forall_mem_cons.mpr ⟨gMw_7, List.forall_mem_cons.mpr ⟨gMw_8, List.forall_mem_cons.mpr ⟨gMw_9, List.forall_mem_cons.mpr ⟨gMw_10, List.forall_mem_cons.mpr ⟨gMw_11, List.forall_mem_cons.mpr ⟨gMw_12, List.forall_mem_cons.mpr ⟨gMw_13, List.forall_mem_cons.mpr ⟨gMw_14, List.forall_mem_cons.mpr ⟨gMw_15, List.forall_mem_cons.mpr ⟨gMw_16, List.forall_mem_cons.mpr ⟨gMw_17, List.forall_mem_cons.mpr ⟨gMw_18, List.forall_mem_cons.mpr ⟨gMw_19, List.forall_mem_cons.mpr ⟨gMw_20, List.forall_mem_cons.mpr ⟨gMw_21, List.forall_mem_cons.mpr ⟨gMw_22, List.forall_mem_cons.mpr ⟨gMw_23, List.forall_mem_cons.mpr ⟨gMw_24, List.forall_mem_cons.mpr ⟨gMw_25, List.forall_mem_cons.mpr ⟨gMw_26, List.forall_mem_cons.mpr ⟨gMw_27, List.forall_mem_cons.mpr ⟨gMw_28, List.forall_mem_cons.mpr ⟨gMw_29, List.forall_mem_cons.mpr ⟨gMw_30, List.forall_mem_cons.mpr ⟨gMw_31, List.forall_mem_cons.mpr ⟨gMw_32, List.forall_mem_cons.mpr ⟨gMw_33, List.forall_mem_cons.mpr ⟨gMw_34, List.forall_mem_cons.mpr ⟨gMw_35, List.forall_mem_cons.mpr ⟨gMw_36, List.forall_mem_cons.mpr ⟨gMw_37, List.forall_mem_cons.mpr ⟨gMw_38, List.forall_mem_cons.mpr ⟨gMw_39, fun _ h => absurd h List.not_mem_nil⟩⟩⟩⟩⟩⟩⟩⟩⟩⟩⟩⟩⟩⟩⟩⟩⟩⟩⟩⟩⟩⟩⟩⟩⟩⟩⟩⟩⟩⟩⟩⟩⟩⟩⟩⟩⟩⟩⟩⟩
theorem gMt1_ok : ∀ q ∈ gMt1, gMw q := List.forall_mem_cons.mpr ⟨gMw_40, List.forall_mem_cons.mpr ⟨gMw_41, List.forall_mem_cons.mpr ⟨gMw_42, List.forall_mem_cons.mpr ⟨gMw_43, List.forall_mem_cons.mpr ⟨gMw_44, List.forall_mem_cons.mpr ⟨gMw_45, List.forall_mem_cons.mpr ⟨gMw_46, List.forall_mem_cons.mpr ⟨gMw_47, List.forall_mem_cons.mpr ⟨gMw_48, List.forall_mem_cons.mpr ⟨gMw_49, List.forall_mem_cons.mpr ⟨gMw_50, List.forall_mem_cons.mpr ⟨gMw_51, List.forall_mem_cons.mpr ⟨gMw_52, List.forall_mem_cons.mpr ⟨gMw_53, List.forall_mem_cons.mpr ⟨gMw_54, List.forall_mem_cons.mpr ⟨gMw_55, List.forall_mem_cons.mpr ⟨gMw_56, List.forall_mem_cons.mpr ⟨gMw_57, List.forall_mem_cons.mpr ⟨gMw_58, List.forall_mem_cons.mpr ⟨gMw_59, List.forall_mem_cons.mpr ⟨gMw_60, List.forall_mem_cons.mpr ⟨gMw_61, List.forall_mem_cons.mpr ⟨gMw_62, List.forall_mem_cons.mpr ⟨gMw_63, List.forall_mem_cons.mpr ⟨gMw_64, List.forall_mem_cons.mpr ⟨gMw_65, List.forall_mem_cons.mpr ⟨gMw_66, List.forall_mem_cons.mpr ⟨gMw_67, List.forall_mem_cons.mpr ⟨gMw_68, List.forall_mem_cons.mpr ⟨gMw_69, List.forall_mem_cons.mpr ⟨gMw_70, List.forall_mem_cons.mpr ⟨gMw_71, List.forall_mem_cons.mpr ⟨gMw_72, List.forall_mem_cons.mpr ⟨gMw_73, List.forall_mem_cons.mpr ⟨gMw_74, List.forall_mem_cons.mpr ⟨gMw_75, List.forall_mem_cons.mpr ⟨gMw_76, List.forall_mem_cons.mpr ⟨gMw_77, List.forall_mem_cons.mpr ⟨gMw_78, List.forall_mem_cons.mpr ⟨gMw_79, fun _ h => absurd h List.not_mem_nil⟩⟩⟩⟩⟩⟩⟩⟩⟩⟩⟩⟩⟩⟩⟩⟩⟩⟩⟩⟩⟩⟩⟩⟩⟩⟩⟩⟩⟩⟩⟩⟩⟩⟩⟩⟩⟩⟩⟩⟩
theorem gMt2_ok : ∀ q ∈ gMt2, gMw q := List.forall_mem_cons.mpr ⟨gMw_80, List.forall_mem_cons.mpr ⟨gMw_81, List.forall_mem_cons.mpr ⟨gMw_82, List.forall_mem_cons.mpr ⟨gMw_83, List.forall_mem_cons.mpr ⟨gMw_84, List.forall_mem_cons.mpr ⟨gMw_85, List.forall_mem_cons.mpr ⟨gMw_86, List.forall_mem_cons.mpr ⟨gMw_87, List.forall_mem_cons.mpr ⟨gMw_88, List.forall_mem_cons.mpr ⟨gMw_89, List.forall_mem_cons.mpr ⟨gMw_90, List.forall_mem_cons.mpr ⟨gMw_91, List.forall_mem_cons.mpr ⟨gMw_92, List.forall_mem_cons.mpr ⟨gMw_93, List.forall_mem_cons.mpr ⟨gMw_94, List.forall_mem_cons.mpr ⟨gMw_95, List.forall_mem_cons.mpr ⟨gMw_96, List.forall_mem_cons.mpr ⟨gMw_97, List.forall_mem_cons.mpr ⟨gMw_98, List.forall_mem_cons.mpr ⟨gMw_99, List.forall_mem_cons.mpr ⟨gMw_100, List.forall_mem_cons.mpr ⟨gMw_101, List.forall_mem_cons.mpr ⟨gMw_102, List.forall_mem_cons.mpr ⟨gMw_103, List.forall_mem_cons.mpr ⟨gMw_104, List.forall_mem_cons.mpr ⟨gMw_105, List.forall_mem_cons.mpr ⟨gMw_106, List.forall_mem_cons.mpr ⟨gMw_107, List.forall_mem_cons.mpr ⟨gMw_108, List.forall_mem_cons.mpr ⟨gMw_109, List.forall_mem_cons.mpr ⟨gMw_110, List.forall_mem_cons.mpr ⟨gMw_111, List.forall_mem_cons.mpr ⟨gMw_112, List.forall_mem_cons.mpr ⟨gMw_113, List.forall_mem_cons.mpr ⟨gMw_114, List.forall_mem_cons.mpr ⟨gMw_115, List.forall_mem_cons.mpr ⟨gMw_116, List.forall_mem_cons.mpr ⟨gMw_117, List.forall_mem_cons.mpr ⟨gMw_118, List.forall_mem_cons.mpr ⟨gMw_119, fun _ h => absurd h List.not_mem_nil⟩⟩⟩⟩⟩⟩⟩⟩⟩⟩⟩⟩⟩⟩⟩⟩⟩⟩⟩⟩⟩⟩⟩⟩⟩⟩⟩⟩⟩⟩⟩⟩⟩⟩⟩⟩⟩⟩⟩⟩
theorem gMt3_ok : ∀ q ∈ gMt3, gMw q := List.forall_mem_cons.mpr ⟨gMw_120, List.forall_mem_cons.mpr ⟨gMw_121, List.forall_mem_cons.mpr ⟨gMw_122, List.forall_mem_cons.mpr ⟨gMw_123, List.forall_mem_cons.mpr ⟨gMw_124, List.forall_mem_cons.mpr ⟨gMw_125, List.forall_mem_cons.mpr ⟨gMw_126, List.forall_mem_cons.mpr ⟨gMw_127, List.forall_mem_cons.mpr ⟨gMw_128, List.forall_mem_cons.mpr ⟨gMw_129, List.forall_mem_cons.mpr ⟨gMw_130, List.forall_mem_cons.mpr ⟨gMw_131, List.forall_mem_cons.mpr ⟨gMw_132, List.forall_mem_cons.mpr ⟨gMw_133, List.forall_mem_cons.mpr ⟨gMw_134, List.forall_mem_cons.mpr ⟨gMw_135, List.forall_mem_cons.mpr ⟨gMw_136, List.forall_mem_cons.mpr ⟨gMw_137, List.forall_mem_cons.mpr ⟨gMw_138, List.forall_mem_cons.mpr ⟨gMw_139, List.forall_mem_cons.mpr ⟨gMw_140, List.forall_mem_cons.mpr ⟨gMw_141, List.forall_mem_cons.mpr ⟨gMw_142, List.forall_mem_cons.mpr ⟨gMw_143, List.forall_mem_cons.mpr ⟨gMw_144, List.forall_mem_cons.mpr ⟨gMw_145, List.forall_mem_cons.mpr ⟨gMw_146, List.forall_mem_cons.mpr ⟨gMw_147, List.forall_mem_cons.mpr ⟨gMw_148, List.forall_mem_cons.mpr ⟨gMw_149, List.forall_mem_cons.mpr ⟨gMw_150, List.forall_mem_cons.mpr ⟨gMw_151, List.forall_mem_cons.mpr ⟨gMw_152, List.forall_mem_cons.mpr ⟨gMw_153, List.forall_mem_cons.mpr ⟨gMw_154, List.forall_mem_cons.mpr ⟨gMw_155, List.forall_mem_cons.mpr ⟨gMw_156, List.forall_mem_cons.mpr ⟨gMw_157, List.forall_mem_cons.mpr ⟨gMw_158, List.forall_mem_cons.mpr ⟨gMw_159, fun _ h => absurd h List.not_mem_nil⟩⟩⟩⟩⟩⟩⟩⟩⟩⟩⟩⟩⟩⟩⟩⟩⟩⟩⟩⟩⟩⟩⟩⟩⟩⟩⟩⟩⟩⟩⟩⟩⟩⟩⟩⟩⟩⟩⟩⟩
theorem gMt4_ok : ∀ q ∈ gMt4, gMw q := List.forall_mem_cons.mpr ⟨gMw_160, List.forall_mem_cons.mpr ⟨gMw_161, List.forall_mem_cons.mpr ⟨gMw_162, List.forall_mem_cons.mpr ⟨gMw_163, List.forall_mem_cons.mpr ⟨gMw_164, List.forall_mem_cons.mpr ⟨gMw_165, List.forall_mem_cons.mpr ⟨gMw_166, List.forall_mem_cons.mpr ⟨gMw_167, List.forall_mem_cons.mpr ⟨gMw_168, List.forall_mem_cons.mpr ⟨gMw_169, List.forall_mem_cons.mpr ⟨gMw_170, List.forall_mem_cons.mpr ⟨gMw_171, List.forall_mem_cons.mpr ⟨gMw_172, List.forall_mem_cons.mpr ⟨gMw_173, List.forall_mem_cons.mpr ⟨gMw_174, List.forall_mem_cons.mpr ⟨gMw_175, List.forall_mem_cons.mpr ⟨gMw_176, List.forall_mem_cons.mpr ⟨gMw_177, List.forall_mem_cons.mpr ⟨gMw_178, List.forall_mem_cons.mpr ⟨gMw_179, List.forall_mem_cons.mpr ⟨gMw_180, List.forall_mem_cons.mpr ⟨gMw_181, List.forall_mem_cons.mpr ⟨gMw_182, List.forall_mem_cons.mpr ⟨gMw_183, List.forall_mem_cons.mpr ⟨gMw_184, List.forall_mem_cons.mpr ⟨gMw_185, List.forall_mem_cons.mpr ⟨gMw_186, List.forall_mem_cons.mpr ⟨gMw_187, List.forall_mem_cons.mpr ⟨gMw_188, List.forall_mem_cons.mpr ⟨gMw_189, List.forall_mem_cons.mpr ⟨gMw_190, List.forall_mem_cons.mpr ⟨gMw_191, List.forall_mem_cons.mpr ⟨gMw_192, List.forall_mem_cons.mpr ⟨gMw_193, List.forall_mem_cons.mpr ⟨gMw_194, List.forall_mem_cons.mpr ⟨gMw_195, List.forall_mem_cons.mpr ⟨gMw_196, List.forall_mem_cons.mpr ⟨gMw_197, List.forall_mem_cons.mpr ⟨gMw_198, List.forall_mem_cons.mpr ⟨gMw_199, fun _ h => absurd h List.not_mem_nil⟩⟩⟩⟩⟩⟩⟩⟩⟩⟩⟩⟩⟩⟩⟩⟩⟩⟩⟩⟩⟩⟩⟩⟩⟩⟩⟩⟩⟩⟩⟩⟩⟩⟩⟩⟩⟩⟩⟩⟩
theorem gMt5_ok : ∀ q ∈ gMt5, gMw q := List.forall_mem_cons.mpr ⟨gMw_200, List.forall_mem_cons.mpr ⟨gMw_201, fun _ h => absurd h List.not_mem_nil⟩⟩
theorem gMt_ok : ∀ q ∈ gMt, gMw q := by
  intro q h
  simp only [gMt, List.mem_append] at h
  rcases h with ((((h | h) | h) | h) | h) | h
  · exact gMt0_ok q h
  · exact gMt1_ok q h
  · exact gMt2_ok q h
  · exact gMt3_ok q h
  · exact gMt4_ok q h
  · exact gMt5_ok q h
def gNest : List Cond := [.methodLinkNest RX9 9 yX2_init RX9, .methodLinkNest RX9 18 yX6_init RX9, .methodLinkNest RX9 25 yX5_init RX9, .methodLinkNest RX9 62 yX0_init RX9, .methodLinkNest RX9 73 yX4_init RX9, .methodLinkNest RX6 31 yX9_isPower RX9, .methodLinkNest RX6 35 yX9_isStore RX9, .methodLinkNest RX3 60 yX9_within RX9, .methodLinkNest RX1 94 yX9_within RX9]
/-- the Strings that are told by constants: class, entry, text, the place of its word -/
def gStr : List (String × Nat × String × Nat) := [(RX9, 74, "spend 12 + wind - place * 4 + slope ; fill place ; pace power - slope - wind ;", 334), (RX5, 118, "spend", 406), (RX5, 120, "fill", 407), (RX5, 122, "pace", 408), (RX5, 124, "or", 409), (RX5, 126, "and", 410), (RX5, 128, "not", 411), (RX5, 130, "power", 412), (RX5, 132, "place", 413), (RX5, 134, "slope", 414), (RX5, 136, "wind", 415), (RX5, 138, "store", 416), (RX5, 140, "left", 417)]
def gStrL : List Nat := [78, 5, 4, 4, 2, 3, 3, 5, 5, 5, 4, 5, 4]
def gStrB : List (List Int32) := [[115, 112, 101, 110, 100, 32, 49, 50, 32, 43, 32, 119, 105, 110, 100, 32, 45, 32, 112, 108, 97, 99, 101, 32, 42, 32, 52, 32, 43, 32, 115, 108, 111, 112, 101, 32, 59, 32, 102, 105, 108, 108, 32, 112, 108, 97, 99, 101, 32, 59, 32, 112, 97, 99, 101, 32, 112, 111, 119, 101, 114, 32, 45, 32, 115, 108, 111, 112, 101, 32, 45, 32, 119, 105, 110, 100, 32, 59], [115, 112, 101, 110, 100], [102, 105, 108, 108], [112, 97, 99, 101], [111, 114], [97, 110, 100], [110, 111, 116], [112, 111, 119, 101, 114], [112, 108, 97, 99, 101], [115, 108, 111, 112, 101], [119, 105, 110, 100], [115, 116, 111, 114, 101], [108, 101, 102, 116]]
end
section
-- the environment: the launch, the classes' numbers and slots, the arrays' classes, where the fixed cells lie (from 1000 on: Strings; 1100: their bytes; 1200: Team.UNDER)
abbrev gEnv : Type := Launch × va_G × (Nat → ClassId) × (Nat → Nat)
def gtc (tc : Nat) : FieldType := match tc with
  | 0 => .int
  | 1 => .byte
  | 2 => .long
  | 3 => .boolean
  | 4 => .object RX4
  | _ => .object RX7
def gty (cy : Nat → ClassId) : List (ClassId × FieldType) := (List.range 6).map (fun t => (cy t, gtc t))
def gUNDER (j : Nat) : Int32 := match j with
  | 0 => -1
  | 3 => 2
  | 5 => 1
  | _ => 0
/-- what the methods need of the start beside the tables' words: nest mates' links, Strings and statics, which lie outside A -/
def gX (E : gEnv) (A : Nat → Prop) (U : State) : Prop :=
  (∀ w ∈ gNest, va_Nw w U) ∧ (va_AO RX4 U ∧ va_AO RX7 U) ∧
  (vk_S 13 gStrL gStrB (fun i => E.2.2.2 (1000 + i)) (fun i => E.2.2.2 (1100 + i)) A U U.heap ∧ ∀ (i : Nat) (q : String × Nat × String × Nat), gStr[i]? = some q → vk_R q.1 q.2.1 q.2.2.1 (E.2.2.2 (1000 + i)) U) ∧
  (va_Z "java/lang/String" "COMPACT_STRINGS" "Z" (.int 1) A U U.heap ∧ (va_Z "jdk/internal/util/Preconditions" "SIOOBE_FORMATTER" "Ljava/util/function/BiFunction;" .null A U U.heap ∨ va_Z "jdk/internal/util/Preconditions" "SIOOBE_FORMATTER" "Ljava/util/function/BiFunction;" (.ref (E.2.2.2 1300)) A U U.heap)) ∧
  va_Z RX6 "UNDER" "[I" (.ref (E.2.2.2 1200)) A U U.heap ∧ va_T .int (E.2.2.2 1200) 6 (fun j => .int (gUNDER j)) A U U.heap
def gA (ad0 : Nat → Nat) (n0 sz : Nat) : Nat → Prop := fun q => (∃ k, k < n0 ∧ q = ad0 k) ∨ sz ≤ q
/-- the fixed cells' shapes: Strings (kind 20), their bytes (11), Team.UNDER (10) -/
def gFx (k : Nat) : gSh := cond (Nat.blt k 1013) (.inl 20) (cond (Nat.blt k 1100) (.inr (9, 0)) (cond (Nat.blt k 1113) (.inr (11, gStrL.getD (k - 1100) 0)) (cond (Nat.beq k 1200) (.inr (10, 6)) (.inr (9, 0)))))
def glive (x : gSh) : Bool := match x with
  | .inl ci => Nat.blt ci 11
  | .inr q => Nat.blt q.1 6
def gok (u : gS) : Prop := (u.1 ≤ 900 ∧ (∀ k, u.1 ≤ k → k < 1000 → u.2.1 k = .inr (9, 0)) ∧ ∀ k, 1000 ≤ k → u.2.1 k = gFx k) ∧ (∀ k j r, u.2.2.2.2 k j = some r → r < u.1 ∨ 1000 ≤ r) ∧ ∀ k, k < u.1 → glive (u.2.1 k) = true
def gRm (d mc ms : Nat) : Room := { frames := d, cells := mc, slots := ms, locals := 40 * d }
def gws (q : gM) : List Cond := Cond.code q.1 q.2.1 q.2.2.1 q.2.2.2.1 :: gT
def gPc (E : gEnv) (ad0 : Nat → Nat) (sz : Nat) (av : List Value) (u : gS) : Array Value → State → Prop := fun a U => a = (av.map (gcv ad0)).toArray ∧ U.heap.size = sz ∧ va_P E.2.1 vwCl (gW E.2.2.1 ad0 u) U.heap ∧ va_D (fun _ => True) (gW E.2.2.1 ad0 u) ∧ gok u ∧ va_K E.2.1 vwCl (gty E.2.2.1) U ∧ gX E (gA ad0 u.1 sz) U
def gQc (E : gEnv) (ad0 : Nat → Nat) (n0 sz mc : Nat) (post : Option Value → gS → Prop) : Array Value → State → Outcome → State → Prop := fun _ s o t =>
  (∃ (v : Option Value) (u : gS) (ad : Nat → Nat), o = .returned (v.map (gcv ad)) ∧ ((∀ k, k < n0 ∨ 1000 ≤ k → ad k = ad0 k) ∧ (mc = 0 → ad = ad0)) ∧ n0 ≤ u.1 ∧ post v u ∧ va_P E.2.1 vwCl (gW E.2.2.1 ad u) t.heap ∧ va_D (gA ad0 n0 sz) (gW E.2.2.1 ad u) ∧ gok u) ∧ va_F (gA ad0 n0 sz) s t
/-- THE CONTRACT of method y at depth d: called with av in the world u it returns, and 'post answer world'; it makes at most mc cells of ms slots -/
def gCtr (E : gEnv) (d mc ms y : Nat) (av : List Value) (u : gS) (post : Option Value → gS → Prop) : Prop :=
  ∀ q : gM, gMt[y]? = some q → ∀ (ad0 : Nat → Nat) (sz : Nat), (∀ k, 1000 ≤ k → ad0 k = E.2.2.2 k) → Met E.1 q.1 (gws q) (gRm d mc ms) (gPc E ad0 sz av u) (gQc E ad0 u.1 sz mc post) mc ms (gA ad0 u.1 sz)
/-- a call of it, from depth d -/
def gCall (E : gEnv) (d mc ms y : Nat) (av : List Value) (rs : List Nat) (u : gS) (kc ks : Nat) (k : Nat → Nat → Option Value → gS → Prop) : Prop :=
  ∃ (d1 mc1 ms1 : Nat) (post : Option Value → gS → Prop), d1 < d ∧ kc + mc1 ≤ mc ∧ ks + ms1 ≤ ms ∧ (mc1 = 0 ∨ ∀ r ∈ rs, r < u.1 ∨ 1000 ≤ r) ∧ gCtr E d1 mc1 ms1 y av u post ∧ ∀ w u', u.1 ≤ u'.1 → post w u' → k (kc + mc1) (ks + ms1) w u'
-- what the instructions are told by
def gsw (x : Int32) : List (Int32 × Nat) → Nat → (Nat → Prop) → Prop
  | [], d, kk => kk d
  | q :: r, d, kk => (x = q.1 → kk q.2) ∧ (¬ x = q.1 → gsw x r d kk)
def gobj (u : gS) (o a : Nat) (P : Prop) : Prop := match u.2.1 o with
  | .inl ci => cond (Nat.beq ci a) P False
  | .inr _ => False
/-- a field's value; of a String its coder (0), its bytes (1) -/
def ggf (u : gS) (a b o : Nat) : Value := match a with
  | 20 => (match b with
    | 0 => .int 0
    | _ => .ref (o + 100))
  | _ => gv u (gkd (gTy a b)) o b
def garr (u : gS) (o t : Nat) (P : Nat → Prop) : Prop := match u.2.1 o with
  | .inl _ => False
  | .inr q => cond (Nat.beq q.1 t) (P q.2) False
def garri (u : gS) (o : Nat) (i : Int32) (P : Nat → Int32 → Prop) : Prop := match u.2.1 o with
  | .inl _ => False
  | .inr q => (match q.1 with
    | 0 => P q.2 (u.2.2.1 o i.toNatClampNeg)
    | 10 => P 6 (gUNDER i.toNatClampNeg)
    | _ => False)
def garrb (u : gS) (o : Nat) (i : Int32) (P : Nat → Int32 → Prop) : Prop := match u.2.1 o with
  | .inl _ => False
  | .inr q => (match q.1 with
    | 1 => P q.2 (u.2.2.1 o i.toNatClampNeg)
    | 3 => P q.2 (u.2.2.1 o i.toNatClampNeg)
    | 11 => P q.2 ((gStrB.getD (o - 1100) []).getD i.toNatClampNeg 0)
    | _ => False)
def garrq (u : gS) (o : Nat) (P : Nat → Prop) : Prop := match u.2.1 o with
  | .inl _ => False
  | .inr q => (match q.1 with
    | 4 => P q.2
    | 5 => P q.2
    | _ => False)
def garrl (u : gS) (o : Nat) (P : Nat → Prop) : Prop := match u.2.1 o with
  | .inl _ => False
  | .inr q => cond (Nat.blt q.1 6) (P q.2) (cond (Nat.beq q.1 11) (P q.2) False)
def gbst (u : gS) (o : Nat) (x : Int32) (P : Nat → Int32 → Prop) : Prop := match u.2.1 o with
  | .inl _ => False
  | .inr q => (match q.1 with
    | 1 => P q.2 (vp_nar .byte x)
    | 3 => P q.2 (vp_nar .boolean x)
    | _ => False)
def gqst (u : gS) (o x : Nat) (P : Nat → Prop) : Prop := match u.2.1 o with
  | .inl _ => False
  | .inr q => (match q.1 with
    | 4 => gobj u x 4 (P q.2)
    | 5 => gobj u x 7 (P q.2)
    | _ => False)
/-- a field's kind for a store: 0 int, 1 long, 2 reference, 3 boolean -/
def gfk (ty : FieldType) : Nat := match ty with
  | .int => 0
  | .long => 1
  | .object _ => 2
  | .array _ => 2
  | .boolean => 3
  | _ => 4
def gputf (a b : Nat) (k : gS → List Value → Prop) (st : List Value) (u : gS) : Prop := match gfk (gTy a b) with
  | 0 => g1i st (fun x st => g1r st (fun o st => gobj u o a (k (u.1, u.2.1, gset u.2.2.1 o (gupd (u.2.2.1 o) b x), u.2.2.2.1, u.2.2.2.2) st)))
  | 1 => g1l st (fun x st => g1r st (fun o st => gobj u o a (k (u.1, u.2.1, u.2.2.1, gset u.2.2.2.1 o (gupd (u.2.2.2.1 o) b x), u.2.2.2.2) st)))
  | 2 => g1r st (fun x st => g1r st (fun o st => gobj u o a ((x < u.1 ∨ 1000 ≤ x) ∧ k (u.1, u.2.1, u.2.2.1, u.2.2.2.1, gset u.2.2.2.2 o (gupd (u.2.2.2.2 o) b (some x))) st)))
  | 3 => g1i st (fun x st => g1r st (fun o st => gobj u o a ((x = 0 ∨ x = 1) ∧ k (u.1, u.2.1, gset u.2.2.1 o (gupd (u.2.2.1 o) b x), u.2.2.2.1, u.2.2.2.2) st)))
  | _ => False
def gstr (a : Nat) (k : Nat → Nat → Nat → gLv → List Value → gS → Prop) (kc ks nx : Nat) (lv : gLv) (v : Value) (st : List Value) (u : gS) : Prop := match a with
  | 0 => k kc ks nx lv (v :: st) u
  | i + 1 => k kc ks nx lv (.ref (1000 + i) :: st) u
def grefs1 : List Value → List Nat
  | [] => []
  | .ref r :: l => r :: grefs1 l
  | _ :: l => grefs1 l
def grefs : gLv → List Value → List Nat
  | [], st => grefs1 st
  | some (.ref r) :: l, st => r :: grefs l st
  | _ :: l, st => grefs l st
/-- a new cell: all 0, or null -/
def gborn (u : gS) (x : gSh) : gS := (u.1 + 1, gupd u.2.1 u.1 x, gset u.2.2.1 u.1 (fun _ => 0), gset u.2.2.2.1 u.1 (fun _ => 0), gset u.2.2.2.2 u.1 (fun _ => none))
/-- what an int method may return -/
def gzr (ret : Option FieldType) (x : Int32) (P : Prop) : Prop := match ret with
  | some .boolean => (x = 0 ∨ x = 1) ∧ P
  | some .int => P
  | some .byte => narrow .byte (.int x) = .int x ∧ P
  | some .char => narrow .char (.int x) = .int x ∧ P
  | _ => False
def gzi (ret : Option FieldType) : Bool := match ret with
  | some .boolean => true
  | some .int => true
  | some .byte => true
  | some .char => true
  | _ => false
def gzo (ret : Option FieldType) : Bool := match ret with
  | some (.object _) => true
  | some (.array _) => true
  | _ => false
def gfit (kc ks mc ms : Nat) (P : Prop) : Prop := match kc, ks with
  | 0, 0 => P
  | kc, ks => kc ≤ mc ∧ ks ≤ ms ∧ P
def gargs : Nat → List Value → List Value → (List Value → List Value → Prop) → Prop
  | 0, st, av, k => k av st
  | n + 1, v :: st, av, k => gargs n st (v :: av) k
  | _ + 1, [], _, _ => False
def gcats : List Value → Nat
  | [] => 0
  | v :: l => v.category + gcats l
def gcatok (st : List Value) (P : Prop) : Prop := cond (Nat.ble (gcats st) 8) P False
/-- the receiver is an object of the method's own class, or a String -/
def grecv (u : gS) (av : List Value) (y : Nat) : Prop := match av with
  | .ref o :: _ => cond (Nat.ble 1000 o) (∃ q, gMt[y]? = some q ∧ q.1.cls = "java/lang/String" ∧ o < 1013) (match u.2.1 o with
    | .inl ci => ∃ q c, gMt[y]? = some q ∧ vwCl[ci]? = some c ∧ c.1 = q.1.cls
    | .inr _ => False)
  | _ => False
/-- Math.max, Math.min (gstc); else a call -/
def gcpyp (st : List Value) (k : Nat → Int32 → Nat → Int32 → Int32 → List Value → Prop) : Prop := g1i st (fun n st => g1i st (fun dp st => g1r st (fun d0 st => g1i st (fun sp st => g1r st (fun s0 st => k s0 sp d0 dp n st)))))
def gcpyc (d : Nat) (st : List Value) (sp dp n : Int32) (n0 n1 : Nat) (P : Prop) : Prop := cond (Nat.blt 0 d) (gcatok st (((¬ sp < 0) ∧ (¬ dp < 0) ∧ (¬ n < 0) ∧ sp.toNatClampNeg + n.toNatClampNeg ≤ n0 ∧ dp.toNatClampNeg + n.toNatClampNeg ≤ n1) ∧ P)) False
def gisr (av : List Value) (P : Prop) : Prop := match av with
  | .ref _ :: _ => P
  | _ => False
def gstc (a : Nat) (st : List Value) (d kc ks mc ms : Nat) (k : Value → List Value → Prop) (k2 : List Value → gS → Prop) (u : gS) (P : Prop) : Prop := match a with
  | 9001 => g2i st (fun y x st => cond (Nat.blt 0 d) (gcatok st (gfit kc ks mc ms (k (.int (if x < y then y else x)) st))) False)
  | 9002 => g2i st (fun y x st => cond (Nat.blt 0 d) (gcatok st (gfit kc ks mc ms (k (.int (if y < x then y else x)) st))) False)
  | 9003 => gcpyp st (fun s0 sp d0 dp n st => garr u s0 0 (fun n0 => garr u d0 0 (fun n1 => gcpyc d st sp dp n n0 n1 (k2 st (u.1, u.2.1, gset u.2.2.1 d0 (va_cpy (u.2.2.1 s0) (u.2.2.1 d0) sp.toNatClampNeg dp.toNatClampNeg n.toNatClampNeg), u.2.2.2.1, u.2.2.2.2)))))
  | 9004 => gcpyp st (fun s0 sp d0 dp n st => garr u s0 2 (fun n0 => garr u d0 2 (fun n1 => gcpyc d st sp dp n n0 n1 (k2 st (u.1, u.2.1, u.2.2.1, gset u.2.2.2.1 d0 (va_cpy (u.2.2.2.1 s0) (u.2.2.2.1 d0) sp.toNatClampNeg dp.toNatClampNeg n.toNatClampNeg), u.2.2.2.2)))))
  | _ => P
/-- what an instruction does -/
def gstp (C : List gI) (ca : Nat → List Value → List Nat → gS → Nat → Nat → (Nat → Nat → Option Value → gS → Prop) → Prop) (d : Nat) (ret : Option FieldType) (post : Option Value → gS → Prop) (mc ms : Nat) (k : Nat → Nat → Nat → gLv → List Value → gS → Prop) (kc ks pc : Nat) (lv : gLv) (st : List Value) (u : gS) : Prop :=
  match gfind C pc with
  | none => False
  | some (nx, ins, (a, b, _), v, sw) => match ins with
    | .iconst _ => k kc ks nx lv (v :: st) u
    | .bipush _ => k kc ks nx lv (v :: st) u
    | .sipush _ => k kc ks nx lv (v :: st) u
    | .lconst _ => k kc ks nx lv (v :: st) u
    | .ldc _ => gstr a k kc ks nx lv v st u
    | .ldc_w _ => k kc ks nx lv (v :: st) u
    | .ldc2_w _ => k kc ks nx lv (v :: st) u
    | .iload_n i => gldi lv i.val (fun x => k kc ks nx lv (.int x :: st) u)
    | .iload i => gldi lv i (fun x => k kc ks nx lv (.int x :: st) u)
    | .istore_n i => g1i st (fun x st => k kc ks nx (gsto1 lv i.val (.int x)) st u)
    | .istore i => g1i st (fun x st => k kc ks nx (gsto1 lv i (.int x)) st u)
    | .lload_n i => gldl lv i.val (fun x => k kc ks nx lv (.long x :: st) u)
    | .lload i => gldl lv i (fun x => k kc ks nx lv (.long x :: st) u)
    | .lstore_n i => g1l st (fun x st => k kc ks nx (gsto2 lv i.val (.long x)) st u)
    | .lstore i => g1l st (fun x st => k kc ks nx (gsto2 lv i (.long x)) st u)
    | .aload_n i => gldr lv i.val (fun x => k kc ks nx lv (.ref x :: st) u)
    | .aload i => gldr lv i (fun x => k kc ks nx lv (.ref x :: st) u)
    | .astore_n i => g1r st (fun x st => k kc ks nx (gsto1 lv i.val (.ref x)) st u)
    | .astore i => g1r st (fun x st => k kc ks nx (gsto1 lv i (.ref x)) st u)
    | .iinc i _ => gldi lv i (fun x => g1i [v] (fun y _ => k kc ks nx (gsto1 lv i (.int (x + y))) st u))
    | .iadd => g2i st (fun y x st => k kc ks nx lv (.int (x + y) :: st) u)
    | .isub => g2i st (fun y x st => k kc ks nx lv (.int (x - y) :: st) u)
    | .imul => g2i st (fun y x st => k kc ks nx lv (.int (x * y) :: st) u)
    | .iand => g2i st (fun y x st => k kc ks nx lv (.int (x &&& y) :: st) u)
    | .ior => g2i st (fun y x st => k kc ks nx lv (.int (x ||| y) :: st) u)
    | .ixor => g2i st (fun y x st => k kc ks nx lv (.int (x ^^^ y) :: st) u)
    | .ishl => g2i st (fun y x st => k kc ks nx lv (.int (x <<< (y &&& 31)) :: st) u)
    | .ishr => g2i st (fun y x st => k kc ks nx lv (.int (x >>> (y &&& 31)) :: st) u)
    | .iushr => g2i st (fun y x st => k kc ks nx lv (.int ((x.toUInt32 >>> (y.toUInt32 &&& Int32.toUInt32 31)).toInt32) :: st) u)
    | .ladd => g2l st (fun y x st => k kc ks nx lv (.long (x + y) :: st) u)
    | .lsub => g2l st (fun y x st => k kc ks nx lv (.long (x - y) :: st) u)
    | .lmul => g2l st (fun y x st => k kc ks nx lv (.long (x * y) :: st) u)
    | .land => g2l st (fun y x st => k kc ks nx lv (.long (x &&& y) :: st) u)
    | .lor => g2l st (fun y x st => k kc ks nx lv (.long (x ||| y) :: st) u)
    | .lxor => g2l st (fun y x st => k kc ks nx lv (.long (x ^^^ y) :: st) u)
    | .lshl => g1i st (fun y st => g1l st (fun x st => k kc ks nx lv (.long (x <<< (y.toInt64 &&& 63)) :: st) u))
    | .lshr => g1i st (fun y st => g1l st (fun x st => k kc ks nx lv (.long (x >>> (y.toInt64 &&& 63)) :: st) u))
    | .lushr => g1i st (fun y st => g1l st (fun x st => k kc ks nx lv (.long ((x.toUInt64 >>> (y.toInt64.toUInt64 &&& Int64.toUInt64 63)).toInt64) :: st) u))
    | .idiv => g2i st (fun y x st => (¬ y = 0) ∧ k kc ks nx lv (.int (x / y) :: st) u)
    | .irem => g2i st (fun y x st => (¬ y = 0) ∧ k kc ks nx lv (.int (x - x / y * y) :: st) u)
    | .ineg => g1i st (fun x st => k kc ks nx lv (.int (-x) :: st) u)
    | .i2l => g1i st (fun x st => k kc ks nx lv (.long (x.toInt64) :: st) u)
    | .l2i => g1l st (fun x st => k kc ks nx lv (.int (x.toInt32) :: st) u)
    | .i2b => g1i st (fun x st => k kc ks nx lv (.int (x.toInt8.toInt32) :: st) u)
    | .i2s => g1i st (fun x st => k kc ks nx lv (.int (x.toInt16.toInt32) :: st) u)
    | .i2c => g1i st (fun x st => k kc ks nx lv (.int ((x.toUInt32 % 65536).toInt32) :: st) u)
    | .lcmp => g2l st (fun y x st => k kc ks nx lv (.int (lg_cmp x y) :: st) u)
    | .dup => g1v st (fun w st => k kc ks nx lv (w :: w :: st) u)
    | .pop => g1v st (fun w st => k kc ks nx lv st u)
    | .dup_x1 => g1v st (fun w st => g1v st (fun z st => k kc ks nx lv (w :: z :: w :: st) u))
    | .dup2 => g1v st (fun w st => g1v st (fun z st => k kc ks nx lv (w :: z :: w :: z :: st) u))
    | .ifCond .eq _ => g1i st (fun x st => (x = 0 → k kc ks a lv st u) ∧ (¬ (x = 0) → k kc ks nx lv st u))
    | .if_icmp .eq _ => g2i st (fun y x st => (x = y → k kc ks a lv st u) ∧ (¬ (x = y) → k kc ks nx lv st u))
    | .ifCond .ne _ => g1i st (fun x st => (¬ x = 0 → k kc ks a lv st u) ∧ (x = 0 → k kc ks nx lv st u))
    | .if_icmp .ne _ => g2i st (fun y x st => (¬ x = y → k kc ks a lv st u) ∧ (x = y → k kc ks nx lv st u))
    | .ifCond .lt _ => g1i st (fun x st => (x < 0 → k kc ks a lv st u) ∧ (¬ (x < 0) → k kc ks nx lv st u))
    | .if_icmp .lt _ => g2i st (fun y x st => (x < y → k kc ks a lv st u) ∧ (¬ (x < y) → k kc ks nx lv st u))
    | .ifCond .ge _ => g1i st (fun x st => (0 ≤ x → k kc ks a lv st u) ∧ (¬ (0 ≤ x) → k kc ks nx lv st u))
    | .if_icmp .ge _ => g2i st (fun y x st => (y ≤ x → k kc ks a lv st u) ∧ (¬ (y ≤ x) → k kc ks nx lv st u))
    | .ifCond .gt _ => g1i st (fun x st => (0 < x → k kc ks a lv st u) ∧ (¬ (0 < x) → k kc ks nx lv st u))
    | .if_icmp .gt _ => g2i st (fun y x st => (y < x → k kc ks a lv st u) ∧ (¬ (y < x) → k kc ks nx lv st u))
    | .ifCond .le _ => g1i st (fun x st => (x ≤ 0 → k kc ks a lv st u) ∧ (¬ (x ≤ 0) → k kc ks nx lv st u))
    | .if_icmp .le _ => g2i st (fun y x st => (x ≤ y → k kc ks a lv st u) ∧ (¬ (x ≤ y) → k kc ks nx lv st u))
    | .goto _ => k kc ks a lv st u
    | .ifnonnull _ => (match st with
      | .ref _ :: st => k kc ks a lv st u
      | .null :: st => k kc ks nx lv st u
      | _ => False)
    | .tableswitch _ _ _ _ => g1i st (fun x st => gsw x sw a (fun t => k kc ks t lv st u))
    | .lookupswitch _ _ => g1i st (fun x st => gsw x sw a (fun t => k kc ks t lv st u))
    | .getfield _ => g1r st (fun o st => gobj u o a (k kc ks nx lv (ggf u a b o :: st) u))
    | .getstatic _ => (match a with
      | 1 => k kc ks nx lv (.ref 1200 :: st) u
      | 2 => k kc ks nx lv (.int 1 :: st) u
      | 3 => k kc ks nx lv (.null :: st) u ∧ k kc ks nx lv (.ref 1300 :: st) u
      | _ => False)
    | .putfield _ => gputf a b (fun u st => k kc ks nx lv st u) st u
    | .iaload => g1i st (fun i st => g1r st (fun o st => garri u o i (fun len x => vp_in i len ∧ k kc ks nx lv (.int x :: st) u)))
    | .baload => g1i st (fun i st => g1r st (fun o st => garrb u o i (fun len x => vp_in i len ∧ k kc ks nx lv (.int x :: st) u)))
    | .laload => g1i st (fun i st => g1r st (fun o st => garr u o 2 (fun len => vp_in i len ∧ k kc ks nx lv (.long (u.2.2.2.1 o i.toNatClampNeg) :: st) u)))
    | .aaload => g1i st (fun i st => g1r st (fun o st => garrq u o (fun len => vp_in i len ∧ k kc ks nx lv (va_rf (u.2.2.2.2 o i.toNatClampNeg) :: st) u)))
    | .iastore => g2i st (fun x i st => g1r st (fun o st => garr u o 0 (fun len => vp_in i len ∧ k kc ks nx lv st (u.1, u.2.1, gset u.2.2.1 o (gupd (u.2.2.1 o) i.toNatClampNeg x), u.2.2.2.1, u.2.2.2.2))))
    | .bastore => g2i st (fun x i st => g1r st (fun o st => gbst u o x (fun len y => vp_in i len ∧ k kc ks nx lv st (u.1, u.2.1, gset u.2.2.1 o (gupd (u.2.2.1 o) i.toNatClampNeg y), u.2.2.2.1, u.2.2.2.2))))
    | .lastore => g1l st (fun x st => g1i st (fun i st => g1r st (fun o st => garr u o 2 (fun len => vp_in i len ∧ k kc ks nx lv st (u.1, u.2.1, u.2.2.1, gset u.2.2.2.1 o (gupd (u.2.2.2.1 o) i.toNatClampNeg x), u.2.2.2.2)))))
    | .aastore => g1r st (fun x st => g1i st (fun i st => g1r st (fun o st => gqst u o x (fun len => vp_in i len ∧ k kc ks nx lv st (u.1, u.2.1, u.2.2.1, u.2.2.2.1, gset u.2.2.2.2 o (gupd (u.2.2.2.2 o) i.toNatClampNeg (some x)))))))
    | .arraylength => g1r st (fun o st => garrl u o (fun len => k kc ks nx lv (.int (nI len) :: st) u))
    | .new _ => (∀ r ∈ grefs lv st, r < u.1 ∨ 1000 ≤ r) ∧ u.1 < 900 ∧ kc + 1 ≤ mc ∧ ks + gN a ≤ ms ∧ k (kc + 1) (ks + gN a) nx lv (.ref u.1 :: st) (gborn u (.inl a))
    | .newarray _ => g1i st (fun n st => (∀ r ∈ grefs lv st, r < u.1 ∨ 1000 ≤ r) ∧ u.1 < 900 ∧ (¬ n < 0) ∧ kc + 1 ≤ mc ∧ ks + n.toNatClampNeg ≤ ms ∧ n.toNatClampNeg ≤ 100000 ∧ k (kc + 1) (ks + n.toNatClampNeg) nx lv (.ref u.1 :: st) (gborn u (.inr (a, n.toNatClampNeg))))
    | .anewarray _ => g1i st (fun n st => (∀ r ∈ grefs lv st, r < u.1 ∨ 1000 ≤ r) ∧ u.1 < 900 ∧ (¬ n < 0) ∧ kc + 1 ≤ mc ∧ ks + n.toNatClampNeg ≤ ms ∧ n.toNatClampNeg ≤ 100000 ∧ k (kc + 1) (ks + n.toNatClampNeg) nx lv (.ref u.1 :: st) (gborn u (.inr (a, n.toNatClampNeg))))
    | .ireturn => (match st with
      | [.int x] => gzr ret x (gfit kc ks mc ms (post (some (.int x)) u))
      | _ => False)
    | .lreturn => (match st with
      | [.long x] => gfit kc ks mc ms (post (some (.long x)) u)
      | _ => False)
    | .areturn => (match st with
      | [.ref x] => gfit kc ks mc ms (post (some (.ref x)) u)
      | _ => False)
    | .return_ => (match st with
      | [] => gfit kc ks mc ms (post none u)
      | _ => False)
    | .invokevirtual _ => gargs (b + 1) st [] (fun av st => grecv u av a ∧ gcatok st (ca a av (grefs lv st) u kc ks (fun kc ks w u => k kc ks nx lv (w.toList ++ st) u)))
    | .invokestatic _ => gstc a st d kc ks mc ms (fun w st => k kc ks nx lv (w :: st) u) (fun st u => k kc ks nx lv st u) u (gargs b st [] (fun av st => gcatok st (ca a av (grefs lv st) u kc ks (fun kc ks w u => k kc ks nx lv (w.toList ++ st) u))))
    | .invokespecial _ => cond (Nat.beq a 9999) (g1r st (fun _ st => cond (Nat.blt 0 d) (gcatok st (k kc ks nx lv st u)) False)) (gargs (b + 1) st [] (fun av st => gisr av (gcatok st (ca a av (grefs lv st) u kc ks (fun kc ks w u => k kc ks nx lv (w.toList ++ st) u)))))
    | _ => False
/-- a row of a method is as its code and the tables say -/
def gchk (own : String) (cc : ByteArray) (nL : Nat) (ret : Option FieldType) (ini : Bool) : gI → Bool := fun (pc, nx, ins, (a, b, c), v, sw) =>
  decide (decode cc pc = .ok (ins, nx - pc)) && (match ins with
    | .iconst n => Nat.beq nx (pc + 1) && decide (v = Value.int (Int32.ofInt n))
    | .bipush n => Nat.beq nx (pc + 2) && decide (v = Value.int (Int8.ofInt n).toInt32)
    | .sipush n => Nat.beq nx (pc + 3) && decide (v = Value.int (Int16.ofInt n).toInt32)
    | .lconst n => Nat.beq nx (pc + 1) && decide (v = Value.long (Int64.ofNat (n : Nat)))
    | .ldc i => Nat.beq nx (pc + 2) && (match v with
      | .int x => gat c (.constant own i x) && Nat.beq a 0
      | _ => Nat.beq a (c + 1) && (match gStr[c]? with
        | some q => decide (q.1 = own) && decide (q.2.1 = i)
        | none => false))
    | .ldc_w i => Nat.beq nx (pc + 3) && (match v with
      | .int x => gat c (.constant own i x)
      | _ => false)
    | .ldc2_w i => Nat.beq nx (pc + 3) && (match v with
      | .long x => gat c (.constantLong own i x)
      | _ => false)
    | .iload_n _ => Nat.beq nx (pc + 1)
    | .iload _ => Nat.beq nx (pc + 2)
    | .istore_n i => Nat.beq nx (pc + 1) && Nat.blt i.val nL
    | .istore i => Nat.beq nx (pc + 2) && Nat.blt i nL
    | .lload_n _ => Nat.beq nx (pc + 1)
    | .lload _ => Nat.beq nx (pc + 2)
    | .lstore_n i => Nat.beq nx (pc + 1) && Nat.blt (i.val + 1) nL
    | .lstore i => Nat.beq nx (pc + 2) && Nat.blt (i + 1) nL
    | .aload_n _ => Nat.beq nx (pc + 1)
    | .aload _ => Nat.beq nx (pc + 2)
    | .astore_n i => Nat.beq nx (pc + 1) && Nat.blt i.val nL
    | .astore i => Nat.beq nx (pc + 2) && Nat.blt i nL
    | .iinc i n => Nat.beq nx (pc + 3) && (Nat.blt i nL && decide (v = Value.int (Int32.ofInt n)))
    | .ifCond _ off => Nat.beq nx (pc + 3) && decide ((pc : Int) + off = (a : Int))
    | .if_icmp _ off => Nat.beq nx (pc + 3) && decide ((pc : Int) + off = (a : Int))
    | .goto off => Nat.beq nx (pc + 3) && decide ((pc : Int) + off = (a : Int))
    | .ifnonnull off => Nat.beq nx (pc + 3) && decide ((pc : Int) + off = (a : Int))
    | .tableswitch df lo hi offs => decide ((pc : Int) + df = (a : Int)) && (decide (sw.map (fun q => q.1.toInt) = (List.range offs.size).map (fun j : Nat => lo + (j : Int))) && (decide (sw.map (fun q => (q.2 : Int)) = offs.toList.map (fun o => (pc : Int) + o)) && decide (hi = lo + (offs.size : Int) - 1)))
    | .lookupswitch df ps => decide ((pc : Int) + df = (a : Int)) && (decide (sw.map (fun q => (q.1.toInt, (q.2 : Int))) = ps.toList.map (fun o => (o.1, (pc : Int) + o.2))) && (ps.toList.zip (ps.toList.drop 1)).all (fun (a, next) => a.1 < next.1))
    | .getstatic i => Nat.beq nx (pc + 3) && (match a with
      | 1 => gat c (.fieldLink own i RX6 "UNDER" "[I")
      | 2 => gat c (.fieldLink own i "java/lang/String" "COMPACT_STRINGS" "Z")
      | 3 => gat c (.fieldLink own i "jdk/internal/util/Preconditions" "SIOOBE_FORMATTER" "Ljava/util/function/BiFunction;")
      | _ => false)
    | .getfield i => Nat.beq nx (pc + 3) && (cond (Nat.beq a 20) (match b with
      | 0 => gat c (.fieldLink own i "java/lang/String" "coder" "B")
      | _ => gat c (.fieldLink own i "java/lang/String" "value" "[B")) (match vwCl[a]? with
      | some q => Nat.blt b q.2.2 && (decide ((q.2.1 b).1 = q.1) && gat c (.fieldLink own i q.1 (q.2.1 b).2.1 (q.2.1 b).2.2.1))
      | none => false))
    | .putfield i => Nat.beq nx (pc + 3) && (match vwCl[a]? with
      | some q => Nat.blt b q.2.2 && (decide ((q.2.1 b).1 = q.1) && (gat c (.fieldLink own i q.1 (q.2.1 b).2.1 (q.2.1 b).2.2.1) && (!(q.2.1 b).2.2.2 || (ini && decide (q.1 = own)))))
      | none => false)
    | .new i => Nat.beq nx (pc + 3) && (match vwCl[a]? with
      | some q => gat b (.classLink own i q.1) && (gat c (.instantiable q.1 q.2.2) && (match sw with
        | [(_, p)] => gat p (.initialized q.1)
        | _ => false))
      | none => false)
    | .newarray t => Nat.beq nx (pc + 2) && (gat c (.arrayClass (newarray.typeOf t)) && (Nat.blt a 4 && decide (gtc a = newarray.typeOf t)))
    | .anewarray i => Nat.beq nx (pc + 3) && ((Nat.beq a 4 && gat c (.classLink own i RX4)) || (Nat.beq a 5 && gat c (.classLink own i RX7)))
    | .lreturn => Nat.beq nx (pc + 1) && decide (ret = some .long)
    | .ireturn => Nat.beq nx (pc + 1) && gzi ret
    | .areturn => Nat.beq nx (pc + 1) && gzo ret
    | .return_ => Nat.beq nx (pc + 1) && decide (ret = none)
    | .invokevirtual i => Nat.beq nx (pc + 3) && (match gMt[a]? with
      | some q => Nat.beq b q.2.2.2.2.2.1 && (Nat.beq q.2.2.2.2.1 1 && gat c (.methodLink own i q.1))
      | none => false)
    | .invokestatic i => Nat.beq nx (pc + 3) && (cond (Nat.blt a 9000) (match gMt[a]? with
      | some q => Nat.beq b q.2.2.2.2.2.1 && (Nat.beq q.2.2.2.2.1 0 && (cond (Nat.blt c 5000) (gat c (.methodLink own i q.1)) (decide (gNest[c - 5000]? = some (.methodLinkNest own i q.1 RX9)))))
      | none => false) (match a with
      | 9001 => gat c (.methodLink own i Lib.Math.max.name)
      | 9002 => gat c (.methodLink own i Lib.Math.min.name)
      | 9003 => gat c (.methodLink own i arraycopyName)
      | 9004 => gat c (.methodLink own i arraycopyName)
      | _ => false))
    | .invokespecial i => Nat.beq nx (pc + 3) && (cond (Nat.beq a 9999) (gat c (.methodLink own i objectInit)) (match gMt[a]? with
      | some q => Nat.beq b q.2.2.2.2.2.1 && (Nat.beq q.2.2.2.2.1 2 && (cond (Nat.blt c 5000) (gat c (.methodLink own i q.1)) (decide (gNest[c - 5000]? = some (.methodLinkNest own i q.1 RX9)))))
      | none => false))
    | _ => Nat.beq nx (pc + 1))
end
section
theorem gk1 {a : Bool} {n m : Nat} (h : (a && Nat.beq n m) = true) : n = m := by
  rw [Bool.and_eq_true] at h
  exact Nat.eq_of_beq_eq_true h.2
theorem gk2 {a : Bool} {n m : Nat} {P : Prop} {_ : Decidable P} (h : (a && (Nat.beq n m && decide P)) = true) : n = m ∧ P := by
  rw [Bool.and_eq_true, Bool.and_eq_true] at h
  exact ⟨Nat.eq_of_beq_eq_true h.2.1, of_decide_eq_true h.2.2⟩
theorem gk2b {a b : Bool} {n m : Nat} (h : (a && (Nat.beq n m && b)) = true) : n = m ∧ b = true := by
  rw [Bool.and_eq_true, Bool.and_eq_true] at h
  exact ⟨Nat.eq_of_beq_eq_true h.2.1, h.2.2⟩
theorem gk3 {a b : Bool} {n m : Nat} {P : Prop} {_ : Decidable P} (h : (a && (Nat.beq n m && (b && decide P))) = true) : n = m ∧ b = true ∧ P := by
  rw [Bool.and_eq_true, Bool.and_eq_true, Bool.and_eq_true] at h
  exact ⟨Nat.eq_of_beq_eq_true h.2.1, h.2.2.1, of_decide_eq_true h.2.2.2⟩
theorem gk2i {a b : Bool} (h : (a && b) = true) : b = true := by
  rw [Bool.and_eq_true] at h
  exact h.2
theorem gobj_e {u : gS} {o a : Nat} {P : Prop} (h : gobj u o a P) : u.2.1 o = .inl a ∧ P := by
  unfold gobj at h
  split at h
  · rename_i ci hc
    cases hb : Nat.beq ci a with
    | true => rw [hb] at h; exact ⟨by rw [hc, Nat.eq_of_beq_eq_true hb], h⟩
    | false => rw [hb] at h; exact h.elim
  · exact h.elim
theorem garr_e {u : gS} {o t : Nat} {P : Nat → Prop} (h : garr u o t P) : ∃ len, u.2.1 o = .inr (t, len) ∧ P len := by
  unfold garr at h
  split at h
  · exact h.elim
  · rename_i q hc
    cases hb : Nat.beq q.1 t with
    | true => rw [hb] at h; exact ⟨q.2, by rw [hc, ← Nat.eq_of_beq_eq_true hb], h⟩
    | false => rw [hb] at h; exact h.elim
theorem garri_e {u : gS} {o : Nat} {i : Int32} {P : Nat → Int32 → Prop} (h : garri u o i P) : ∃ len, (u.2.1 o = .inr (0, len) ∧ P len (u.2.2.1 o i.toNatClampNeg)) ∨ (u.2.1 o = .inr (10, len) ∧ P 6 (gUNDER i.toNatClampNeg)) := by
  unfold garri at h
  split at h
  · exact h.elim
  · rename_i q hc
    obtain ⟨t, len⟩ := q
    dsimp only at h
    split at h
    · exact ⟨len, Or.inl ⟨hc, h⟩⟩
    · exact ⟨len, Or.inr ⟨hc, h⟩⟩
    · exact h.elim
theorem garrb_e {u : gS} {o : Nat} {i : Int32} {P : Nat → Int32 → Prop} (h : garrb u o i P) : ∃ len, ((u.2.1 o = .inr (1, len) ∨ u.2.1 o = .inr (3, len)) ∧ P len (u.2.2.1 o i.toNatClampNeg)) ∨ (u.2.1 o = .inr (11, len) ∧ P len ((gStrB.getD (o - 1100) []).getD i.toNatClampNeg 0)) := by
  unfold garrb at h
  split at h
  · exact h.elim
  · rename_i q hc
    obtain ⟨t, len⟩ := q
    dsimp only at h
    split at h
    · exact ⟨len, Or.inl ⟨Or.inl hc, h⟩⟩
    · exact ⟨len, Or.inl ⟨Or.inr hc, h⟩⟩
    · exact ⟨len, Or.inr ⟨hc, h⟩⟩
    · exact h.elim
theorem garrq_e {u : gS} {o : Nat} {P : Nat → Prop} (h : garrq u o P) : ∃ len, (u.2.1 o = .inr (4, len) ∨ u.2.1 o = .inr (5, len)) ∧ P len := by
  unfold garrq at h
  split at h
  · exact h.elim
  · rename_i q hc
    obtain ⟨t, len⟩ := q
    dsimp only at h
    split at h
    · exact ⟨len, Or.inl hc, h⟩
    · exact ⟨len, Or.inr hc, h⟩
    · exact h.elim
theorem garrl_e {u : gS} {o : Nat} {P : Nat → Prop} (h : garrl u o P) : ∃ t len, (t < 6 ∨ t = 11) ∧ u.2.1 o = .inr (t, len) ∧ P len := by
  unfold garrl at h
  split at h
  · exact h.elim
  · rename_i q hc
    obtain ⟨t, len⟩ := q
    cases hb : Nat.blt t 6 with
    | true => rw [hb] at h; exact ⟨t, len, Or.inl (Nat.le_of_ble_eq_true hb), hc, h⟩
    | false =>
      rw [hb] at h
      cases hb2 : Nat.beq t 11 with
      | true => rw [hb2] at h; exact ⟨t, len, Or.inr (Nat.eq_of_beq_eq_true hb2), hc, h⟩
      | false => rw [hb2] at h; exact h.elim
theorem gcpyp_e {st : List Value} {k : Nat → Int32 → Nat → Int32 → Int32 → List Value → Prop} (h : gcpyp st k) : ∃ s0 sp d0 dp n r, st = .int n :: .int dp :: .ref d0 :: .int sp :: .ref s0 :: r ∧ k s0 sp d0 dp n r := by
  obtain ⟨n, r1, e1, h1⟩ := g1i_e h
  obtain ⟨dp, r2, e2, h2⟩ := g1i_e h1
  obtain ⟨d0, r3, e3, h3⟩ := g1r_e h2
  obtain ⟨sp, r4, e4, h4⟩ := g1i_e h3
  obtain ⟨s0, r5, e5, h5⟩ := g1r_e h4
  exact ⟨s0, sp, d0, dp, n, r5, by rw [e1, e2, e3, e4, e5], h5⟩
theorem gbst_e {u : gS} {o : Nat} {x : Int32} {P : Nat → Int32 → Prop} (h : gbst u o x P) : ∃ len, (u.2.1 o = .inr (1, len) ∧ P len (vp_nar .byte x)) ∨ (u.2.1 o = .inr (3, len) ∧ P len (vp_nar .boolean x)) := by
  unfold gbst at h
  split at h
  · exact h.elim
  · rename_i q hc
    obtain ⟨t, len⟩ := q
    dsimp only at h
    split at h
    · exact ⟨len, Or.inl ⟨hc, h⟩⟩
    · exact ⟨len, Or.inr ⟨hc, h⟩⟩
    · exact h.elim
theorem gqst_e {u : gS} {o x : Nat} {P : Nat → Prop} (h : gqst u o x P) : ∃ len, ((u.2.1 o = .inr (4, len) ∧ u.2.1 x = .inl 4) ∨ (u.2.1 o = .inr (5, len) ∧ u.2.1 x = .inl 7)) ∧ P len := by
  unfold gqst at h
  split at h
  · exact h.elim
  · rename_i q hc
    obtain ⟨t, len⟩ := q
    dsimp only at h
    split at h
    · obtain ⟨h1, h2⟩ := gobj_e h
      exact ⟨len, Or.inl ⟨hc, h1⟩, h2⟩
    · obtain ⟨h1, h2⟩ := gobj_e h
      exact ⟨len, Or.inr ⟨hc, h1⟩, h2⟩
    · exact h.elim
theorem gfit_e {kc ks mc ms : Nat} {P : Prop} (h : gfit kc ks mc ms P) : kc ≤ mc ∧ ks ≤ ms ∧ P := by
  unfold gfit at h
  split at h
  · exact ⟨Nat.zero_le _, Nat.zero_le _, h⟩
  · exact h
theorem gargs_e : ∀ {n : Nat} {st av : List Value} {k : List Value → List Value → Prop}, gargs n st av k → ∃ bv r, bv.length = n ∧ st = bv.reverse ++ r ∧ k (bv ++ av) r := by
  intro n
  induction n with
  | zero => intro st av k h; exact ⟨[], st, rfl, rfl, h⟩
  | succ n ih =>
    intro st av k h
    cases st with
    | nil => exact h.elim
    | cons v st =>
      obtain ⟨bv, r, h1, h2, h3⟩ := ih h
      refine ⟨bv ++ [v], r, by simp [h1], by simp [h2], ?_⟩
      rw [List.append_assoc]
      exact h3
theorem gcats_sum (ad : Nat → Nat) : ∀ (st : List Value), ((st.map (gcv ad)).map (fun v => v.category)).sum = gcats st := by
  intro st
  induction st with
  | nil => rfl
  | cons v st ih => simp only [List.map_cons, List.sum_cons, ih, gcats, gcat]
theorem gcatok_e {st : List Value} {P : Prop} (h : gcatok st P) : gcats st ≤ 8 ∧ P := by
  unfold gcatok at h
  cases hb : Nat.ble (gcats st) 8 with
  | true => rw [hb] at h; exact ⟨Nat.le_of_ble_eq_true hb, h⟩
  | false => rw [hb] at h; exact h.elim
theorem gcpyc_e {d : Nat} {st : List Value} {sp dp n : Int32} {n0 n1 : Nat} {P : Prop} (h : gcpyc d st sp dp n n0 n1 P) : 0 < d ∧ gcats st ≤ 8 ∧ ((¬ sp < 0) ∧ (¬ dp < 0) ∧ (¬ n < 0) ∧ sp.toNatClampNeg + n.toNatClampNeg ≤ n0 ∧ dp.toNatClampNeg + n.toNatClampNeg ≤ n1) ∧ P := by
  unfold gcpyc at h
  cases hb : Nat.blt 0 d with
  | true =>
    rw [hb] at h
    obtain ⟨h1, h2⟩ := gcatok_e h
    exact ⟨Nat.le_of_ble_eq_true hb, h1, h2⟩
  | false => rw [hb] at h; exact h.elim
theorem grefs1_of : ∀ {st : List Value} {r : Nat}, Value.ref r ∈ st → r ∈ grefs1 st := by
  intro st
  induction st with
  | nil => intro r h; cases h
  | cons v st ih =>
    intro r h
    rcases List.mem_cons.mp h with h0 | h0
    · subst h0; exact List.mem_cons_self
    · have h1 := ih h0
      cases v <;> first | exact List.mem_cons_of_mem _ h1 | exact h1
theorem grefs_st : ∀ {lv : gLv} {st : List Value} {r : Nat}, Value.ref r ∈ st → r ∈ grefs lv st := by
  intro lv
  induction lv with
  | nil => intro st r h; exact grefs1_of h
  | cons w lv ih =>
    intro st r h
    cases w with
    | none => exact ih h
    | some w => cases w <;> first | exact List.mem_cons_of_mem _ (ih h) | exact ih h
theorem grefs_lv : ∀ {lv : gLv} {st : List Value} {i r : Nat}, gnth lv i = some (.ref r) → r ∈ grefs lv st := by
  intro lv
  induction lv with
  | nil => intro st i r h; cases h
  | cons w lv ih =>
    intro st i r h
    cases i with
    | zero =>
      have hw : w = some (.ref r) := h
      subst hw
      exact List.mem_cons_self
    | succ i =>
      have h2 := ih (st := st) (i := i) h
      cases w with
      | none => exact h2
      | some w => cases w <;> first | exact List.mem_cons_of_mem _ h2 | exact h2
theorem gcv_agree {ad ad' : Nat → Nat} {v : Value} (h : ∀ r, v = .ref r → ad' r = ad r) : gcv ad' v = gcv ad v := by
  cases v <;> first | rfl | (show Value.ref _ = Value.ref _; rw [h _ rfl])
theorem gL.agree {ad ad' : Nat → Nat} {ls : Array Slot} {nL : Nat} {lv : gLv} {st : List Value} (h : gL ad ls nL lv) (ha : ∀ r ∈ grefs lv st, ad' r = ad r) : gL ad' ls nL lv := ⟨h.1, h.2.1, fun i v hv => by
  rw [gcv_agree (ad := ad) (fun r e => ha r (grefs_lv (i := i) (by rw [hv, e])))]
  exact h.2.2 i v hv⟩
theorem gst_agree {ad ad' : Nat → Nat} {lv : gLv} {st : List Value} (ha : ∀ r ∈ grefs lv st, ad' r = ad r) : st.map (gcv ad') = st.map (gcv ad) := List.map_congr_left fun v hv => gcv_agree fun r e => ha r (grefs_st (by rw [← e]; exact hv))
-- switches
theorem gsw_out {x : Int32} : ∀ {sw : List (Int32 × Nat)} {d : Nat} {kk : Nat → Prop}, gsw x sw d kk → (∀ q ∈ sw, x ≠ q.1) → kk d := by
  intro sw
  induction sw with
  | nil => intro d kk h _; exact h
  | cons q r ih => intro d kk h hn; exact ih (h.2 (hn q List.mem_cons_self)) (fun z hz => hn z (List.mem_cons_of_mem _ hz))
theorem gsw_in {x : Int32} : ∀ {sw : List (Int32 × Nat)} {d : Nat} {kk : Nat → Prop}, gsw x sw d kk → ∀ (j t : Nat), sw[j]? = some (x, t) → (∀ (i t' : Nat), i < j → sw[i]? ≠ some (x, t')) → kk t := by
  intro sw
  induction sw with
  | nil => intro d kk _ j t hj; simp at hj
  | cons q r ih =>
    intro d kk h j t hj hn
    cases j with
    | zero =>
      have hq : q = (x, t) := by simpa using hj
      subst hq
      exact h.1 rfl
    | succ j =>
      have hne : ¬ x = q.1 := fun e => hn 0 q.2 (by omega) (by simp [e])
      exact ih (h.2 hne) j t (by simpa using hj) (fun i t' hi hz => hn (i + 1) t' (by omega) (by simpa using hz))
section GZ
variable {p : Program} {l : Launch} {e : Env} {R : Room} {s : State} {m : MethodId} {args : Array Value} {below : List Frame} {meth : Method} {c : Code} {H : Heap} {locs : List Loc} {cells slots : Nat} {Q : State → Prop} {cc : ByteArray} {pc a : Nat} {ls : Array Slot} {rest : List Value}
theorem gsw_table (hx : p.tables.exec = Jvm.exec) (hb : c.code = cc) {df lo hi : Int} {offs : Array Int} {len : Nat} {x : Int32} {sw : List (Int32 × Nat)} (hd : decode cc pc = .ok (.tableswitch df lo hi offs, len))
    (hok : (decide ((pc : Int) + df = (a : Int)) && (decide (sw.map (fun q => q.1.toInt) = (List.range offs.size).map (fun j : Nat => lo + (j : Int))) && (decide (sw.map (fun q => (q.2 : Int)) = offs.toList.map (fun o => (pc : Int) + o)) && decide (hi = lo + (offs.size : Int) - 1)))) = true)
    {kk : Nat → Prop} (h : gsw x sw a kk) (hk : ∀ t, kk t → W p l e R s m args below meth c H locs cells slots Q (F0 m t ls rest)) : W p l e R s m args below meth c H locs cells slots Q (F0 m pc ls (.int x :: rest)) := by
  simp only [Bool.and_eq_true, decide_eq_true_eq] at hok
  obtain ⟨h1, h2, h3, h4⟩ := hok
  have hlen : sw.length = offs.size := by have := congrArg List.length h2; simpa using this
  have hkey : ∀ (j : Nat) (q : Int32 × Nat), sw[j]? = some q → q.1.toInt = lo + (j : Int) ∧ j < offs.size := fun j q hq => by
    have hj : j < sw.length := (List.getElem?_eq_some_iff.mp hq).1
    have e1 := congrArg (fun l => l[j]?) h2
    simp only [List.getElem?_map, hq, Option.map_some] at e1
    rw [List.getElem?_range (by omega)] at e1
    exact ⟨by simpa using e1, by omega⟩
  by_cases ho : x.toInt < lo ∨ hi < x.toInt
  · refine lv_tableOut hx hb hd ho h1 (hk a (gsw_out h fun q hq e => ?_))
    obtain ⟨j, hj⟩ := List.mem_iff_getElem?.mp hq
    obtain ⟨e1, e2⟩ := hkey j q hj
    rw [← e] at e1
    omega
  · have hlo : ¬ x.toInt < lo := fun z => ho (Or.inl z)
    have hhi : ¬ hi < x.toInt := fun z => ho (Or.inr z)
    have hj : (x.toInt - lo).toNat < offs.size := by omega
    obtain ⟨o, hoo⟩ : ∃ o, offs[(x.toInt - lo).toNat]? = some o := ⟨_, Array.getElem?_eq_getElem hj⟩
    obtain ⟨q, hq⟩ : ∃ q, sw[(x.toInt - lo).toNat]? = some q := ⟨_, List.getElem?_eq_getElem (by omega)⟩
    have e1 := (hkey _ q hq).1
    have hxq : q.1 = x := Int32.toInt_inj.mp (by rw [e1]; omega)
    have e2 := congrArg (fun l => l[(x.toInt - lo).toNat]?) h3
    simp only [List.getElem?_map, hq, Option.map_some, Array.getElem?_toList, hoo] at e2
    refine lv_tableIn hx hb hd hlo hhi hoo (tgt := q.2) (by simpa using (Option.some.inj e2).symm) (hk q.2 (gsw_in h _ q.2 (by rw [hq, ← hxq]) fun i t' hi hz => ?_))
    have e3 := (hkey i _ hz).1
    dsimp only at e3
    omega
theorem gsw_off {x : Int32} {pc : Nat} : ∀ {sw : List (Int32 × Nat)} {ps : List (Int × Int)} {a : Nat} {df : Int} {kk : Nat → Prop}, sw.map (fun q => (q.1.toInt, (q.2 : Int))) = ps.map (fun o => (o.1, (pc : Int) + o.2)) → (pc : Int) + df = (a : Int) → gsw x sw a kk → ∃ t : Nat, (pc : Int) + Op.lookupswitch.offset ps df x.toInt = (t : Int) ∧ kk t := by
  intro sw
  induction sw with
  | nil =>
    intro ps a df kk h hd hs
    cases ps with
    | nil => exact ⟨a, hd, hs⟩
    | cons o ps => simp at h
  | cons q r ih =>
    intro ps a df kk h hd hs
    cases ps with
    | nil => simp at h
    | cons o ps =>
      simp only [List.map_cons, List.cons.injEq, Prod.mk.injEq] at h
      obtain ⟨⟨h1, h2⟩, h3⟩ := h
      obtain ⟨o1, o2⟩ := o
      by_cases hx : x = q.1
      · refine ⟨q.2, ?_, hs.1 hx⟩
        subst hx
        dsimp only at h1 h2
        rw [h2, h1]
        simp [Op.lookupswitch.offset]
      · obtain ⟨t, ht, hkt⟩ := ih h3 hd (hs.2 hx)
        refine ⟨t, ?_, hkt⟩
        rw [← ht]
        rw [lv_osw hx h1]
theorem gsw_lookup (hx : p.tables.exec = Jvm.exec) (hb : c.code = cc) {df : Int} {ps : Array (Int × Int)} {len : Nat} {x : Int32} {sw : List (Int32 × Nat)} (hd : decode cc pc = .ok (.lookupswitch df ps, len))
    (hok : (decide ((pc : Int) + df = (a : Int)) && (decide (sw.map (fun q => (q.1.toInt, (q.2 : Int))) = ps.toList.map (fun o => (o.1, (pc : Int) + o.2))) && (ps.toList.zip (ps.toList.drop 1)).all (fun (a, next) => a.1 < next.1))) = true)
    {kk : Nat → Prop} (h : gsw x sw a kk) (hk : ∀ t, kk t → W p l e R s m args below meth c H locs cells slots Q (F0 m t ls rest)) : W p l e R s m args below meth c H locs cells slots Q (F0 m pc ls (.int x :: rest)) := by
  simp only [Bool.and_eq_true, decide_eq_true_eq] at hok
  obtain ⟨h1, h2, h3⟩ := hok
  obtain ⟨t, ht, hkt⟩ := gsw_off h2 h1 h
  exact lv_lookup hx hb hd (by simpa using h3) rfl ht (hk t hkt)
end GZ
end
section
-- the world behind a store, behind a new cell
theorem gE1_obj {cy : Nat → ClassId} {ad : Nat → Nat} {u : gS} {o a : Nat} (h : u.2.1 o = .inl a) : gE1 cy ad u o = .inr (a, gF ad u a o) := by unfold gE1; rw [h]
theorem gE1_arr {cy : Nat → ClassId} {ad : Nat → Nat} {u : gS} {o t len : Nat} (h : u.2.1 o = .inr (t, len)) : gE1 cy ad u o = .inl (cy t, gAr ad u t len o) := by unfold gE1; rw [h]
theorem gFx_inl {k a : Nat} (h : gFx k = .inl a) : a = 20 ∧ k < 1013 := by
  unfold gFx at h
  cases h1 : Nat.blt k 1013 with
  | true => rw [h1] at h; cases h; exact ⟨rfl, Nat.le_of_ble_eq_true h1⟩
  | false =>
    rw [h1] at h
    cases h2 : Nat.blt k 1100 <;> rw [h2] at h
    · cases h3 : Nat.blt k 1113 <;> rw [h3] at h
      · cases h4 : Nat.beq k 1200 <;> rw [h4] at h <;> cases h
      · cases h
    · cases h
theorem gFx_inr {k t len : Nat} (h : gFx k = .inr (t, len)) : t = 9 ∨ (t = 10 ∧ k = 1200) ∨ (t = 11 ∧ 1100 ≤ k ∧ k < 1113 ∧ len = gStrL.getD (k - 1100) 0) := by
  unfold gFx at h
  cases h1 : Nat.blt k 1013 with
  | true => rw [h1] at h; cases h
  | false =>
    rw [h1] at h
    cases h2 : Nat.blt k 1100 <;> rw [h2] at h
    · have hk : ¬ k < 1100 := fun z => by have := Nat.ble_eq_true_of_le (show k + 1 ≤ 1100 from z); rw [show Nat.blt k 1100 = Nat.ble (k + 1) 1100 from rfl, this] at h2; cases h2
      cases h3 : Nat.blt k 1113 <;> rw [h3] at h
      · cases h4 : Nat.beq k 1200 <;> rw [h4] at h
        · cases h; exact Or.inl rfl
        · cases h; exact Or.inr (Or.inl ⟨rfl, Nat.eq_of_beq_eq_true h4⟩)
      · cases h; exact Or.inr (Or.inr ⟨rfl, Nat.le_of_not_lt hk, Nat.le_of_ble_eq_true h3, rfl⟩)
    · cases h; exact Or.inl rfl
theorem gok.lt {u : gS} (h : gok u) {o a : Nat} (ha : a < 20) (ho : u.2.1 o = .inl a) : o < u.1 := by
  rcases Nat.lt_or_ge o u.1 with q | q
  · exact q
  · rcases Nat.lt_or_ge o 1000 with z | z
    · have := h.1.2.1 o q z
      rw [ho] at this
      cases this
    · have := h.1.2.2 o z
      rw [ho] at this
      have := (gFx_inl this.symm).1
      omega
theorem gok.lta {u : gS} (h : gok u) {o t len : Nat} (ht : t < 6) (ho : u.2.1 o = .inr (t, len)) : o < u.1 := by
  rcases Nat.lt_or_ge o u.1 with q | q
  · exact q
  · rcases Nat.lt_or_ge o 1000 with z | z
    · have := h.1.2.1 o q z
      rw [ho] at this
      cases this
      omega
    · have := h.1.2.2 o z
      rw [ho] at this
      have := gFx_inr this.symm
      omega
theorem gok.ge {u : gS} (h : gok u) {o : Nat} (ho : glive (u.2.1 o) = false) (hd : u.2.1 o ≠ .inr (9, 0)) : 1000 ≤ o ∧ u.2.1 o = gFx o := by
  rcases Nat.lt_or_ge o 1000 with z | z
  · rcases Nat.lt_or_ge o u.1 with q | q
    · rw [h.2.2 o q] at ho; cases ho
    · exact absurd (h.1.2.1 o q z) hd
  · exact ⟨z, h.1.2.2 o z⟩
theorem gok.str {u : gS} (h : gok u) {o : Nat} (ho : u.2.1 o = .inl 20) : 1000 ≤ o ∧ o < 1013 := by
  obtain ⟨h1, h2⟩ := h.ge (o := o) (by rw [ho]; rfl) (by rw [ho]; exact fun z => by cases z)
  rw [ho] at h2
  exact ⟨h1, (gFx_inl h2.symm).2⟩
theorem gok.und {u : gS} (h : gok u) {o len : Nat} (ho : u.2.1 o = .inr (10, len)) : o = 1200 := by
  obtain ⟨h1, h2⟩ := h.ge (o := o) (by rw [ho]; rfl) (by rw [ho]; exact fun z => by cases z)
  rw [ho] at h2
  have := gFx_inr h2.symm
  omega
theorem gok.byt {u : gS} (h : gok u) {o len : Nat} (ho : u.2.1 o = .inr (11, len)) : 1100 ≤ o ∧ o < 1113 ∧ len = gStrL.getD (o - 1100) 0 := by
  obtain ⟨h1, h2⟩ := h.ge (o := o) (by rw [ho]; rfl) (by rw [ho]; exact fun z => by cases z)
  rw [ho] at h2
  rcases gFx_inr h2.symm with q | q | q
  · omega
  · omega
  · exact q.2
theorem gWf_I {cy : Nat → ClassId} {ad : Nat → Nat} {n : Nat} {sh : Nat → gSh} {I : Nat → Nat → Int32} {L : Nat → Nat → Int64} {R : Nat → Nat → Option Nat} {o a b : Nat} {x : Int32} (ho : sh o = .inl a) (hb : b < gN a) (hk : gkd (gTy a b) = 0) :
    (gW cy ad (n, sh, I, L, R)).set o (ad o, .inr (a, (gF ad (n, sh, I, L, R) a o).set b (.int x))) = gW cy ad (n, sh, gset I o (gupd (I o) b x), L, R) := by
  refine gW_set rfl ?_ (fun k _ hne => gE1_I (gset_n hne))
  rw [gE1_obj (a := a) ho]
  congr 2
  refine (gF_set hb ?_ (fun i _ hi => gv_I (by rw [gset_s, gupd_n hi]))).symm
  rw [hk]
  show Value.int _ = Value.int _
  dsimp only
  rw [gset_s, gupd_s]
theorem gWf_L {cy : Nat → ClassId} {ad : Nat → Nat} {n : Nat} {sh : Nat → gSh} {I : Nat → Nat → Int32} {L : Nat → Nat → Int64} {R : Nat → Nat → Option Nat} {o a b : Nat} {x : Int64} (ho : sh o = .inl a) (hb : b < gN a) (hk : gkd (gTy a b) = 1) :
    (gW cy ad (n, sh, I, L, R)).set o (ad o, .inr (a, (gF ad (n, sh, I, L, R) a o).set b (.long x))) = gW cy ad (n, sh, I, gset L o (gupd (L o) b x), R) := by
  refine gW_set rfl ?_ (fun k _ hne => gE1_L (gset_n hne))
  rw [gE1_obj (a := a) ho]
  congr 2
  refine (gF_set hb ?_ (fun i _ hi => gv_L (by rw [gset_s, gupd_n hi]))).symm
  rw [hk]
  show Value.long _ = Value.long _
  dsimp only
  rw [gset_s, gupd_s]
theorem gWf_R {cy : Nat → ClassId} {ad : Nat → Nat} {n : Nat} {sh : Nat → gSh} {I : Nat → Nat → Int32} {L : Nat → Nat → Int64} {R : Nat → Nat → Option Nat} {o a b x : Nat} (ho : sh o = .inl a) (hb : b < gN a) (hk : gkd (gTy a b) = 2) :
    (gW cy ad (n, sh, I, L, R)).set o (ad o, .inr (a, (gF ad (n, sh, I, L, R) a o).set b (.ref (ad x)))) = gW cy ad (n, sh, I, L, gset R o (gupd (R o) b (some x))) := by
  refine gW_set rfl ?_ (fun k _ hne => gE1_R (gset_n hne))
  rw [gE1_obj (a := a) ho]
  congr 2
  refine (gF_set hb ?_ (fun i _ hi => gv_R (by rw [gset_s, gupd_n hi]))).symm
  rw [hk]
  show gcv ad (va_rf _) = _
  dsimp only
  rw [gset_s, gupd_s]
  rfl
theorem gWa_I {cy : Nat → ClassId} {ad : Nat → Nat} {n : Nat} {sh : Nat → gSh} {I : Nat → Nat → Int32} {L : Nat → Nat → Int64} {R : Nat → Nat → Option Nat} {o t len i : Nat} {x : Int32} (ho : sh o = .inr (t, len)) (ht : t = 0 ∨ t = 1 ∨ t = 3) :
    (gW cy ad (n, sh, I, L, R)).set o (ad o, .inl (cy t, len, .inl (upd (I o) i x))) = gW cy ad (n, sh, gset I o (gupd (I o) i x), L, R) := by
  refine gW_set rfl ?_ (fun k _ hne => gE1_I (gset_n hne))
  rw [gE1_arr (t := t) (len := len) ho, gupd_upd]
  rcases ht with rfl | rfl | rfl
  · show (Sum.inl (cy 0, len, Sum.inl (gset I o (gupd (I o) i x) o)) : va_E) = _
    rw [gset_s]
  · show (Sum.inl (cy 1, len, Sum.inl (gset I o (gupd (I o) i x) o)) : va_E) = _
    rw [gset_s]
  · show (Sum.inl (cy 3, len, Sum.inl (gset I o (gupd (I o) i x) o)) : va_E) = _
    rw [gset_s]
theorem gWa_L {cy : Nat → ClassId} {ad : Nat → Nat} {n : Nat} {sh : Nat → gSh} {I : Nat → Nat → Int32} {L : Nat → Nat → Int64} {R : Nat → Nat → Option Nat} {o len i : Nat} {x : Int64} (ho : sh o = .inr (2, len)) :
    (gW cy ad (n, sh, I, L, R)).set o (ad o, .inl (cy 2, len, .inr (.inl (vp_updL (L o) i x)))) = gW cy ad (n, sh, I, gset L o (gupd (L o) i x), R) := by
  refine gW_set rfl ?_ (fun k _ hne => gE1_L (gset_n hne))
  rw [gE1_arr (t := 2) (len := len) ho, gupd_updL]
  show (Sum.inl (cy 2, len, Sum.inr (Sum.inl (gset L o (gupd (L o) i x) o))) : va_E) = _
  rw [gset_s]
theorem gWa_R {cy : Nat → ClassId} {ad : Nat → Nat} {n : Nat} {sh : Nat → gSh} {I : Nat → Nat → Int32} {L : Nat → Nat → Int64} {R : Nat → Nat → Option Nat} {o t len i x : Nat} (ho : sh o = .inr (t, len)) (ht : t = 4 ∨ t = 5) :
    (gW cy ad (n, sh, I, L, R)).set o (ad o, .inl (cy t, len, .inr (.inr (.inr (.inr (va_up (fun j => (R o j).map ad) i (some (ad x)))))))) = gW cy ad (n, sh, I, L, gset R o (gupd (R o) i (some x))) := by
  refine gW_set rfl ?_ (fun k _ hne => gE1_R (gset_n hne))
  have hf : (fun j => (gupd (R o) i (some x) j).map ad) = va_up (fun j => (R o j).map ad) i (some (ad x)) := by
    funext j
    by_cases h : j = i
    · subst h; simp [va_up, gupd_s]
    · simp [va_up, h, gupd_n h]
  rw [gE1_arr (t := t) (len := len) ho]
  rcases ht with rfl | rfl
  · show (Sum.inl (cy 4, len, Sum.inr (Sum.inr (Sum.inr (Sum.inr (fun j => (gset R o (gupd (R o) i (some x)) o j).map ad))))) : va_E) = _
    rw [gset_s, hf]
  · show (Sum.inl (cy 5, len, Sum.inr (Sum.inr (Sum.inr (Sum.inr (fun j => (gset R o (gupd (R o) i (some x)) o j).map ad))))) : va_E) = _
    rw [gset_s, hf]
theorem gWc_I {cy : Nat → ClassId} {ad : Nat → Nat} {n : Nat} {sh : Nat → gSh} {I : Nat → Nat → Int32} {L : Nat → Nat → Int64} {R : Nat → Nat → Option Nat} {o len : Nat} {f : Nat → Int32} (ho : sh o = .inr (0, len)) :
    (gW cy ad (n, sh, I, L, R)).set o (ad o, .inl (cy 0, len, .inl f)) = gW cy ad (n, sh, gset I o f, L, R) := by
  refine gW_set rfl ?_ (fun k _ hne => gE1_I (gset_n hne))
  rw [gE1_arr (t := 0) (len := len) ho]
  show (Sum.inl (cy 0, len, Sum.inl (gset I o f o)) : va_E) = _
  rw [gset_s]
theorem gWc_L {cy : Nat → ClassId} {ad : Nat → Nat} {n : Nat} {sh : Nat → gSh} {I : Nat → Nat → Int32} {L : Nat → Nat → Int64} {R : Nat → Nat → Option Nat} {o len : Nat} {f : Nat → Int64} (ho : sh o = .inr (2, len)) :
    (gW cy ad (n, sh, I, L, R)).set o (ad o, .inl (cy 2, len, .inr (.inl f))) = gW cy ad (n, sh, I, gset L o f, R) := by
  refine gW_set rfl ?_ (fun k _ hne => gE1_L (gset_n hne))
  rw [gE1_arr (t := 2) (len := len) ho]
  show (Sum.inl (cy 2, len, Sum.inr (Sum.inl (gset L o f o))) : va_E) = _
  rw [gset_s]
/-- the world with one cell more -/
theorem gW_born {cy : Nat → ClassId} {ad : Nat → Nat} {u : gS} {x : gSh} {q : Nat} {w : va_E} (hok : gok u) (hlt : u.1 < 900) (hw : gE1 cy (gupd ad u.1 q) (gborn u x) u.1 = w) : gW cy ad u ++ [(q, w)] = gW cy (gupd ad u.1 q) (gborn u x) := by
  obtain ⟨n, sh, I, L, R⟩ := u
  dsimp only at hlt hw ⊢
  have hr : ∀ k j, (R k j).map (gupd ad n q) = (R k j).map ad := fun k j => by
    cases h : R k j with
    | none => rfl
    | some r =>
      have := hok.2.1 k j r h
      dsimp only at this
      simp only [Option.map_some]
      rw [gupd_n (by omega)]
  have hc : ∀ k j, gcv (gupd ad n q) (va_rf (R k j)) = gcv ad (va_rf (R k j)) := fun k j => by
    have := hr k j
    cases h : R k j with
    | none => rfl
    | some r => rw [h] at this; show Value.ref _ = Value.ref _; exact congrArg Value.ref (Option.some.inj this)
  have hold : ∀ k, k < n → gE1 cy (gupd ad n q) (gborn (n, sh, I, L, R) x) k = gE1 cy ad (n, sh, I, L, R) k := fun k hk => by
    have hne : k ≠ n := Nat.ne_of_lt hk
    unfold gE1 gborn
    dsimp only
    rw [gupd_n hne]
    cases sh k with
    | inl ci =>
      dsimp only
      congr 2
      unfold gF
      apply List.map_congr_left
      intro j _
      unfold gv
      dsimp only
      split
      · rw [gset_n hne]; rfl
      · rw [gset_n hne]; rfl
      · rw [gset_n hne]; exact hc k j
    | inr tl =>
      obtain ⟨t, len⟩ := tl
      dsimp only
      congr 2
      unfold gAr
      dsimp only
      congr 1
      split
      · rw [gset_n hne]
      · simp only [gset_n hne, hr]
      · simp only [gset_n hne, hr]
      · rw [gset_n hne]
  apply List.ext_getElem?
  intro k
  have hl : (gW cy ad (n, sh, I, L, R)).length = n := by simp [gW]
  by_cases hk : k < n
  · rw [List.getElem?_append_left (by rw [hl]; exact hk), gW_at (u := (n, sh, I, L, R)) hk, gW_at (u := gborn (n, sh, I, L, R) x) (show k < n + 1 by omega), hold k hk, gupd_n (Nat.ne_of_lt hk)]
  · rw [List.getElem?_append_right (by rw [hl]; omega), hl]
    by_cases hk2 : k = n
    · subst hk2
      rw [gW_at (u := gborn (k, sh, I, L, R) x) (show k < k + 1 by omega), hw, gupd_s]
      simp
    · rw [List.getElem?_eq_none_iff.mpr (by simp; omega), List.getElem?_eq_none_iff.mpr (by simp [gW, gborn]; omega)]
theorem gok_born {u : gS} {x : gSh} (h : gok u) (hlt : u.1 < 900) (hx : glive x = true) : gok (gborn u x) := by
  obtain ⟨n, sh, I, L, R⟩ := u
  dsimp only at hlt
  refine ⟨⟨hlt, fun k hk hk2 => ?_, fun k hk => ?_⟩, fun k j r hr => ?_, fun k hk => ?_⟩
  · have hk' : n + 1 ≤ k := hk
    show gupd sh n x k = _
    rw [gupd_n (by omega)]
    exact h.1.2.1 k (by show n ≤ k; omega) hk2
  · show gupd sh n x k = _
    rw [gupd_n (by omega)]
    exact h.1.2.2 k hk
  · have hr' : gset R n (fun _ => none) k j = some r := hr
    show r < n + 1 ∨ _
    by_cases hk : k = n
    · subst hk; rw [gset_s] at hr'; cases hr'
    · rw [gset_n hk] at hr'
      have := h.2.1 k j r hr'
      dsimp only at this
      omega
  · have hk' : k < n + 1 := hk
    show glive (gupd sh n x k) = true
    by_cases hkn : k = n
    · subst hkn; rw [gupd_s]; exact hx
    · rw [gupd_n hkn]; exact h.2.2 k (by show k < n; omega)
def gdv (kd : Nat) : Value := match kd with
  | 0 => .int 0
  | 1 => .long 0
  | _ => .null
theorem gdv_ok : ∀ ci, ci < 11 → ∀ j, j < gN ci → defaultValue (gTy ci j) = gdv (gkd (gTy ci j)) := by decide +kernel
theorem gF_born {ad : Nat → Nat} {u : gS} {x : gSh} {a : Nat} : gF ad (gborn u x) a u.1 = (List.range (gN a)).map (fun j => gdv (gkd (gTy a j))) := by
  obtain ⟨n, sh, I, L, R⟩ := u
  unfold gF
  apply List.map_congr_left
  intro j _
  generalize gkd (gTy a j) = kd
  match kd with
  | 0 => show Value.int (gset I n (fun _ => 0) n j) = _; rw [gset_s]; rfl
  | 1 => show Value.long (gset L n (fun _ => 0) n j) = _; rw [gset_s]; rfl
  | kd + 2 => show gcv ad (va_rf (gset R n (fun _ => none) n j)) = _; rw [gset_s]; rfl
theorem gci {a : Nat} {q : vw_C} (h : vwCl[a]? = some q) : a < 11 := by
  have := (List.getElem?_eq_some_iff.mp h).1
  simpa [vwCl] using this
-- the premises beside the words, moved
theorem gX.same {E : gEnv} {A : Nat → Prop} {u U : State} (hv : u.vm = U.vm) (hh : u.heap = U.heap) (h : gX E A u) : gX E A U := by
  obtain ⟨h1, ⟨h2, h2'⟩, ⟨h3, h4⟩, ⟨h5, h6⟩, h7, h8⟩ := h
  have hal : u.vm.Alike U.vm := by rw [hv]; exact Vm.Alike.refl U.vm
  rw [hh] at h3 h5 h6 h7 h8
  refine ⟨fun w hw => ?_, ⟨h2.moved hal, h2'.moved hal⟩, ⟨h3.moved hal, fun i q hq => vk_R.same hv.symm (h4 i q hq)⟩, ⟨h5.moved hal, h6.imp (fun z => z.moved hal) (fun z => z.moved hal)⟩, h7.moved hal, h8.moved hal⟩
  refine va_Nw.same ?_ hv (h1 w hw)
  revert w
  exact (by decide +kernel : ∀ w ∈ gNest, w.onTables = true)
theorem gX.go {E : gEnv} {A B : Nat → Prop} {s U : State} {H : Heap} {locs : List Loc} (h : gX E A s) (hW : s.WarmedH U.vm) (hH : U.heap = H) (hS : va_S A s.heap H locs) (hB : ∀ q, B q → A q) : gX E B U := by
  obtain ⟨h1, ⟨h2, h2'⟩, ⟨h3, h4⟩, ⟨h5, h6⟩, h7, h8⟩ := h
  have hal : s.vm.Alike U.vm := hW.alike
  rw [← hH] at hS
  have hq : ∀ a : Nat, a < s.heap.size → ¬ A a → U.heap[a]? = s.heap[a]? := hS.2.1
  refine ⟨fun w hw => ?_, ⟨h2.moved hal, h2'.moved hal⟩, ⟨((h3.kept hq).narrow hB).moved hal, fun i q hi => vk_R.warm hW (h4 i q hi)⟩, ⟨((h5.kept hq).narrow hB).moved hal, h6.imp (fun z => ((z.kept hq).narrow hB).moved hal) (fun z => ((z.kept hq).narrow hB).moved hal)⟩, ((h7.kept hq).narrow hB).moved hal, ((h8.kept hq).narrow hB).moved hal⟩
  have h9 := h1 w hw
  simp only [gNest, List.mem_cons, List.not_mem_nil, or_false] at hw
  rcases hw with rfl | rfl | rfl | rfl | rfl | rfl | rfl | rfl | rfl <;> exact va_Nw.warmM hW h9
end
section
/-- what stays the same on a method's walk -/
def gCx (E : gEnv) (p : Program) (s : State) (m : MethodId) (args : Array Value) (meth : Method) (c : Code) (own : String) (cc : ByteArray) (nL : Nat) (ret : Option FieldType) (ini : Bool) (A : Nat → Prop) : Prop :=
  p.tables.exec = Jvm.exec ∧ c.code = cc ∧ c.maxLocals = nL ∧ s.vm.findClass own = some m.cls ∧ (∀ w ∈ gT, w.before args s = true) ∧ va_K E.2.1 vwCl (gty E.2.2.1) s ∧ meth.locks = false ∧ meth.sig.returnType = ret ∧ (ini = true → meth.name = "<init>") ∧ gX E A s ∧ (∀ q, s.heap.size ≤ q → A q)
/-- the machine, at a point of the walk, comes to Q -/
def gG (E : gEnv) (p : Program) (e : Env) (R : Room) (s : State) (m : MethodId) (args : Array Value) (below : List Frame) (meth : Method) (c : Code) (nL mc : Nat) (A : Nat → Prop) (ad0 : Nat → Nat) (n0 : Nat) (Q : State → Prop) (kc ks pc : Nat) (lv : gLv) (st : List Value) (u : gS) : Prop :=
  ∀ (ad : Nat → Nat) (H : Heap) (locs : List Loc) (ls : Array Slot), ((∀ k, k < n0 ∨ 1000 ≤ k → ad k = ad0 k) ∧ (mc = 0 → ad = ad0)) → va_P E.2.1 vwCl (gW E.2.2.1 ad u) H → va_D A (gW E.2.2.1 ad u) → va_S A s.heap H locs → gok u → n0 ≤ u.1 → gL ad ls nL lv → gnd lv →
    W p E.1 e R s m args below meth c H locs kc ks Q (F0 m pc ls (st.map (gcv ad)))
theorem g1000 {o : Nat} (h1 : 1000 ≤ o) (h2 : o < 1013) : o - 1000 < 13 ∧ 1000 + (o - 1000) = o := by omega
theorem g1100 {o : Nat} (h1 : 1000 ≤ o) : True ∧ o + 100 = 1100 + (o - 1000) := ⟨trivial, by omega⟩
theorem g1100b {o : Nat} (h1 : 1100 ≤ o) (h2 : o < 1113) : o - 1100 < 13 ∧ 1100 + (o - 1100) = o := by omega
theorem gty_at {cy : Nat → ClassId} {t : Nat} (h : t < 6) : (gty cy)[t]? = some (cy t, gtc t) := by
  unfold gty
  rw [List.getElem?_map, List.getElem?_range h]
  rfl
section GS
variable {E : gEnv} {p : Program} {e : Env} {s : State} {m : MethodId} {args : Array Value} {below : List Frame} {meth : Method} {c : Code} {own : String} {cc : ByteArray} {nL d mc ms : Nat} {ret : Option FieldType} {ini : Bool} {ad0 : Nat → Nat} {n0 : Nat} {post : Option Value → gS → Prop} {k : Nat → Nat → Nat → gLv → List Value → gS → Prop}
theorem gz_getfield {Q : State → Prop} {kc ks pc o a b cw idx : Nat} {lv : gLv} {r : List Value} {u : gS} (hC : gCx E p s m args meth c own cc nL ret ini (gA ad0 n0 s.heap.size))
    (hok : (match vwCl[a]? with
      | some q => Nat.blt b q.2.2 && (decide ((q.2.1 b).1 = q.1) && gat cw (.fieldLink own idx q.1 (q.2.1 b).2.1 (q.2.1 b).2.2.1))
      | none => false) = true) (hd : decode cc pc = .ok (.getfield idx, 3)) (ho : u.2.1 o = .inl a)
    (hg : gG E p e (gRm d mc ms) s m args below meth c nL mc (gA ad0 n0 s.heap.size) ad0 n0 Q kc ks (pc + 3) lv (gv u (gkd (gTy a b)) o b :: r) u) :
    gG E p e (gRm d mc ms) s m args below meth c nL mc (gA ad0 n0 s.heap.size) ad0 n0 Q kc ks pc lv (.ref o :: r) u := by
  obtain ⟨hx, hb, hml, hown, hts, hK, hlk, hrt, hini, hX, hA⟩ := hC
  cases hq : vwCl[a]? with
  | none => rw [hq] at hok; cases hok
  | some q =>
    rw [hq] at hok
    simp only [Bool.and_eq_true, decide_eq_true_eq] at hok
    obtain ⟨h1, h2, h3⟩ := hok
    obtain ⟨g1, g2, g3, g4⟩ := gcl hq
    obtain ⟨C, T, N⟩ := q
    dsimp only at h1 h2 h3 g1 g2 g3 g4
    have hbN : b < N := Nat.le_of_ble_eq_true h1
    intro ad H locs ls a1 a2 a3 a4 a5 a6 a7 a8
    exact va_get (C := C) (T := T) (N := N) (ci := a) hx hb hts g4 hown hK a2 o (by rw [gW_at (a5.lt (by have := gci hq; omega) ho), gE1_obj ho]) hq b hbN (hts _ (gat_mem h3)) (fun z hz => by rw [← h2]; exact hz) (gF_at (by rw [← g1]; exact hbN)) hd (hg ad H locs ls a1 a2 a3 a4 a5 a6 a7 a8)
/-- a store into a field: its rows -/
theorem gz_putfield {Q : State → Prop} {kc ks pc o a b cw idx : Nat} {lv : gLv} {r : List Value} {v : Value} {u u' : gS} (hC : gCx E p s m args meth c own cc nL ret ini (gA ad0 n0 s.heap.size))
    (hok : (match vwCl[a]? with
      | some q => Nat.blt b q.2.2 && (decide ((q.2.1 b).1 = q.1) && (gat cw (.fieldLink own idx q.1 (q.2.1 b).2.1 (q.2.1 b).2.2.1) && (!(q.2.1 b).2.2.2 || (ini && decide (q.1 = own)))))
      | none => false) = true) (hd : decode cc pc = .ok (.putfield idx, 3)) (ho : u.2.1 o = .inl a)
    (hn : ∀ ad : Nat → Nat, narrow (gTy a b) (gcv ad v) = gcv ad v) (hf : ∀ ad : Nat → Nat, fits (gTy a b) (gcv ad v) = true)
    (hu : b < gN a → ∀ ad : Nat → Nat, (gW E.2.2.1 ad u).set o (ad o, .inr (a, (gF ad u a o).set b (gcv ad v))) = gW E.2.2.1 ad u') (hok' : gok u → gok u') (hn1 : u'.1 = u.1)
    (hg : gG E p e (gRm d mc ms) s m args below meth c nL mc (gA ad0 n0 s.heap.size) ad0 n0 Q kc ks (pc + 3) lv r u') :
    gG E p e (gRm d mc ms) s m args below meth c nL mc (gA ad0 n0 s.heap.size) ad0 n0 Q kc ks pc lv (v :: .ref o :: r) u := by
  obtain ⟨hx, hb, hml, hown, hts, hK, hlk, hrt, hini, hX, hA⟩ := hC
  cases hq : vwCl[a]? with
  | none => rw [hq] at hok; cases hok
  | some q =>
    rw [hq] at hok
    simp only [Bool.and_eq_true, decide_eq_true_eq] at hok
    obtain ⟨h1, h2, h3, h4⟩ := hok
    obtain ⟨g1, g2, g3, g4⟩ := gcl hq
    obtain ⟨C, T, N⟩ := q
    dsimp only at h1 h2 h3 h4 g1 g2 g3 g4
    have hbN : b < N := Nat.le_of_ble_eq_true h1
    have hbG : b < gN a := by rw [← g1]; exact hbN
    intro ad H locs ls a1 a2 a3 a4 a5 a6 a7 a8
    have he : (gW E.2.2.1 ad u)[o]? = some (ad o, .inr (a, gF ad u a o)) := by rw [gW_at (a5.lt (by have := gci hq; omega) ho), gE1_obj ho]
    have hkk : ∀ (H1 : Heap) (locs1 : List Loc), va_P E.2.1 vwCl ((gW E.2.2.1 ad u).set o (ad o, .inr (a, (gF ad u a o).set b (gcv ad v)))) H1 → va_D (gA ad0 n0 s.heap.size) ((gW E.2.2.1 ad u).set o (ad o, .inr (a, (gF ad u a o).set b (gcv ad v)))) → va_S (gA ad0 n0 s.heap.size) s.heap H1 locs1 → W p E.1 e (gRm d mc ms) s m args below meth c H1 locs1 kc ks Q (F0 m (pc + 3) ls (r.map (gcv ad))) := by
      intro H1 locs1 b1 b2 b3
      rw [hu hbG ad] at b1 b2
      exact hg ad H1 locs1 ls a1 b1 b2 b3 (hok' a5) (by rw [hn1]; exact a6) a7 a8
    cases hfin : (T b).2.2.2 with
    | false => exact va_put (C := C) (T := T) (N := N) (ci := a) (ty := gTy a b) hx hb hts g4 (gTy a) g2 g3 hown hK a2 a3 a4 o he hq b hbN (hts _ (gat_mem h3)) (fun z hz => by rw [← h2]; exact hz) hfin (g2 b hbN) (hn ad) (hf ad) (by rw [gF_len]; exact hbG) hd hkk
    | true =>
      rw [hfin] at h4
      simp only [Bool.not_true, Bool.false_or, Bool.and_eq_true, decide_eq_true_eq] at h4
      exact va_putF (C := C) (T := T) (N := N) (ci := a) (ty := gTy a b) hx hb hts g4 (gTy a) g2 g3 hown hK a2 a3 a4 o he hq b hbN (hts _ (gat_mem h3)) (fun z hz => by rw [← h2]; exact hz) hfin (hini h4.1) (by rw [h2, h4.2]) (g2 b hbN) (hn ad) (hf ad) (by rw [gF_len]; exact hbG) hd hkk
theorem gnz {ad : Nat → Nat} {x : Int32} (h : x = 0 ∨ x = 1) : narrow .boolean (gcv ad (.int x)) = gcv ad (.int x) := by
  rcases h with h | h <;> (rw [h]; show narrow .boolean (.int _) = Value.int _; decide)
theorem gfz {ad : Nat → Nat} {x : Int32} (h : x = 0 ∨ x = 1) : fits .boolean (gcv ad (.int x)) = true := by
  rcases h with h | h <;> (rw [h]; show fits .boolean (.int _) = true; decide)
theorem gz_I (a b : Nat) (h : gfk (gTy a b) = 0) : gTy a b = .int := by
  unfold gfk at h
  split at h <;> first | assumption | cases h
theorem gz_L (a b : Nat) (h : gfk (gTy a b) = 1) : gTy a b = .long := by
  unfold gfk at h
  split at h <;> first | assumption | cases h
theorem gz_Z (a b : Nat) (h : gfk (gTy a b) = 3) : gTy a b = .boolean := by
  unfold gfk at h
  split at h <;> first | assumption | cases h
theorem gz_R (a b : Nat) (h : gfk (gTy a b) = 2) : (∃ n, gTy a b = .object n) ∨ ∃ t, gTy a b = .array t := by
  unfold gfk at h
  split at h <;> first | exact Or.inl ⟨_, by assumption⟩ | exact Or.inr ⟨_, by assumption⟩ | cases h
theorem gok_I {n : Nat} {sh : Nat → gSh} {I I' : Nat → Nat → Int32} {L L' : Nat → Nat → Int64} {R : Nat → Nat → Option Nat} (h : gok (n, sh, I, L, R)) : gok (n, sh, I', L', R) := h
theorem gok_R {n : Nat} {sh : Nat → gSh} {I : Nat → Nat → Int32} {L : Nat → Nat → Int64} {R : Nat → Nat → Option Nat} {o b x : Nat} (h : gok (n, sh, I, L, R)) (hx : x < n ∨ 1000 ≤ x) : gok (n, sh, I, L, gset R o (gupd (R o) b (some x))) := by
  refine ⟨h.1, fun k j r hr => ?_, h.2.2⟩
  dsimp only at hr ⊢
  by_cases hk : k = o
  · subst hk
    rw [gset_s] at hr
    by_cases hj : j = b
    · subst hj; rw [gupd_s] at hr; cases hr; exact hx
    · rw [gupd_n hj] at hr; exact h.2.1 k j r hr
  · rw [gset_n hk] at hr; exact h.2.1 k j r hr
/-- the instructions that are walked apart: news, returns, calls, texts -/
def gIvI (ins : Instr) : Bool := match ins with
  | .new _ => true
  | .newarray _ => true
  | .anewarray _ => true
  | .ireturn => true
  | .lreturn => true
  | .areturn => true
  | .return_ => true
  | .invokevirtual _ => true
  | .invokestatic _ => true
  | .invokespecial _ => true
  | .ldc _ => true
  | _ => false
def gIv (C : List gI) (ca : Nat → List Value → List Nat → gS → Nat → Nat → (Nat → Nat → Option Value → gS → Prop) → Prop) (d : Nat) (ret : Option FieldType) (post : Option Value → gS → Prop) (mc ms : Nat) (k : Nat → Nat → Nat → gLv → List Value → gS → Prop) (kc ks pc : Nat) (lv : gLv) (st : List Value) (u : gS) : Prop :=
  ∃ q : Nat × Instr × (Nat × Nat × Nat) × Value × List (Int32 × Nat), gfind C pc = some q ∧ gIvI q.2.1 = true ∧ gstp C ca d ret post mc ms k kc ks pc lv st u
set_option maxHeartbeats 4000000 in
/-- every instruction does what gstp says: pure ones, fields, arrays -/
theorem gstp_one {C : List gI} {ca : Nat → List Value → List Nat → gS → Nat → Nat → (Nat → Nat → Option Value → gS → Prop) → Prop} (h00 : ∀ k, 1000 ≤ k → ad0 k = E.2.2.2 k) (hC : gCx E p s m args meth c own cc nL ret ini (gA ad0 n0 s.heap.size)) (hT : ∀ r ∈ C, gchk own cc nL ret ini r = true)
    (hk : ∀ kc ks pc lv st u, k kc ks pc lv st u → gG E p e (gRm d mc ms) s m args below meth c nL mc (gA ad0 n0 s.heap.size) ad0 n0 (MQ below (gQc E ad0 n0 s.heap.size mc post) args s mc ms (gA ad0 n0 s.heap.size)) kc ks pc lv st u)
    (hI : ∀ kc ks pc lv st u, gIv C ca d ret post mc ms k kc ks pc lv st u → gG E p e (gRm d mc ms) s m args below meth c nL mc (gA ad0 n0 s.heap.size) ad0 n0 (MQ below (gQc E ad0 n0 s.heap.size mc post) args s mc ms (gA ad0 n0 s.heap.size)) kc ks pc lv st u)
    {kc ks pc : Nat} {lv : gLv} {st : List Value} {u : gS} (h : gstp C ca d ret post mc ms k kc ks pc lv st u) :
    gG E p e (gRm d mc ms) s m args below meth c nL mc (gA ad0 n0 s.heap.size) ad0 n0 (MQ below (gQc E ad0 n0 s.heap.size mc post) args s mc ms (gA ad0 n0 s.heap.size)) kc ks pc lv st u := by
  have hs := h
  obtain ⟨hx, hb, hml, hown, hts, hK, hlk, hrt, hini, hX, hA⟩ := id hC
  unfold gstp at h
  cases hf : gfind C pc with
  | none => rw [hf] at h; exact h.elim
  | some q =>
    obtain ⟨nx, ins, ⟨a, b, cw⟩, v, sw⟩ := q
    rw [hf] at h
    dsimp only at h
    have hok := hT _ (gfind_mem hf)
    unfold gchk at hok
    dsimp only at hok
    have hd : decode cc pc = .ok (ins, nx - pc) := by
      rw [Bool.and_eq_true] at hok
      exact of_decide_eq_true hok.1
    cases ins with
    | iconst n =>
      obtain ⟨rfl, hv⟩ := gk2 hok
      subst hv
      intro ad H locs ls a1 a2 a3 a4 a5 a6 a7 a8
      exact lv_iconst hx hb (by simpa using hd) rfl (hk _ _ _ _ _ _ h ad H locs ls a1 a2 a3 a4 a5 a6 a7 a8)
    | bipush n =>
      obtain ⟨rfl, hv⟩ := gk2 hok
      subst hv
      intro ad H locs ls a1 a2 a3 a4 a5 a6 a7 a8
      exact lv_bipush hx hb (by simpa using hd) rfl (hk _ _ _ _ _ _ h ad H locs ls a1 a2 a3 a4 a5 a6 a7 a8)
    | sipush n =>
      obtain ⟨rfl, hv⟩ := gk2 hok
      subst hv
      intro ad H locs ls a1 a2 a3 a4 a5 a6 a7 a8
      exact lv_sipush hx hb (by simpa using hd) rfl (hk _ _ _ _ _ _ h ad H locs ls a1 a2 a3 a4 a5 a6 a7 a8)
    | lconst n =>
      obtain ⟨rfl, hv⟩ := gk2 hok
      subst hv
      intro ad H locs ls a1 a2 a3 a4 a5 a6 a7 a8
      exact lv_lconst hx hb (by simpa using hd) rfl (hk _ _ _ _ _ _ h ad H locs ls a1 a2 a3 a4 a5 a6 a7 a8)
    | ldc_w i =>
      obtain ⟨rfl, hv⟩ := gk2b hok
      intro ad H locs ls a1 a2 a3 a4 a5 a6 a7 a8
      cases v with
      | int x => exact lv_ldcw hx hb hown (hts _ (gat_mem hv)) (by simpa using hd) (hk _ _ _ _ _ _ h ad H locs ls a1 a2 a3 a4 a5 a6 a7 a8)
      | _ => simp at hv
    | ldc2_w i =>
      obtain ⟨rfl, hv⟩ := gk2b hok
      intro ad H locs ls a1 a2 a3 a4 a5 a6 a7 a8
      cases v with
      | long x => exact lv_ldc2 hx hb hown (hts _ (gat_mem hv)) (by simpa using hd) (hk _ _ _ _ _ _ h ad H locs ls a1 a2 a3 a4 a5 a6 a7 a8)
      | _ => simp at hv
    | iload_n i =>
      have hn := gk1 hok
      subst hn
      obtain ⟨x, hx1, h⟩ := gldi_e h
      intro ad H locs ls a1 a2 a3 a4 a5 a6 a7 a8
      exact lv_iload_n hx hb (by simpa using hd) rfl (a7.at hx1) (hk _ _ _ _ _ _ h ad H locs ls a1 a2 a3 a4 a5 a6 a7 a8)
    | iload i =>
      have hn := gk1 hok
      subst hn
      obtain ⟨x, hx1, h⟩ := gldi_e h
      intro ad H locs ls a1 a2 a3 a4 a5 a6 a7 a8
      exact lv_iload hx hb (by simpa using hd) (a7.at hx1) (hk _ _ _ _ _ _ h ad H locs ls a1 a2 a3 a4 a5 a6 a7 a8)
    | istore_n i =>
      obtain ⟨rfl, hn⟩ := gk2b hok
      obtain ⟨x, r, rfl, h⟩ := g1i_e h
      intro ad H locs ls a1 a2 a3 a4 a5 a6 a7 a8
      exact lv_istore_n hx hb (by simpa using hd) rfl a7.has (Nat.le_of_ble_eq_true hn) rfl (fun ls2 hl2 => hk _ _ _ _ _ _ h ad H locs ls2 a1 a2 a3 a4 a5 a6 (gL.sto1 a8 hl2 rfl) (a8.sto1 (fun z hz => by cases hz)))
    | istore i =>
      obtain ⟨rfl, hn⟩ := gk2b hok
      obtain ⟨x, r, rfl, h⟩ := g1i_e h
      intro ad H locs ls a1 a2 a3 a4 a5 a6 a7 a8
      exact lv_istore hx hb (by simpa using hd) a7.has (Nat.le_of_ble_eq_true hn) rfl (fun ls2 hl2 => hk _ _ _ _ _ _ h ad H locs ls2 a1 a2 a3 a4 a5 a6 (gL.sto1 a8 hl2 rfl) (a8.sto1 (fun z hz => by cases hz)))
    | lload_n i =>
      have hn := gk1 hok
      subst hn
      obtain ⟨x, hx1, h⟩ := gldl_e h
      intro ad H locs ls a1 a2 a3 a4 a5 a6 a7 a8
      exact lv_lload_n hx hb (by simpa using hd) rfl (a7.at hx1) (hk _ _ _ _ _ _ h ad H locs ls a1 a2 a3 a4 a5 a6 a7 a8)
    | lload i =>
      have hn := gk1 hok
      subst hn
      obtain ⟨x, hx1, h⟩ := gldl_e h
      intro ad H locs ls a1 a2 a3 a4 a5 a6 a7 a8
      exact lv_lload hx hb (by simpa using hd) (a7.at hx1) (hk _ _ _ _ _ _ h ad H locs ls a1 a2 a3 a4 a5 a6 a7 a8)
    | lstore_n i =>
      obtain ⟨rfl, hn⟩ := gk2b hok
      obtain ⟨x, r, rfl, h⟩ := g1l_e h
      intro ad H locs ls a1 a2 a3 a4 a5 a6 a7 a8
      exact lv_lstore_n hx hb (by simpa using hd) rfl a7.has (Nat.le_of_ble_eq_true hn) rfl (fun ls2 hl2 => hk _ _ _ _ _ _ h ad H locs ls2 a1 a2 a3 a4 a5 a6 (gL.sto2 a8 hl2 rfl) (a8.sto2 (fun z hz => by cases hz)))
    | lstore i =>
      obtain ⟨rfl, hn⟩ := gk2b hok
      obtain ⟨x, r, rfl, h⟩ := g1l_e h
      intro ad H locs ls a1 a2 a3 a4 a5 a6 a7 a8
      exact lv_lstore hx hb (by simpa using hd) a7.has (Nat.le_of_ble_eq_true hn) rfl (fun ls2 hl2 => hk _ _ _ _ _ _ h ad H locs ls2 a1 a2 a3 a4 a5 a6 (gL.sto2 a8 hl2 rfl) (a8.sto2 (fun z hz => by cases hz)))
    | aload_n i =>
      have hn := gk1 hok
      subst hn
      obtain ⟨x, hx1, h⟩ := gldr_e h
      intro ad H locs ls a1 a2 a3 a4 a5 a6 a7 a8
      exact lv_aload_n hx hb (by simpa using hd) rfl (a7.at hx1) (hk _ _ _ _ _ _ h ad H locs ls a1 a2 a3 a4 a5 a6 a7 a8)
    | aload i =>
      have hn := gk1 hok
      subst hn
      obtain ⟨x, hx1, h⟩ := gldr_e h
      intro ad H locs ls a1 a2 a3 a4 a5 a6 a7 a8
      exact lv_aload hx hb (by simpa using hd) (a7.at hx1) (hk _ _ _ _ _ _ h ad H locs ls a1 a2 a3 a4 a5 a6 a7 a8)
    | astore_n i =>
      obtain ⟨rfl, hn⟩ := gk2b hok
      obtain ⟨x, r, rfl, h⟩ := g1r_e h
      intro ad H locs ls a1 a2 a3 a4 a5 a6 a7 a8
      exact lv_astore_n hx hb (by simpa using hd) rfl a7.has (Nat.le_of_ble_eq_true hn) rfl (fun ls2 hl2 => hk _ _ _ _ _ _ h ad H locs ls2 a1 a2 a3 a4 a5 a6 (gL.sto1 a8 hl2 rfl) (a8.sto1 (fun z hz => by cases hz)))
    | astore i =>
      obtain ⟨rfl, hn⟩ := gk2b hok
      obtain ⟨x, r, rfl, h⟩ := g1r_e h
      intro ad H locs ls a1 a2 a3 a4 a5 a6 a7 a8
      exact lv_astore hx hb (by simpa using hd) a7.has (Nat.le_of_ble_eq_true hn) rfl (fun ls2 hl2 => hk _ _ _ _ _ _ h ad H locs ls2 a1 a2 a3 a4 a5 a6 (gL.sto1 a8 hl2 rfl) (a8.sto1 (fun z hz => by cases hz)))
    | iinc i n =>
      obtain ⟨rfl, hn, hv⟩ := gk3 hok
      subst hv
      obtain ⟨x, hx1, h⟩ := gldi_e h
      obtain ⟨y, r, he, h⟩ := g1i_e h
      cases he
      intro ad H locs ls a1 a2 a3 a4 a5 a6 a7 a8
      obtain ⟨kk, hkk⟩ := List.mem_iff_getElem?.mp (show (i, gcv ad (.int x)) ∈ gas ad 0 lv by have := gas_of (ad := ad) (b := 0) hx1; rwa [Nat.zero_add] at this)
      exact lv_iinc hx hb (by simpa using hd) a7.has hkk rfl (Nat.le_of_ble_eq_true hn) rfl (fun ls2 hl2 => hk _ _ _ _ _ _ h ad H locs ls2 a1 a2 a3 a4 a5 a6 (gL.sto1 a8 hl2 rfl) (a8.sto1 (fun z hz => by cases hz)))
    | iadd =>
      have hn := gk1 hok
      subst hn
      obtain ⟨y, x, r, rfl, h⟩ := g2i_e h
      intro ad H locs ls a1 a2 a3 a4 a5 a6 a7 a8
      exact lv_iadd hx hb (by simpa using hd) (hk _ _ _ _ _ _ h ad H locs ls a1 a2 a3 a4 a5 a6 a7 a8)
    | isub =>
      have hn := gk1 hok
      subst hn
      obtain ⟨y, x, r, rfl, h⟩ := g2i_e h
      intro ad H locs ls a1 a2 a3 a4 a5 a6 a7 a8
      exact lv_isub hx hb (by simpa using hd) (hk _ _ _ _ _ _ h ad H locs ls a1 a2 a3 a4 a5 a6 a7 a8)
    | imul =>
      have hn := gk1 hok
      subst hn
      obtain ⟨y, x, r, rfl, h⟩ := g2i_e h
      intro ad H locs ls a1 a2 a3 a4 a5 a6 a7 a8
      exact lv_imul hx hb (by simpa using hd) (hk _ _ _ _ _ _ h ad H locs ls a1 a2 a3 a4 a5 a6 a7 a8)
    | iand =>
      have hn := gk1 hok
      subst hn
      obtain ⟨y, x, r, rfl, h⟩ := g2i_e h
      intro ad H locs ls a1 a2 a3 a4 a5 a6 a7 a8
      exact lv_iand hx hb (by simpa using hd) (hk _ _ _ _ _ _ h ad H locs ls a1 a2 a3 a4 a5 a6 a7 a8)
    | ior =>
      have hn := gk1 hok
      subst hn
      obtain ⟨y, x, r, rfl, h⟩ := g2i_e h
      intro ad H locs ls a1 a2 a3 a4 a5 a6 a7 a8
      exact lv_ior hx hb (by simpa using hd) (hk _ _ _ _ _ _ h ad H locs ls a1 a2 a3 a4 a5 a6 a7 a8)
    | ixor =>
      have hn := gk1 hok
      subst hn
      obtain ⟨y, x, r, rfl, h⟩ := g2i_e h
      intro ad H locs ls a1 a2 a3 a4 a5 a6 a7 a8
      exact lv_ixor hx hb (by simpa using hd) (hk _ _ _ _ _ _ h ad H locs ls a1 a2 a3 a4 a5 a6 a7 a8)
    | ishl =>
      have hn := gk1 hok
      subst hn
      obtain ⟨y, x, r, rfl, h⟩ := g2i_e h
      intro ad H locs ls a1 a2 a3 a4 a5 a6 a7 a8
      exact lv_ishl hx hb (by simpa using hd) (hk _ _ _ _ _ _ h ad H locs ls a1 a2 a3 a4 a5 a6 a7 a8)
    | ishr =>
      have hn := gk1 hok
      subst hn
      obtain ⟨y, x, r, rfl, h⟩ := g2i_e h
      intro ad H locs ls a1 a2 a3 a4 a5 a6 a7 a8
      exact lv_ishr hx hb (by simpa using hd) (hk _ _ _ _ _ _ h ad H locs ls a1 a2 a3 a4 a5 a6 a7 a8)
    | iushr =>
      have hn := gk1 hok
      subst hn
      obtain ⟨y, x, r, rfl, h⟩ := g2i_e h
      intro ad H locs ls a1 a2 a3 a4 a5 a6 a7 a8
      exact lv_iushr hx hb (by simpa using hd) rfl (hk _ _ _ _ _ _ h ad H locs ls a1 a2 a3 a4 a5 a6 a7 a8)
    | ladd =>
      have hn := gk1 hok
      subst hn
      obtain ⟨y, x, r, rfl, h⟩ := g2l_e h
      intro ad H locs ls a1 a2 a3 a4 a5 a6 a7 a8
      exact lv_ladd hx hb (by simpa using hd) (hk _ _ _ _ _ _ h ad H locs ls a1 a2 a3 a4 a5 a6 a7 a8)
    | lsub =>
      have hn := gk1 hok
      subst hn
      obtain ⟨y, x, r, rfl, h⟩ := g2l_e h
      intro ad H locs ls a1 a2 a3 a4 a5 a6 a7 a8
      exact lv_lsub hx hb (by simpa using hd) (hk _ _ _ _ _ _ h ad H locs ls a1 a2 a3 a4 a5 a6 a7 a8)
    | lmul =>
      have hn := gk1 hok
      subst hn
      obtain ⟨y, x, r, rfl, h⟩ := g2l_e h
      intro ad H locs ls a1 a2 a3 a4 a5 a6 a7 a8
      exact lv_lmul hx hb (by simpa using hd) (hk _ _ _ _ _ _ h ad H locs ls a1 a2 a3 a4 a5 a6 a7 a8)
    | land =>
      have hn := gk1 hok
      subst hn
      obtain ⟨y, x, r, rfl, h⟩ := g2l_e h
      intro ad H locs ls a1 a2 a3 a4 a5 a6 a7 a8
      exact lv_land hx hb (by simpa using hd) (hk _ _ _ _ _ _ h ad H locs ls a1 a2 a3 a4 a5 a6 a7 a8)
    | lor =>
      have hn := gk1 hok
      subst hn
      obtain ⟨y, x, r, rfl, h⟩ := g2l_e h
      intro ad H locs ls a1 a2 a3 a4 a5 a6 a7 a8
      exact lv_lor hx hb (by simpa using hd) (hk _ _ _ _ _ _ h ad H locs ls a1 a2 a3 a4 a5 a6 a7 a8)
    | lxor =>
      have hn := gk1 hok
      subst hn
      obtain ⟨y, x, r, rfl, h⟩ := g2l_e h
      intro ad H locs ls a1 a2 a3 a4 a5 a6 a7 a8
      exact lv_lxor hx hb (by simpa using hd) (hk _ _ _ _ _ _ h ad H locs ls a1 a2 a3 a4 a5 a6 a7 a8)
    | lshl =>
      have hn := gk1 hok
      subst hn
      obtain ⟨y, r1, rfl, h1⟩ := g1i_e h
      obtain ⟨x, r, rfl, h2⟩ := g1l_e h1
      intro ad H locs ls a1 a2 a3 a4 a5 a6 a7 a8
      exact lv_lshl hx hb (by simpa using hd) rfl (hk _ _ _ _ _ _ h2 ad H locs ls a1 a2 a3 a4 a5 a6 a7 a8)
    | lshr =>
      have hn := gk1 hok
      subst hn
      obtain ⟨y, r1, rfl, h1⟩ := g1i_e h
      obtain ⟨x, r, rfl, h2⟩ := g1l_e h1
      intro ad H locs ls a1 a2 a3 a4 a5 a6 a7 a8
      exact lv_lshr hx hb (by simpa using hd) rfl (hk _ _ _ _ _ _ h2 ad H locs ls a1 a2 a3 a4 a5 a6 a7 a8)
    | lushr =>
      have hn := gk1 hok
      subst hn
      obtain ⟨y, r1, rfl, h1⟩ := g1i_e h
      obtain ⟨x, r, rfl, h2⟩ := g1l_e h1
      intro ad H locs ls a1 a2 a3 a4 a5 a6 a7 a8
      exact lv_lushr hx hb (by simpa using hd) rfl (hk _ _ _ _ _ _ h2 ad H locs ls a1 a2 a3 a4 a5 a6 a7 a8)
    | idiv =>
      have hn := gk1 hok
      subst hn
      obtain ⟨y, x, r, rfl, h0, h⟩ := g2i_e h
      intro ad H locs ls a1 a2 a3 a4 a5 a6 a7 a8
      exact lv_idiv hx hb (by simpa using hd) h0 (hk _ _ _ _ _ _ h ad H locs ls a1 a2 a3 a4 a5 a6 a7 a8)
    | irem =>
      have hn := gk1 hok
      subst hn
      obtain ⟨y, x, r, rfl, h0, h⟩ := g2i_e h
      intro ad H locs ls a1 a2 a3 a4 a5 a6 a7 a8
      exact lv_irem hx hb (by simpa using hd) h0 (hk _ _ _ _ _ _ h ad H locs ls a1 a2 a3 a4 a5 a6 a7 a8)
    | ineg =>
      have hn := gk1 hok
      subst hn
      obtain ⟨x, r, rfl, h⟩ := g1i_e h
      intro ad H locs ls a1 a2 a3 a4 a5 a6 a7 a8
      exact lv_ineg hx hb (by simpa using hd) (hk _ _ _ _ _ _ h ad H locs ls a1 a2 a3 a4 a5 a6 a7 a8)
    | i2l =>
      have hn := gk1 hok
      subst hn
      obtain ⟨x, r, rfl, h⟩ := g1i_e h
      intro ad H locs ls a1 a2 a3 a4 a5 a6 a7 a8
      exact lv_i2l hx hb (by simpa using hd) rfl (hk _ _ _ _ _ _ h ad H locs ls a1 a2 a3 a4 a5 a6 a7 a8)
    | l2i =>
      have hn := gk1 hok
      subst hn
      obtain ⟨x, r, rfl, h⟩ := g1l_e h
      intro ad H locs ls a1 a2 a3 a4 a5 a6 a7 a8
      exact lv_l2i hx hb (by simpa using hd) rfl (hk _ _ _ _ _ _ h ad H locs ls a1 a2 a3 a4 a5 a6 a7 a8)
    | i2b =>
      have hn := gk1 hok
      subst hn
      obtain ⟨x, r, rfl, h⟩ := g1i_e h
      intro ad H locs ls a1 a2 a3 a4 a5 a6 a7 a8
      exact lv_i2b hx hb (by simpa using hd) rfl (hk _ _ _ _ _ _ h ad H locs ls a1 a2 a3 a4 a5 a6 a7 a8)
    | i2s =>
      have hn := gk1 hok
      subst hn
      obtain ⟨x, r, rfl, h⟩ := g1i_e h
      intro ad H locs ls a1 a2 a3 a4 a5 a6 a7 a8
      exact lv_i2s hx hb (by simpa using hd) rfl (hk _ _ _ _ _ _ h ad H locs ls a1 a2 a3 a4 a5 a6 a7 a8)
    | i2c =>
      have hn := gk1 hok
      subst hn
      obtain ⟨x, r, rfl, h⟩ := g1i_e h
      intro ad H locs ls a1 a2 a3 a4 a5 a6 a7 a8
      exact lv_i2c hx hb (by simpa using hd) rfl (hk _ _ _ _ _ _ h ad H locs ls a1 a2 a3 a4 a5 a6 a7 a8)
    | lcmp =>
      have hn := gk1 hok
      subst hn
      obtain ⟨y, x, r, rfl, h⟩ := g2l_e h
      intro ad H locs ls a1 a2 a3 a4 a5 a6 a7 a8
      exact W.lcmp hx hb (by simpa using hd) (hk _ _ _ _ _ _ h ad H locs ls a1 a2 a3 a4 a5 a6 a7 a8)
    | dup =>
      have hn := gk1 hok
      subst hn
      obtain ⟨w, r, rfl, hc, hc2, h⟩ := g1v_e h
      intro ad H locs ls a1 a2 a3 a4 a5 a6 a7 a8
      exact lv_dup hx hb (by simpa using hd) (hc2 ad) (hk _ _ _ _ _ _ h ad H locs ls a1 a2 a3 a4 a5 a6 a7 a8)
    | pop =>
      have hn := gk1 hok
      subst hn
      obtain ⟨w, r, rfl, hc, hc2, h⟩ := g1v_e h
      intro ad H locs ls a1 a2 a3 a4 a5 a6 a7 a8
      exact lv_pop hx hb (by simpa using hd) (hc2 ad) (hk _ _ _ _ _ _ h ad H locs ls a1 a2 a3 a4 a5 a6 a7 a8)
    | dup_x1 =>
      have hn := gk1 hok
      subst hn
      obtain ⟨w, r1, rfl, hc, hc2, h1⟩ := g1v_e h
      obtain ⟨z, r, rfl, hc3, hc4, h2⟩ := g1v_e h1
      intro ad H locs ls a1 a2 a3 a4 a5 a6 a7 a8
      exact lv_dup_x1 hx hb (by simpa using hd) (hc2 ad) (hc4 ad) (hk _ _ _ _ _ _ h2 ad H locs ls a1 a2 a3 a4 a5 a6 a7 a8)
    | dup2 =>
      have hn := gk1 hok
      subst hn
      obtain ⟨w, r1, rfl, hc, hc2, h1⟩ := g1v_e h
      obtain ⟨z, r, rfl, hc3, hc4, h2⟩ := g1v_e h1
      intro ad H locs ls a1 a2 a3 a4 a5 a6 a7 a8
      exact lv_dup2_11 hx hb (by simpa using hd) (hc2 ad) (hc4 ad) (hk _ _ _ _ _ _ h2 ad H locs ls a1 a2 a3 a4 a5 a6 a7 a8)
    | ifCond cn off =>
      obtain ⟨rfl, ht⟩ := gk2 hok
      cases cn with
      | eq =>
        obtain ⟨x, r, rfl, h⟩ := g1i_e h
        intro ad H locs ls a1 a2 a3 a4 a5 a6 a7 a8
        exact lv_if_eq hx hb (by simpa using hd) ht (fun z => hk _ _ _ _ _ _ (h.1 z) ad H locs ls a1 a2 a3 a4 a5 a6 a7 a8) (fun z => hk _ _ _ _ _ _ (h.2 z) ad H locs ls a1 a2 a3 a4 a5 a6 a7 a8)
      | ne =>
        obtain ⟨x, r, rfl, h⟩ := g1i_e h
        intro ad H locs ls a1 a2 a3 a4 a5 a6 a7 a8
        exact lv_if_ne hx hb (by simpa using hd) ht (fun z => hk _ _ _ _ _ _ (h.1 z) ad H locs ls a1 a2 a3 a4 a5 a6 a7 a8) (fun z => hk _ _ _ _ _ _ (h.2 z) ad H locs ls a1 a2 a3 a4 a5 a6 a7 a8)
      | lt =>
        obtain ⟨x, r, rfl, h⟩ := g1i_e h
        intro ad H locs ls a1 a2 a3 a4 a5 a6 a7 a8
        exact lv_if_lt hx hb (by simpa using hd) ht (fun z => hk _ _ _ _ _ _ (h.1 z) ad H locs ls a1 a2 a3 a4 a5 a6 a7 a8) (fun z => hk _ _ _ _ _ _ (h.2 z) ad H locs ls a1 a2 a3 a4 a5 a6 a7 a8)
      | ge =>
        obtain ⟨x, r, rfl, h⟩ := g1i_e h
        intro ad H locs ls a1 a2 a3 a4 a5 a6 a7 a8
        exact lv_if_ge hx hb (by simpa using hd) ht (fun z => hk _ _ _ _ _ _ (h.1 z) ad H locs ls a1 a2 a3 a4 a5 a6 a7 a8) (fun z => hk _ _ _ _ _ _ (h.2 z) ad H locs ls a1 a2 a3 a4 a5 a6 a7 a8)
      | gt =>
        obtain ⟨x, r, rfl, h⟩ := g1i_e h
        intro ad H locs ls a1 a2 a3 a4 a5 a6 a7 a8
        exact lv_if_gt hx hb (by simpa using hd) ht (fun z => hk _ _ _ _ _ _ (h.1 z) ad H locs ls a1 a2 a3 a4 a5 a6 a7 a8) (fun z => hk _ _ _ _ _ _ (h.2 z) ad H locs ls a1 a2 a3 a4 a5 a6 a7 a8)
      | le =>
        obtain ⟨x, r, rfl, h⟩ := g1i_e h
        intro ad H locs ls a1 a2 a3 a4 a5 a6 a7 a8
        exact lv_if_le hx hb (by simpa using hd) ht (fun z => hk _ _ _ _ _ _ (h.1 z) ad H locs ls a1 a2 a3 a4 a5 a6 a7 a8) (fun z => hk _ _ _ _ _ _ (h.2 z) ad H locs ls a1 a2 a3 a4 a5 a6 a7 a8)
    | if_icmp cn off =>
      obtain ⟨rfl, ht⟩ := gk2 hok
      cases cn with
      | eq =>
        obtain ⟨y, x, r, rfl, h⟩ := g2i_e h
        intro ad H locs ls a1 a2 a3 a4 a5 a6 a7 a8
        exact lv_icmp_eq hx hb (by simpa using hd) ht (fun z => hk _ _ _ _ _ _ (h.1 z) ad H locs ls a1 a2 a3 a4 a5 a6 a7 a8) (fun z => hk _ _ _ _ _ _ (h.2 z) ad H locs ls a1 a2 a3 a4 a5 a6 a7 a8)
      | ne =>
        obtain ⟨y, x, r, rfl, h⟩ := g2i_e h
        intro ad H locs ls a1 a2 a3 a4 a5 a6 a7 a8
        exact lv_icmp_ne hx hb (by simpa using hd) ht (fun z => hk _ _ _ _ _ _ (h.1 z) ad H locs ls a1 a2 a3 a4 a5 a6 a7 a8) (fun z => hk _ _ _ _ _ _ (h.2 z) ad H locs ls a1 a2 a3 a4 a5 a6 a7 a8)
      | lt =>
        obtain ⟨y, x, r, rfl, h⟩ := g2i_e h
        intro ad H locs ls a1 a2 a3 a4 a5 a6 a7 a8
        exact lv_icmp_lt hx hb (by simpa using hd) ht (fun z => hk _ _ _ _ _ _ (h.1 z) ad H locs ls a1 a2 a3 a4 a5 a6 a7 a8) (fun z => hk _ _ _ _ _ _ (h.2 z) ad H locs ls a1 a2 a3 a4 a5 a6 a7 a8)
      | ge =>
        obtain ⟨y, x, r, rfl, h⟩ := g2i_e h
        intro ad H locs ls a1 a2 a3 a4 a5 a6 a7 a8
        exact lv_icmp_ge hx hb (by simpa using hd) ht (fun z => hk _ _ _ _ _ _ (h.1 z) ad H locs ls a1 a2 a3 a4 a5 a6 a7 a8) (fun z => hk _ _ _ _ _ _ (h.2 z) ad H locs ls a1 a2 a3 a4 a5 a6 a7 a8)
      | gt =>
        obtain ⟨y, x, r, rfl, h⟩ := g2i_e h
        intro ad H locs ls a1 a2 a3 a4 a5 a6 a7 a8
        exact lv_icmp_gt hx hb (by simpa using hd) ht (fun z => hk _ _ _ _ _ _ (h.1 z) ad H locs ls a1 a2 a3 a4 a5 a6 a7 a8) (fun z => hk _ _ _ _ _ _ (h.2 z) ad H locs ls a1 a2 a3 a4 a5 a6 a7 a8)
      | le =>
        obtain ⟨y, x, r, rfl, h⟩ := g2i_e h
        intro ad H locs ls a1 a2 a3 a4 a5 a6 a7 a8
        exact lv_icmp_le hx hb (by simpa using hd) ht (fun z => hk _ _ _ _ _ _ (h.1 z) ad H locs ls a1 a2 a3 a4 a5 a6 a7 a8) (fun z => hk _ _ _ _ _ _ (h.2 z) ad H locs ls a1 a2 a3 a4 a5 a6 a7 a8)
    | goto off =>
      obtain ⟨rfl, ht⟩ := gk2 hok
      intro ad H locs ls a1 a2 a3 a4 a5 a6 a7 a8
      exact lv_goto hx hb (by simpa using hd) ht (hk _ _ _ _ _ _ h ad H locs ls a1 a2 a3 a4 a5 a6 a7 a8)
    | ifnonnull off =>
      obtain ⟨rfl, ht⟩ := gk2 hok
      dsimp only at h
      split at h
      · intro ad H locs ls a1 a2 a3 a4 a5 a6 a7 a8
        exact lv_ifnonnull hx hb (by simpa using hd) ht (hk _ _ _ _ _ _ h ad H locs ls a1 a2 a3 a4 a5 a6 a7 a8)
      · intro ad H locs ls a1 a2 a3 a4 a5 a6 a7 a8
        exact lv_ifnonnullN hx hb (by simpa using hd) (hk _ _ _ _ _ _ h ad H locs ls a1 a2 a3 a4 a5 a6 a7 a8)
      · exact h.elim
    | tableswitch df lo hi offs =>
      obtain ⟨x, r, rfl, h⟩ := g1i_e h
      intro ad H locs ls a1 a2 a3 a4 a5 a6 a7 a8
      exact gsw_table hx hb hd (gk2i hok) h (fun t ht => hk _ _ _ _ _ _ ht ad H locs ls a1 a2 a3 a4 a5 a6 a7 a8)
    | lookupswitch df ps =>
      obtain ⟨x, r, rfl, h⟩ := g1i_e h
      intro ad H locs ls a1 a2 a3 a4 a5 a6 a7 a8
      exact gsw_lookup hx hb hd (gk2i hok) h (fun t ht => hk _ _ _ _ _ _ ht ad H locs ls a1 a2 a3 a4 a5 a6 a7 a8)
    | getstatic idx =>
      obtain ⟨rfl, hv⟩ := gk2b hok
      have hd3 : decode cc pc = .ok (.getstatic idx, 3) := by simpa using hd
      intro ad H locs ls a1 a2 a3 a4 a5 a6 a7 a8
      split at hv
      · have K := hk _ _ _ _ _ _ h ad H locs ls a1 a2 a3 a4 a5 a6 a7 a8
        have e1 : gcv ad (.ref 1200) = .ref (E.2.2.2 1200) := by show Value.ref _ = _; rw [a1.1 _ (Or.inr (by omega)), h00 _ (by omega)]
        rw [List.map_cons, e1] at K
        exact va_gets hx hb hX.2.2.2.2.1 a4 hown (hts _ (gat_mem hv)) (fun z hz => hz) hd3 K
      · exact va_gets hx hb hX.2.2.2.1.1 a4 hown (hts _ (gat_mem hv)) (fun z hz => hz) hd3 (hk _ _ _ _ _ _ h ad H locs ls a1 a2 a3 a4 a5 a6 a7 a8)
      · have hh : k kc ks (pc + 3) lv (.null :: st) u ∧ k kc ks (pc + 3) lv (.ref 1300 :: st) u := by assumption
        have K2 := hk _ _ _ _ _ _ (hh.2) ad H locs ls a1 a2 a3 a4 a5 a6 a7 a8
        have e1 : gcv ad (.ref 1300) = .ref (E.2.2.2 1300) := by show Value.ref _ = _; rw [a1.1 _ (Or.inr (by omega)), h00 _ (by omega)]
        rw [List.map_cons, e1] at K2
        rcases hX.2.2.2.1.2 with hz | hz
        · exact va_gets hx hb hz a4 hown (hts _ (gat_mem hv)) (fun z hz => hz) hd3 (hk _ _ _ _ _ _ (hh.1) ad H locs ls a1 a2 a3 a4 a5 a6 a7 a8)
        · exact va_gets hx hb hz a4 hown (hts _ (gat_mem hv)) (fun z hz => hz) hd3 K2
      · cases hv
    | getfield idx =>
      obtain ⟨rfl, hf2⟩ := gk2b hok
      obtain ⟨o, r, rfl, h1⟩ := g1r_e h
      obtain ⟨ho, h2⟩ := gobj_e h1
      have hd3 : decode cc pc = .ok (.getfield idx, 3) := by simpa using hd
      cases ha : Nat.beq a 20 with
      | false =>
        rw [ha] at hf2
        have hne : a ≠ 20 := fun z => by subst z; cases ha
        have hgg : ggf u a b o = gv u (gkd (gTy a b)) o b := by unfold ggf; split <;> first | exact absurd rfl hne | rfl
        rw [hgg] at h2
        exact gz_getfield hC hf2 hd3 ho (hk _ _ _ _ _ _ h2)
      | true =>
        rw [ha] at hf2
        have ha2 := Nat.eq_of_beq_eq_true ha
        subst ha2
        intro ad H locs ls a1 a2 a3 a4 a5 a6 a7 a8
        obtain ⟨o1, o2⟩ := a5.str ho
        have hS := hX.2.2.1.1.1 (o - 1000) (g1000 o1 o2).1
        dsimp only at hS
        rw [(g1000 o1 o2).2] at hS
        have hao : ad o = E.2.2.2 o := by rw [a1.1 o (Or.inr o1), h00 o o1]
        have K := hk _ _ _ _ _ _ h2 ad H locs ls a1 a2 a3 a4 a5 a6 a7 a8
        cases b with
        | zero =>
          have hg : W p E.1 e (gRm d mc ms) s m args below meth c H locs kc ks (MQ below (gQc E ad0 n0 s.heap.size mc post) args s mc ms (gA ad0 n0 s.heap.size)) (F0 m pc ls (.ref (E.2.2.2 o) :: r.map (gcv ad))) := vk_getf hx hb hS.2.1 a4 hown (hts _ (gat_mem hf2)) (fun z hz => hz) hd3 K
          rw [← hao] at hg
          exact hg
        | succ b =>
          have e1 : gcv ad (.ref (o + 100)) = .ref (E.2.2.2 (1100 + (o - 1000))) := by show Value.ref _ = _; rw [a1.1 _ (Or.inr (by omega)), h00 _ (by omega), (g1100 o1).2]
          rw [List.map_cons, show ggf u 20 (b + 1) o = .ref (o + 100) from rfl, e1] at K
          have hg : W p E.1 e (gRm d mc ms) s m args below meth c H locs kc ks (MQ below (gQc E ad0 n0 s.heap.size mc post) args s mc ms (gA ad0 n0 s.heap.size)) (F0 m pc ls (.ref (E.2.2.2 o) :: r.map (gcv ad))) := vk_getf hx hb hS.2.2.1 a4 hown (hts _ (gat_mem hf2)) (fun z hz => hz) hd3 K
          rw [← hao] at hg
          exact hg
    | putfield idx =>
      obtain ⟨rfl, hf2⟩ := gk2b hok
      have hd3 : decode cc pc = .ok (.putfield idx, 3) := by simpa using hd
      obtain ⟨n, sh, I, L, R⟩ := u
      have h0 : gputf a b (fun u st => k kc ks (pc + 3) lv st u) st (n, sh, I, L, R) := h
      unfold gputf at h0
      split at h0
      · rename_i hk0
        have ht := gz_I a b hk0
        obtain ⟨x, r, rfl, h1⟩ := g1i_e h0
        obtain ⟨o, r, rfl, h2⟩ := g1r_e h1
        obtain ⟨ho, h3⟩ := gobj_e h2
        exact gz_putfield (v := .int x) hC hf2 hd3 ho (fun _ => by rw [ht]; rfl) (fun _ => by rw [ht]; rfl) (fun hb ad => gWf_I ho hb (by rw [ht]; rfl)) gok_I rfl (hk _ _ _ _ _ _ h3)
      · rename_i hk0
        have ht := gz_L a b hk0
        obtain ⟨x, r, rfl, h1⟩ := g1l_e h0
        obtain ⟨o, r, rfl, h2⟩ := g1r_e h1
        obtain ⟨ho, h3⟩ := gobj_e h2
        exact gz_putfield (v := .long x) hC hf2 hd3 ho (fun _ => by rw [ht]; rfl) (fun _ => by rw [ht]; rfl) (fun hb ad => gWf_L ho hb (by rw [ht]; rfl)) gok_I rfl (hk _ _ _ _ _ _ h3)
      · rename_i hk0
        have ht := gz_R a b hk0
        obtain ⟨x, r, rfl, h1⟩ := g1r_e h0
        obtain ⟨o, r, rfl, h2⟩ := g1r_e h1
        obtain ⟨ho, hlt, h3⟩ := gobj_e h2
        exact gz_putfield (v := .ref x) hC hf2 hd3 ho (fun _ => by rcases ht with ⟨_, ht⟩ | ⟨_, ht⟩ <;> (rw [ht]; rfl)) (fun _ => by rcases ht with ⟨_, ht⟩ | ⟨_, ht⟩ <;> (rw [ht]; rfl)) (fun hb ad => gWf_R ho hb (by rcases ht with ⟨_, ht⟩ | ⟨_, ht⟩ <;> (rw [ht]; rfl))) (fun hg => gok_R hg hlt) rfl (hk _ _ _ _ _ _ h3)
      · rename_i hk0
        have ht := gz_Z a b hk0
        obtain ⟨x, r, rfl, h1⟩ := g1i_e h0
        obtain ⟨o, r, rfl, h2⟩ := g1r_e h1
        obtain ⟨ho, hz, h3⟩ := gobj_e h2
        exact gz_putfield (v := .int x) hC hf2 hd3 ho (fun _ => by rw [ht]; exact gnz hz) (fun _ => by rw [ht]; exact gfz hz) (fun hb ad => gWf_I ho hb (by rw [ht]; rfl)) gok_I rfl (hk _ _ _ _ _ _ h3)
      · exact h0.elim
    | iaload =>
      have hn := gk1 hok
      subst hn
      obtain ⟨i, r, rfl, h1⟩ := g1i_e h
      obtain ⟨o, r, rfl, h2⟩ := g1r_e h1
      obtain ⟨len, h3⟩ := garri_e h2
      intro ad H locs ls a1 a2 a3 a4 a5 a6 a7 a8
      rcases h3 with ⟨ho, hin, hq⟩ | ⟨ho, hin, hq⟩
      · exact va_iald hx hb hK a2 o 0 (by rw [gW_at (a5.lta (by omega) ho), gE1_arr ho]; rfl) (gty_at (by omega)) hin (by simpa using hd) (hk _ _ _ _ _ _ hq ad H locs ls a1 a2 a3 a4 a5 a6 a7 a8)
      · have ho2 := a5.und ho
        subst ho2
        have hg := va_ti (f := fun j => .int (gUNDER j)) (i := i) hx hb hX.2.2.2.2.2 a4 hin rfl (by simpa using hd) (hk _ _ _ _ _ _ hq ad H locs ls a1 a2 a3 a4 a5 a6 a7 a8)
        have e1 : ad 1200 = E.2.2.2 1200 := by rw [a1.1 _ (Or.inr (by omega)), h00 _ (by omega)]
        rw [← e1] at hg
        exact hg
    | laload =>
      have hn := gk1 hok
      subst hn
      obtain ⟨i, r, rfl, h1⟩ := g1i_e h
      obtain ⟨o, r, rfl, h2⟩ := g1r_e h1
      obtain ⟨len, ho, hin, h3⟩ := garr_e h2
      intro ad H locs ls a1 a2 a3 a4 a5 a6 a7 a8
      exact va_lald hx hb hK a2 o 2 (by rw [gW_at (a5.lta (by omega) ho), gE1_arr ho]; rfl) (gty_at (by omega)) hin (by simpa using hd) (hk _ _ _ _ _ _ h3 ad H locs ls a1 a2 a3 a4 a5 a6 a7 a8)
    | baload =>
      have hn := gk1 hok
      subst hn
      obtain ⟨i, r, rfl, h1⟩ := g1i_e h
      obtain ⟨o, r, rfl, h2⟩ := g1r_e h1
      obtain ⟨len, h3⟩ := garrb_e h2
      intro ad H locs ls a1 a2 a3 a4 a5 a6 a7 a8
      rcases h3 with ⟨ho, hin, hq⟩ | ⟨ho, hin, hq⟩
      · rcases ho with ho | ho
        · exact va_bald hx hb hK a2 o 1 (by rw [gW_at (a5.lta (by omega) ho), gE1_arr ho]; rfl) (gty_at (by omega)) hin (by simpa using hd) (hk _ _ _ _ _ _ hq ad H locs ls a1 a2 a3 a4 a5 a6 a7 a8)
        · exact va_zald hx hb hK a2 o 3 (by rw [gW_at (a5.lta (by omega) ho), gE1_arr ho]; rfl) (gty_at (by omega)) hin (by simpa using hd) (hk _ _ _ _ _ _ hq ad H locs ls a1 a2 a3 a4 a5 a6 a7 a8)
      · obtain ⟨o1, o2, o3⟩ := a5.byt ho
        have hT2 := (hX.2.2.1.1.1 (o - 1100) (g1100b o1 o2).1).2.2.2
        dsimp only at hT2
        rw [(g1100b o1 o2).2, ← o3] at hT2
        have hg := va_tb (i := i) hx hb hT2 a4 hin rfl (by simpa using hd) (hk _ _ _ _ _ _ hq ad H locs ls a1 a2 a3 a4 a5 a6 a7 a8)
        have e1 : ad o = E.2.2.2 o := by rw [a1.1 _ (Or.inr (by omega)), h00 _ (by omega)]
        rw [← e1] at hg
        exact hg
    | aaload =>
      have hn := gk1 hok
      subst hn
      obtain ⟨i, r, rfl, h1⟩ := g1i_e h
      obtain ⟨o, r, rfl, h2⟩ := g1r_e h1
      obtain ⟨len, ho, hin, h3⟩ := garrq_e h2
      intro ad H locs ls a1 a2 a3 a4 a5 a6 a7 a8
      have hg := hk _ _ _ _ _ _ h3 ad H locs ls a1 a2 a3 a4 a5 a6 a7 a8
      have hv : gcv ad (va_rf (u.2.2.2.2 o i.toNatClampNeg)) = va_rf ((u.2.2.2.2 o i.toNatClampNeg).map ad) := by cases u.2.2.2.2 o i.toNatClampNeg <;> rfl
      rw [List.map_cons, hv] at hg
      rcases ho with ho | ho
      · exact va_aldq (C := RX4) (f := fun j => (u.2.2.2.2 o j).map ad) hx hb hK a2 o 4 (by rw [gW_at (a5.lta (by omega) ho), gE1_arr ho]; rfl) (gty_at (by omega)) hin (by simpa using hd) hg
      · exact va_aldq (C := RX7) (f := fun j => (u.2.2.2.2 o j).map ad) hx hb hK a2 o 5 (by rw [gW_at (a5.lta (by omega) ho), gE1_arr ho]; rfl) (gty_at (by omega)) hin (by simpa using hd) hg
    | iastore =>
      have hn := gk1 hok
      subst hn
      obtain ⟨x, i, r, rfl, h1⟩ := g2i_e h
      obtain ⟨o, r, rfl, h2⟩ := g1r_e h1
      obtain ⟨len, ho, hin, h3⟩ := garr_e h2
      obtain ⟨n, sh, I, L, R⟩ := u
      intro ad H locs ls a1 a2 a3 a4 a5 a6 a7 a8
      refine va_iast hx hb hK a2 a3 a4 o 0 (by rw [gW_at (a5.lta (by omega) ho), gE1_arr ho]; rfl) (gty_at (by omega)) hin (by simpa using hd) (fun H1 locs1 b1 b2 b3 => ?_)
      have hW := gWa_I (cy := E.2.2.1) (ad := ad) (n := n) (I := I) (L := L) (R := R) (i := i.toNatClampNeg) (x := x) ho (Or.inl rfl)
      exact hk _ _ _ _ _ _ h3 ad H1 locs1 ls a1 (hW ▸ b1) (hW ▸ b2) b3 (gok_I a5) a6 a7 a8
    | lastore =>
      have hn := gk1 hok
      subst hn
      obtain ⟨x, r, rfl, h1⟩ := g1l_e h
      obtain ⟨i, r, rfl, h2⟩ := g1i_e h1
      obtain ⟨o, r, rfl, h3⟩ := g1r_e h2
      obtain ⟨len, ho, hin, h4⟩ := garr_e h3
      obtain ⟨n, sh, I, L, R⟩ := u
      intro ad H locs ls a1 a2 a3 a4 a5 a6 a7 a8
      refine va_last hx hb hK a2 a3 a4 o 2 (by rw [gW_at (a5.lta (by omega) ho), gE1_arr ho]; rfl) (gty_at (by omega)) hin (by simpa using hd) (fun H1 locs1 b1 b2 b3 => ?_)
      have hW := gWa_L (cy := E.2.2.1) (ad := ad) (n := n) (I := I) (L := L) (R := R) (i := i.toNatClampNeg) (x := x) ho
      exact hk _ _ _ _ _ _ h4 ad H1 locs1 ls a1 (hW ▸ b1) (hW ▸ b2) b3 (gok_I a5) a6 a7 a8
    | bastore =>
      have hn := gk1 hok
      subst hn
      obtain ⟨x, i, r, rfl, h1⟩ := g2i_e h
      obtain ⟨o, r, rfl, h2⟩ := g1r_e h1
      obtain ⟨len, h3⟩ := gbst_e h2
      obtain ⟨n, sh, I, L, R⟩ := u
      intro ad H locs ls a1 a2 a3 a4 a5 a6 a7 a8
      rcases h3 with ⟨ho, hin, hq⟩ | ⟨ho, hin, hq⟩
      · refine va_bast hx hb hK a2 a3 a4 o 1 (by rw [gW_at (a5.lta (by omega) ho), gE1_arr ho]; rfl) (gty_at (by omega)) hin (by simpa using hd) (fun H1 locs1 b1 b2 b3 => ?_)
        have hW := gWa_I (cy := E.2.2.1) (ad := ad) (n := n) (I := I) (L := L) (R := R) (i := i.toNatClampNeg) (x := vp_nar .byte x) ho (Or.inr (Or.inl rfl))
        exact hk _ _ _ _ _ _ hq ad H1 locs1 ls a1 (hW ▸ b1) (hW ▸ b2) b3 (gok_I a5) a6 a7 a8
      · refine va_zast hx hb hK a2 a3 a4 o 3 (by rw [gW_at (a5.lta (by omega) ho), gE1_arr ho]; rfl) (gty_at (by omega)) hin (by simpa using hd) (fun H1 locs1 b1 b2 b3 => ?_)
        have hW := gWa_I (cy := E.2.2.1) (ad := ad) (n := n) (I := I) (L := L) (R := R) (i := i.toNatClampNeg) (x := vp_nar .boolean x) ho (Or.inr (Or.inr rfl))
        exact hk _ _ _ _ _ _ hq ad H1 locs1 ls a1 (hW ▸ b1) (hW ▸ b2) b3 (gok_I a5) a6 a7 a8
    | aastore =>
      have hn := gk1 hok
      subst hn
      obtain ⟨x, r, rfl, h1⟩ := g1r_e h
      obtain ⟨i, r, rfl, h2⟩ := g1i_e h1
      obtain ⟨o, r, rfl, h3⟩ := g1r_e h2
      obtain ⟨len, ho, hin, h4⟩ := gqst_e h3
      obtain ⟨n, sh, I, L, R⟩ := u
      intro ad H locs ls a1 a2 a3 a4 a5 a6 a7 a8
      rcases ho with ⟨ho, hxx⟩ | ⟨ho, hxx⟩
      · refine va_astq (r := (RX4, TX4, 3)) (ci := 4) (f := fun j => (R o j).map ad) hx hb hK a2 a3 a4 o 4 x (by rw [gW_at (a5.lta (by omega) ho), gE1_arr ho]; rfl) (gty_at (by omega)) (by rw [gW_at (a5.lt (by omega) hxx), gE1_obj hxx]) rfl hin (by simpa using hd) (fun H1 locs1 b1 b2 b3 => ?_)
        have hW := gWa_R (cy := E.2.2.1) (ad := ad) (n := n) (I := I) (L := L) (R := R) (i := i.toNatClampNeg) (x := x) ho (Or.inl rfl)
        exact hk _ _ _ _ _ _ h4 ad H1 locs1 ls a1 (hW ▸ b1) (hW ▸ b2) b3 (gok_R a5 (Or.inl (a5.lt (by omega) hxx))) a6 a7 a8
      · refine va_astq (r := (RX7, TX7, 3)) (ci := 7) (f := fun j => (R o j).map ad) hx hb hK a2 a3 a4 o 5 x (by rw [gW_at (a5.lta (by omega) ho), gE1_arr ho]; rfl) (gty_at (by omega)) (by rw [gW_at (a5.lt (by omega) hxx), gE1_obj hxx]) rfl hin (by simpa using hd) (fun H1 locs1 b1 b2 b3 => ?_)
        have hW := gWa_R (cy := E.2.2.1) (ad := ad) (n := n) (I := I) (L := L) (R := R) (i := i.toNatClampNeg) (x := x) ho (Or.inr rfl)
        exact hk _ _ _ _ _ _ h4 ad H1 locs1 ls a1 (hW ▸ b1) (hW ▸ b2) b3 (gok_R a5 (Or.inl (a5.lt (by omega) hxx))) a6 a7 a8
    | arraylength =>
      have hn := gk1 hok
      subst hn
      obtain ⟨o, r, rfl, h1⟩ := g1r_e h
      obtain ⟨t, len, ht, ho, h2⟩ := garrl_e h1
      intro ad H locs ls a1 a2 a3 a4 a5 a6 a7 a8
      have K := hk _ _ _ _ _ _ h2 ad H locs ls a1 a2 a3 a4 a5 a6 a7 a8
      rcases ht with ht | ht
      · exact va_alen (x := gAr ad u t len o) (v := nI len) hx hb hK a2 o t (by rw [gW_at (a5.lta ht ho), gE1_arr ho]) (gty_at ht) rfl (by simpa using hd) K
      · subst ht
        obtain ⟨o1, o2, o3⟩ := a5.byt ho
        have hT2 := (hX.2.2.1.1.1 (o - 1100) (g1100b o1 o2).1).2.2.2
        dsimp only at hT2
        rw [(g1100b o1 o2).2, ← o3] at hT2
        have hg := va_tlen (v := nI len) hx hb hT2 a4 rfl (by simpa using hd) K
        have e1 : ad o = E.2.2.2 o := by rw [a1.1 _ (Or.inr (by omega)), h00 _ (by omega)]
        rw [← e1] at hg
        exact hg
    | _ => first | exact absurd h id | exact hI _ _ _ _ _ _ ⟨_, hf, rfl, hs⟩
end GS
end
section
/-- what the list of methods says of one -/
theorem gMf {y : Nat} {q : gM} (h : gMt[y]? = some q) : Cond.code q.1 q.2.1 q.2.2.1 q.2.2.2.1 ∈ gT ∧ Cond.initialized q.1.cls ∈ gT ∧ (q.2.2.2.2.1 = 0 → Cond.static q.1 ∈ gT) ∧ (q.2.2.2.2.1 = 1 → Cond.instanceMethod q.1 ∈ gT ∧ Cond.selects q.1.cls q.1 q.1 ∈ gT) ∧ (q.2.2.2.2.1 = 2 → Cond.instanceMethod q.1 ∈ gT ∧ q.1.name = "<init>" ∧ q.2.2.2.1 = none) ∧ plainName q.1.cls = true ∧ (q.1.cls ≠ "java/lang/invoke/MethodHandle" ∧ q.1.cls ≠ "java/lang/invoke/VarHandle" ∧ (parseMethodDescriptor q.1.desc).map (fun d => d.parameters.length) = some q.2.2.2.2.2.1) ∧ q.2.2.1 ≤ 21 := by
  obtain ⟨h1, h2⟩ := gMt_ok q (List.mem_of_getElem? h)
  obtain ⟨y, b, ml, rt, kd, np, ps⟩ := q
  unfold gMok at h2
  dsimp only at h1 h2 ⊢
  split at h2
  · rename_i p0 p2 p3 p4
    simp only [Bool.and_eq_true, decide_eq_true_eq] at h2
    obtain ⟨⟨⟨e1, e2⟩, e3⟩, e4⟩ := h2
    refine ⟨h1, gat_mem e1, fun hk => ?_, fun hk => ?_, fun hk => ?_, e3.1, e3.2, Nat.le_of_ble_eq_true e4⟩
    · subst hk; exact gat_mem e2
    · subst hk
      simp only [Bool.and_eq_true] at e2
      exact ⟨gat_mem e2.1, gat_mem e2.2⟩
    · subst hk
      simp only [Bool.and_eq_true, decide_eq_true_eq] at e2
      exact ⟨gat_mem e2.1.1, e2.1.2, e2.2⟩
  · cases h2
theorem gGood {ws : List Cond} (h : ∀ w ∈ ws, w ∈ gT) : GoodIn gT ws := fun w hw => ⟨h w hw, good_of_word (List.mem_filter.mp (h w hw)).2⟩
theorem gGoodq {y : Nat} {q : gM} (h : gMt[y]? = some q) : ∀ w ∈ gws q, w ∈ gT := fun w hw => by
  rcases List.mem_cons.mp hw with e | e
  · rw [e]; exact (gMf h).1
  · exact e
theorem gRoom {d d1 mc ms mc1 ms1 ml : Nat} (h : d1 < d) (hm : ml ≤ 21) : (gRm d1 mc1 ms1).frames + 1 ≤ (gRm d mc ms).frames ∧ 8 + (ml + 11) + (gRm d1 mc1 ms1).locals ≤ (gRm d mc ms).locals := by
  refine ⟨h, ?_⟩
  show 8 + (ml + 11) + 40 * d1 ≤ 40 * d
  omega
section GC
variable {E : gEnv} {p : Program} {e : Env} {s : State} {m : MethodId} {args : Array Value} {below : List Frame} {meth : Method} {c : Code} {own : String} {cc : ByteArray} {nL d mc ms : Nat} {ret : Option FieldType} {ini : Bool} {ad0 : Nat → Nat} {n0 : Nat} {Q : State → Prop}
theorem gA_sub {ad : Nat → Nat} {u : gS} {H : Heap} {locs : List Loc} {A : Nat → Prop} (hA : ∀ q, s.heap.size ≤ q → A q) (a3 : va_D A (gW E.2.2.1 ad u)) (a4 : va_S A s.heap H locs) : ∀ q, gA ad u.1 H.size q → A q := by
  intro q hq
  rcases hq with ⟨k, hk, rfl⟩ | hq
  · exact a3.2 k _ (gW_at hk)
  · exact hA q (Nat.le_trans a4.1 hq)
/-- a contract's start holds at a call -/
theorem gPre {ad : Nat → Nat} {av : List Value} {u : gS} {H : Heap} {locs : List Loc} (hC : gCx E p s m args meth c own cc nL ret ini (gA ad0 n0 s.heap.size)) (a2 : va_P E.2.1 vwCl (gW E.2.2.1 ad u) H) (a3 : va_D (gA ad0 n0 s.heap.size) (gW E.2.2.1 ad u)) (a4 : va_S (gA ad0 n0 s.heap.size) s.heap H locs) (a5 : gok u) : PreS s H (gPc E ad H.size av u) (av.map (gcv ad)) := by
  obtain ⟨hx, hb, hml, hown, hts, hK, hlk, hrt, hini, hX, hA⟩ := hC
  refine ⟨fun a U g mk q => ?_, fun U hU hW => ?_⟩
  · obtain ⟨q1, q2, q3, q4, q5, q6, q7⟩ := q
    exact ⟨q1, q2, q3, q4, q5, va_K.moved (u := U) (U := U.calling g mk a) (Vm.Alike.refl U.vm) q6, gX.same (u := U) (U := U.calling g mk a) rfl rfl q7⟩
  · exact ⟨rfl, by rw [hU], by rw [hU]; exact a2, a3.weaken (fun _ _ _ _ => trivial), a5, va_K.moved hW.alike hK, hX.go hW hU a4 (gA_sub hA a3 a4)⟩
/-- behind a call -/
theorem gcall_go {ad : Nat → Nat} {u : gS} {H : Heap} {locs : List Loc} {ls : Array Slot} {kc ks mc1 ms1 pc : Nat} {lv : gLv} {st0 : List Value} {r : List Value} {post1 : Option Value → gS → Prop} {a : Array Value} (hC : gCx E p s m args meth c own cc nL ret ini (gA ad0 n0 s.heap.size))
    (hr : va_Run p E.1 e (gRm d mc ms) s m args below meth c H locs kc ks mc1 ms1 (F0 m pc ls st0) (r.map (gcv ad)) (gQc E ad u.1 H.size mc1 post1 a) (gA ad u.1 H.size))
    (a1 : (∀ k, k < n0 ∨ 1000 ≤ k → ad k = ad0 k) ∧ (mc = 0 → ad = ad0)) (a3 : va_D (gA ad0 n0 s.heap.size) (gW E.2.2.1 ad u)) (a4 : va_S (gA ad0 n0 s.heap.size) s.heap H locs) (a6 : n0 ≤ u.1) (a7 : gL ad ls nL lv) (a8 : gnd lv)
    (hmc : kc + mc1 ≤ mc) (hrs : mc1 = 0 ∨ ∀ x ∈ grefs lv r, x < u.1 ∨ 1000 ≤ x)
    (kk : ∀ w u', u.1 ≤ u'.1 → post1 w u' → gG E p e (gRm d mc ms) s m args below meth c nL mc (gA ad0 n0 s.heap.size) ad0 n0 Q (kc + mc1) (ks + ms1) (pc + 3) lv (w.toList ++ r) u') :
    W p E.1 e (gRm d mc ms) s m args below meth c H locs kc ks Q (F0 m pc ls st0) := by
  obtain ⟨hx, hb, hml, hown, hts, hK, hlk, hrt, hini, hX, hA⟩ := hC
  intro T hT X
  obtain ⟨v, st₀, t, T', L, h0, X', hL, e1, e2, ⟨⟨w, u', ad', hv, ⟨hag, hag0⟩, hn, hp, hP', hD', hok'⟩, hz, hkp⟩, st⟩ := hr T hT X
  cases hv
  rw [h0] at hz hkp
  have hsub := gA_sub (E := E) hA a3 a4
  have hsame : ∀ x ∈ grefs lv r, ad' x = ad x := fun x hxm => by
    rcases hrs with h | h
    · rw [hag0 h]
    · exact hag x (h x hxm)
  have hS' : va_S (gA ad0 n0 s.heap.size) s.heap T'.heap (locs ++ L) := ⟨Nat.le_trans a4.1 (by rw [e1]; exact hz), fun q h1 h2 => by rw [e1, hkp q (Nat.lt_of_lt_of_le h1 a4.1) (fun z => h2 (hsub q z))]; exact a4.2.1 q h1 h2, fun q hq => by
      rcases List.mem_append.mp hq with h | h
      · exact a4.2.2 q h
      · exact hsub _ (hL q h)⟩
  have K := kk w u' hn hp ad' T'.heap (locs ++ L) ls ⟨fun k hk => by rw [hag k (by omega)]; exact a1.1 k hk, fun h => by rw [hag0 (by omega)]; exact a1.2 h⟩ (by rw [e1]; exact hP') (hD'.weaken (fun _ _ _ z => hsub _ z)) hS' hok' (Nat.le_trans a6 hn) (a7.agree hsame) a8
  obtain ⟨t2, s1, b1⟩ := K T' rfl X'
  refine ⟨t2, st t2 ?_, b1⟩
  rw [List.map_append, gst_agree hsame] at s1
  cases w <;> exact s1
end GC
end
section
theorem gisr_e {av : List Value} {P : Prop} (h : gisr av P) : (∃ o tl, av = .ref o :: tl) ∧ P := by
  unfold gisr at h
  split at h
  · exact ⟨⟨_, _, rfl⟩, h⟩
  · exact h.elim
theorem gmath : Cond.initialized "java/lang/Math" ∈ gT := gat_mem (c := 78) (by decide +kernel)
theorem gmax1 : Cond.static Lib.Math.max.name ∈ gT := gat_mem (c := 593) (by decide +kernel)
theorem gmin1 : Cond.static Lib.Math.min.name ∈ gT := gat_mem (c := 488) (by decide +kernel)
theorem gmax2 : Cond.code Lib.Math.max.name Lib.Math.max.code 2 (some .int) ∈ gT := gat_mem (c := 594) (by decide +kernel)
theorem gmin2 : Cond.code Lib.Math.min.name Lib.Math.min.code 2 (some .int) ∈ gT := gat_mem (c := 489) (by decide +kernel)
theorem gobj1 : Cond.instanceMethod objectInit ∈ gT := gat_mem (c := 89) (by decide +kernel)
theorem gobj2 : Cond.code objectInit ⟨#[0xb1]⟩ 1 none ∈ gT := gat_mem (c := 90) (by decide +kernel)
theorem gcpy1 : Cond.native arraycopyName ∈ gT := gat_mem (c := 492) (by decide +kernel)
theorem gcpy2 : Cond.static arraycopyName ∈ gT := gat_mem (c := 491) (by decide +kernel)
theorem gcpy3 : Cond.initialized "java/lang/System" ∈ gT := gat_mem (c := 79) (by decide +kernel)
section GV
variable {E : gEnv} {p : Program} {e : Env} {s : State} {m : MethodId} {args : Array Value} {below : List Frame} {meth : Method} {c : Code} {own : String} {cc : ByteArray} {nL d mc ms : Nat} {ret : Option FieldType} {ini : Bool} {ad0 : Nat → Nat} {n0 : Nat} {post : Option Value → gS → Prop} {k : Nat → Nat → Nat → gLv → List Value → gS → Prop}
/-- a new cell that lies at q -/
theorem gborn_go {Q : State → Prop} {kc ks pc q : Nat} {lv : gLv} {st : List Value} {u : gS} {x : gSh} {ad : Nat → Nat} {H1 : Heap} {locs : List Loc} {ls : Array Slot} {w : va_E} (hlt : u.1 < 900) (hlv : glive x = true) (hmc : mc ≠ 0) (hrs : ∀ r ∈ grefs lv st, r < u.1 ∨ 1000 ≤ r)
    (hw : gE1 E.2.2.1 (gupd ad u.1 q) (gborn u x) u.1 = w)
    (a1 : (∀ k, k < n0 ∨ 1000 ≤ k → ad k = ad0 k) ∧ (mc = 0 → ad = ad0)) (a5 : gok u) (a6 : n0 ≤ u.1) (a7 : gL ad ls nL lv) (a8 : gnd lv)
    (b1 : va_P E.2.1 vwCl (gW E.2.2.1 ad u ++ [(q, w)]) H1) (b2 : va_D (gA ad0 n0 s.heap.size) (gW E.2.2.1 ad u ++ [(q, w)])) (b3 : va_S (gA ad0 n0 s.heap.size) s.heap H1 locs)
    (hg : gG E p e (gRm d mc ms) s m args below meth c nL mc (gA ad0 n0 s.heap.size) ad0 n0 Q kc ks pc lv (.ref u.1 :: st) (gborn u x)) :
    W p E.1 e (gRm d mc ms) s m args below meth c H1 locs kc ks Q (F0 m pc ls (.ref q :: st.map (gcv ad))) := by
  have hW := gW_born (cy := E.2.2.1) (ad := ad) (x := x) (q := q) a5 hlt hw
  have hs : ∀ r ∈ grefs lv st, gupd ad u.1 q r = ad r := fun r hr => gupd_n (by have := hrs r hr; omega)
  have K := hg (gupd ad u.1 q) H1 locs ls ⟨fun k hk => by rw [gupd_n (by omega)]; exact a1.1 k hk, fun h => absurd h hmc⟩ (hW ▸ b1) (hW ▸ b2) b3 (gok_born a5 hlt hlv) (Nat.le_trans a6 (Nat.le_succ _)) (a7.agree hs) a8
  rw [List.map_cons, gst_agree hs] at K
  have e1 : gcv (gupd ad u.1 q) (.ref u.1) = .ref q := by show Value.ref _ = _; rw [gupd_s]
  rw [e1] at K
  exact K
theorem gar_new {ad : Nat → Nat} {u : gS} {t N : Nat} (ht : t < 4) (cA : ClassId) : vp_cell cA (gAr ad (gborn u (.inr (t, N))) t N u.1) = arrV cA N (fun _ => defaultValue (gtc t)) := by
  obtain ⟨n, sh, I, L, R⟩ := u
  match t, ht with
  | 0, _ => show vp_cell cA (N, .inl (gset I n (fun _ => 0) n)) = _; rw [gset_s]; rfl
  | 1, _ => show vp_cell cA (N, .inl (gset I n (fun _ => 0) n)) = _; rw [gset_s]; rfl
  | 2, _ => show vp_cell cA (N, .inr (.inl (gset L n (fun _ => 0) n))) = _; rw [gset_s]; rfl
  | 3, _ => show vp_cell cA (N, .inl (gset I n (fun _ => 0) n)) = _; rw [gset_s]; rfl
set_option maxHeartbeats 4000000 in
theorem gstp_iv {C : List gI} (h00 : ∀ k, 1000 ≤ k → ad0 k = E.2.2.2 k) (hC : gCx E p s m args meth c own cc nL ret ini (gA ad0 n0 s.heap.size)) (hT : ∀ r ∈ C, gchk own cc nL ret ini r = true)
    (hk : ∀ kc ks pc lv st u, k kc ks pc lv st u → gG E p e (gRm d mc ms) s m args below meth c nL mc (gA ad0 n0 s.heap.size) ad0 n0 (MQ below (gQc E ad0 n0 s.heap.size mc post) args s mc ms (gA ad0 n0 s.heap.size)) kc ks pc lv st u)
    {kc ks pc : Nat} {lv : gLv} {st : List Value} {u : gS} (h : gIv C (gCall E d mc ms) d ret post mc ms k kc ks pc lv st u) :
    gG E p e (gRm d mc ms) s m args below meth c nL mc (gA ad0 n0 s.heap.size) ad0 n0 (MQ below (gQc E ad0 n0 s.heap.size mc post) args s mc ms (gA ad0 n0 s.heap.size)) kc ks pc lv st u := by
  obtain ⟨q, hf, hiv, h⟩ := h
  obtain ⟨hx, hb, hml, hown, hts, hK, hlk, hrt, hini, hX, hA⟩ := id hC
  have hCF : CallFix p m c cc nL s args gT own := ⟨hx, hb, hml, hown, hts⟩
  unfold gstp at h
  obtain ⟨nx, ins, ⟨a, b, cw⟩, v, sw⟩ := q
  rw [hf] at h
  dsimp only at h hiv
  have hok := hT _ (gfind_mem hf)
  unfold gchk at hok
  dsimp only at hok
  have hd : decode cc pc = .ok (ins, nx - pc) := by
    rw [Bool.and_eq_true] at hok
    exact of_decide_eq_true hok.1
  cases ins with
  | ldc idx =>
    obtain ⟨rfl, hv⟩ := gk2b hok
    have h1 : gstr a k kc ks (pc + 2) lv v st u := h
    have hd2 : decode cc pc = .ok (.ldc idx, 2) := by simpa using hd
    intro ad H locs ls a1 a2 a3 a4 a5 a6 a7 a8
    have hstr : (Nat.beq a (cw + 1) && (match gStr[cw]? with
        | some q => decide (q.1 = own) && decide (q.2.1 = idx)
        | none => false)) = true → W p E.1 e (gRm d mc ms) s m args below meth c H locs kc ks (MQ below (gQc E ad0 n0 s.heap.size mc post) args s mc ms (gA ad0 n0 s.heap.size)) (F0 m pc ls (st.map (gcv ad))) := by
      intro hv
      rw [Bool.and_eq_true] at hv
      have ha := Nat.eq_of_beq_eq_true hv.1
      subst ha
      cases hq : gStr[cw]? with
      | none => rw [hq] at hv; cases hv.2
      | some q =>
        rw [hq] at hv
        have hv2 := hv.2
        rw [Bool.and_eq_true] at hv2
        have e1 : q.1 = own := of_decide_eq_true hv2.1
        have e2 : q.2.1 = idx := of_decide_eq_true hv2.2
        have hR := hX.2.2.1.2 cw q hq
        rw [e1, e2] at hR
        have K := hk _ _ _ _ _ _ h1 ad H locs ls a1 a2 a3 a4 a5 a6 a7 a8
        have e3 : gcv ad (.ref (1000 + cw)) = .ref (E.2.2.2 (1000 + cw)) := by show Value.ref _ = _; rw [a1.1 _ (Or.inr (by omega)), h00 _ (by omega)]
        rw [List.map_cons, e3] at K
        exact va_ldcS hx hb hown hR hd2 K
    cases v with
    | int x =>
      rw [Bool.and_eq_true] at hv
      have ha := Nat.eq_of_beq_eq_true hv.2
      subst ha
      exact lv_ldc hx hb hown (hts _ (gat_mem hv.1)) hd2 (hk _ _ _ _ _ _ h1 ad H locs ls a1 a2 a3 a4 a5 a6 a7 a8)
    | long x => exact hstr hv
    | float x => exact hstr hv
    | double x => exact hstr hv
    | null => exact hstr hv
    | ref x => exact hstr hv
    | retAddr x => exact hstr hv
  | new idx =>
    obtain ⟨rfl, hv⟩ := gk2b hok
    obtain ⟨hrs, hlt, hmc, hms, hkk⟩ := (h : (∀ r ∈ grefs lv st, r < u.1 ∨ 1000 ≤ r) ∧ u.1 < 900 ∧ kc + 1 ≤ mc ∧ ks + gN a ≤ ms ∧ k (kc + 1) (ks + gN a) (pc + 3) lv (.ref u.1 :: st) (gborn u (.inl a)))
    cases hq : vwCl[a]? with
    | none => rw [hq] at hv; cases hv
    | some q =>
      rw [hq] at hv
      simp only [Bool.and_eq_true] at hv
      obtain ⟨w1, w2, w3⟩ := hv
      obtain ⟨g1, g2, g3, g4⟩ := gcl hq
      obtain ⟨Cn, T, N⟩ := q
      dsimp only at w1 w2 w3 g1 g2 g3 g4
      subst g1
      have w4 : (Cond.initialized Cn).before args s = true := by
        split at w3
        · exact hts _ (gat_mem w3)
        · cases w3
      intro ad H locs ls a1 a2 a3 a4 a5 a6 a7 a8
      refine va_new (ci := a) (fs := (List.range (gN a)).map (fun j => gdv (gkd (gTy a j)))) (C := Cn) (T := T) (N := gN a) hx hb hts g4 (gTy a) g2 hown (hts _ (gat_mem w1)) (hts _ (gat_mem w2)) w4 hK a2 a3 a4 hA hq (fun j hj => ?_) hmc hms (by simpa using hd) (fun q H1 b1 b2 b3 => ?_)
      · rw [gdv_ok a (gci hq) j hj]
        simp [vp_V, hj]
      · exact gborn_go (x := .inl a) hlt (Nat.ble_eq_true_of_le (gci hq)) (by omega) hrs (by rw [gE1_obj (show (gborn u (.inl a)).2.1 u.1 = .inl a from gupd_s), gF_born]) a1 a5 a6 a7 a8 b1 b2 b3 (hk _ _ _ _ _ _ hkk)
  | newarray at_ =>
    obtain ⟨rfl, hv⟩ := gk2b hok
    simp only [Bool.and_eq_true, decide_eq_true_eq] at hv
    obtain ⟨w1, w2, w3⟩ := hv
    have ha : a < 4 := Nat.le_of_ble_eq_true w2
    obtain ⟨n, r, rfl, hrs, hlt, hn, hmc, hms, hbig, hkk⟩ := g1i_e h
    intro ad H locs ls a1 a2 a3 a4 a5 a6 a7 a8
    refine va_newa (a0 := gAr ad (gborn u (.inr (a, n.toNatClampNeg))) a n.toNatClampNeg u.1) (ty := gtc a) hx hb (hts _ (gat_mem w1)) w3.symm hK a2 a3 a4 hA (fun cA => gar_new ha cA) hn rfl ?_ hmc hms (by simpa using hd) (fun q cA H1 bK b1 b2 b3 => ?_)
    · have hcb : componentBytes (gtc a) ≤ 8 := by
        match a, ha with
        | 0, _ => decide
        | 1, _ => decide
        | 2, _ => decide
        | 3, _ => decide
      calc n.toNatClampNeg * componentBytes (gtc a) ≤ 100000 * 8 := Nat.mul_le_mul hbig hcb
        _ ≤ 536870912 := by decide
    · have hA1 := (bK.2 6 (cA, gtc a) (by rw [List.getElem?_append_right (by simp [gty])]; simp [gty])).2
      have hA2 := (hK.2 a _ (gty_at (show a < 6 by omega))).2
      have hcA : cA = E.2.2.1 a := by
        match a, ha, hA1, hA2 with
        | 0, _, hA1, hA2 => exact Option.some.inj (Eq.trans (Eq.symm hA1) hA2)
        | 1, _, hA1, hA2 => exact Option.some.inj (Eq.trans (Eq.symm hA1) hA2)
        | 2, _, hA1, hA2 => exact Option.some.inj (Eq.trans (Eq.symm hA1) hA2)
        | 3, _, hA1, hA2 => exact Option.some.inj (Eq.trans (Eq.symm hA1) hA2)
      subst hcA
      have hsame : gAr (gupd ad u.1 q) (gborn u (.inr (a, n.toNatClampNeg))) a n.toNatClampNeg u.1 = gAr ad (gborn u (.inr (a, n.toNatClampNeg))) a n.toNatClampNeg u.1 := by
        match a, ha with
        | 0, _ => rfl
        | 1, _ => rfl
        | 2, _ => rfl
        | 3, _ => rfl
      exact gborn_go (x := .inr (a, n.toNatClampNeg)) hlt (Nat.ble_eq_true_of_le (show a + 1 ≤ 6 by omega)) (by omega) hrs (by rw [gE1_arr (show (gborn u (.inr (a, n.toNatClampNeg))).2.1 u.1 = .inr (a, n.toNatClampNeg) from gupd_s), hsame]) a1 a5 a6 a7 a8 b1 b2 b3 (hk _ _ _ _ _ _ hkk)
  | anewarray idx =>
    obtain ⟨rfl, hv⟩ := gk2b hok
    obtain ⟨n, r, rfl, hrs, hlt, hn, hmc, hms, hbig, hkk⟩ := g1i_e h
    intro ad H locs ls a1 a2 a3 a4 a5 a6 a7 a8
    have hsh : ∀ t, (gborn u (.inr (t, n.toNatClampNeg))).2.1 u.1 = .inr (t, n.toNatClampNeg) := fun t => gupd_s
    have har : ∀ (ad' : Nat → Nat) (t : Nat), t = 4 ∨ t = 5 → gAr ad' (gborn u (.inr (t, n.toNatClampNeg))) t n.toNatClampNeg u.1 = (n.toNatClampNeg, .inr (.inr (.inr (.inr (fun _ => none))))) := fun ad' t ht => by
      obtain ⟨n1, sh, I, L, R⟩ := u
      rcases ht with rfl | rfl
      · show ((_ , .inr (.inr (.inr (.inr (fun j => (gset R n1 (fun _ => none) n1 j).map ad'))))) : vp_A) = _
        rw [gset_s]; rfl
      · show ((_ , .inr (.inr (.inr (.inr (fun j => (gset R n1 (fun _ => none) n1 j).map ad'))))) : vp_A) = _
        rw [gset_s]; rfl
    rw [Bool.or_eq_true, Bool.and_eq_true, Bool.and_eq_true] at hv
    rcases hv with ⟨ha, w1⟩ | ⟨ha, w1⟩
    · have ha := Nat.eq_of_beq_eq_true ha
      subst ha
      refine va_newq (C := RX4) hx hb hown (hts _ (gat_mem w1)) hX.2.1.1 hK a2 a3 a4 hA hn rfl (by omega) hmc hms (by simpa using hd) (fun q cA H1 bK b1 b2 b3 => ?_)
      have hA1 := (bK.2 6 (cA, .object RX4) (by rw [List.getElem?_append_right (by simp [gty])]; simp [gty])).2
      have hA2 := (hK.2 4 _ (gty_at (show 4 < 6 by omega))).2
      obtain ⟨_, _, _, _, _, f1⟩ := hA1
      obtain ⟨_, _, _, _, _, f2⟩ := hA2
      have hcA : cA = E.2.2.1 4 := Option.some.inj (Eq.trans (Eq.symm f1) f2)
      subst hcA
      exact gborn_go hlt rfl (by omega) hrs (by rw [gE1_arr (hsh 4), har _ 4 (Or.inl rfl)]) a1 a5 a6 a7 a8 b1 b2 b3 (hk _ _ _ _ _ _ hkk)
    · have ha := Nat.eq_of_beq_eq_true ha
      subst ha
      refine va_newq (C := RX7) hx hb hown (hts _ (gat_mem w1)) hX.2.1.2 hK a2 a3 a4 hA hn rfl (by omega) hmc hms (by simpa using hd) (fun q cA H1 bK b1 b2 b3 => ?_)
      have hA1 := (bK.2 6 (cA, .object RX7) (by rw [List.getElem?_append_right (by simp [gty])]; simp [gty])).2
      have hA2 := (hK.2 5 _ (gty_at (show 5 < 6 by omega))).2
      obtain ⟨_, _, _, _, _, f1⟩ := hA1
      obtain ⟨_, _, _, _, _, f2⟩ := hA2
      have hcA : cA = E.2.2.1 5 := Option.some.inj (Eq.trans (Eq.symm f1) f2)
      subst hcA
      exact gborn_go hlt rfl (by omega) hrs (by rw [gE1_arr (hsh 5), har _ 5 (Or.inr rfl)]) a1 a5 a6 a7 a8 b1 b2 b3 (hk _ _ _ _ _ _ hkk)
  | ireturn =>
    obtain ⟨rfl, hv⟩ := gk2b hok
    dsimp only at h
    split at h
    · rename_i x
      have h1 : ∃ ty, ret = some ty ∧ narrow ty (.int x) = .int x ∧ gfit kc ks mc ms (post (some (.int x)) u) := by
        unfold gzr at h
        split at h
        · exact ⟨_, rfl, gnz (ad := id) h.1, h.2⟩
        · exact ⟨_, rfl, rfl, h⟩
        · exact ⟨_, rfl, h.1, h.2⟩
        · exact ⟨_, rfl, h.1, h.2⟩
        · exact h.elim
      obtain ⟨ty, hty, hnr, hfit⟩ := h1
      obtain ⟨f1, f2, hp⟩ := gfit_e hfit
      intro ad H locs ls a1 a2 a3 a4 a5 a6 a7 a8
      refine W.widen f1 f2 ?_
      exact W.zret (ty := ty) hx hb (hrt.trans hty) hnr (fun t ht _ => ⟨⟨some (.int x), u, ad, rfl, a1, a6, hp, by rw [ht]; exact a2, a3, a5⟩, a4.F ht⟩) a4.2.2 (by simpa using hd) hlk
    · exact h.elim
  | lreturn =>
    obtain ⟨rfl, hv⟩ := gk2 hok
    dsimp only at h
    split at h
    · rename_i x
      obtain ⟨f1, f2, hp⟩ := gfit_e h
      intro ad H locs ls a1 a2 a3 a4 a5 a6 a7 a8
      refine W.widen f1 f2 ?_
      exact W.lret hx hb (hrt.trans hv) (fun t ht _ => ⟨⟨some (.long x), u, ad, rfl, a1, a6, hp, by rw [ht]; exact a2, a3, a5⟩, a4.F ht⟩) a4.2.2 (by simpa using hd) hlk
    · exact h.elim
  | areturn =>
    obtain ⟨rfl, hv⟩ := gk2b hok
    dsimp only at h
    split at h
    · rename_i x
      obtain ⟨f1, f2, hp⟩ := gfit_e h
      have hv2 : ∃ rt, ret = some rt ∧ ((∃ n, rt = .object n) ∨ ∃ t, rt = .array t) := by
        unfold gzo at hv
        split at hv
        · exact ⟨_, rfl, Or.inl ⟨_, rfl⟩⟩
        · exact ⟨_, rfl, Or.inr ⟨_, rfl⟩⟩
        · cases hv
      obtain ⟨rt, hr1, hr2⟩ := hv2
      intro ad H locs ls a1 a2 a3 a4 a5 a6 a7 a8
      refine W.widen f1 f2 ?_
      exact W.aret (v := .ref (ad x)) hx hb (hrt.trans hr1) hr2 (Or.inr ⟨_, rfl⟩) (fun t ht _ => ⟨⟨some (.ref x), u, ad, rfl, a1, a6, hp, by rw [ht]; exact a2, a3, a5⟩, a4.F ht⟩) a4.2.2 (by simpa using hd) hlk
    · exact h.elim
  | return_ =>
    obtain ⟨rfl, hv⟩ := gk2 hok
    dsimp only at h
    split at h
    · obtain ⟨f1, f2, hp⟩ := gfit_e h
      intro ad H locs ls a1 a2 a3 a4 a5 a6 a7 a8
      refine W.widen f1 f2 ?_
      exact W.vret hx hb (hrt.trans hv) (fun t ht _ => ⟨⟨none, u, ad, rfl, a1, a6, hp, by rw [ht]; exact a2, a3, a5⟩, a4.F ht⟩) a4.2.2 (by simpa using hd) hlk
    · exact h.elim
  | invokevirtual idx =>
    obtain ⟨rfl, hv⟩ := gk2b hok
    obtain ⟨bv, r, hbl, rfl, hrecv, h1⟩ := gargs_e h
    obtain ⟨hcat, h2⟩ := gcatok_e h1
    rw [List.append_nil] at hrecv h2
    obtain ⟨d1, mc1, ms1, post1, hd1, hmc1, hms1, hrs, hctr, hkk⟩ := h2
    cases hq : gMt[a]? with
    | none => rw [hq] at hv; cases hv
    | some q =>
      rw [hq] at hv
      simp only [Bool.and_eq_true] at hv
      obtain ⟨w1, w2, w3⟩ := hv
      obtain ⟨m1, m2, m3, m4, m5, m6, m7, m8⟩ := gMf hq
      have hb1 := Nat.eq_of_beq_eq_true w1
      have hkd := Nat.eq_of_beq_eq_true w2
      cases bv with
      | nil => simp at hbl
      | cons v0 av =>
        have hav : av.length = b := by simpa using hbl
        unfold grecv at hrecv
        split at hrecv
        · rename_i o tl heq
          cases heq
          intro ad H locs ls a1 a2 a3 a4 a5 a6 a7 a8
          have hPre := gPre (av := .ref o :: av) hC a2 a3 a4 a5
          have hcell : ∃ cellB : Cell, H[ad o]? = some cellB ∧ cellB.vm.isStatics = false ∧ s.vm.findClass q.1.cls = some cellB.cls := by
            cases ho : Nat.ble 1000 o with
            | true =>
              rw [ho] at hrecv
              obtain ⟨q', hq', hcs, ho2⟩ := hrecv
              rw [hq] at hq'
              cases hq'
              have ho1 : 1000 ≤ o := Nat.le_of_ble_eq_true ho
              have := vk_recv (i := o - 1000) hX.2.2.1.1 (g1000 ho1 ho2).1 a4
              rw [(g1000 ho1 ho2).2] at this
              rw [a1.1 o (Or.inr ho1), h00 o ho1, hcs]
              exact this
            | false =>
              rw [ho] at hrecv
              dsimp only [cond] at hrecv
              split at hrecv
              · rename_i ci hci
                obtain ⟨q', cq, hq', hcq, hce⟩ := hrecv
                rw [hq] at hq'
                cases hq'
                rw [← hce]
                exact va_recv hK a2 hcq (q0 := o) (fs := gF ad u ci o) (by rw [gW_at (a5.lt (by have := gci hcq; omega) hci), gE1_obj hci])
              · exact hrecv.elim
          have hrun := va_runV (rest := r.map (gcv ad)) (As := av.map (gcv ad)) (b := ad o) (g := F0 m pc ls (((Value.ref o :: av).reverse ++ r).map (gcv ad))) (locs := locs) (cells := kc) (slots := ks) (R := gRm d mc ms) (e := e) (below := below) (meth := meth) hCF (hctr q hq ad H.size (fun k hk => by rw [a1.1 k (Or.inr hk), h00 k hk])) (cwV (C := q.1.cls) b hts (gGood (fun w hw => by
              unfold wsV at hw
              rcases List.mem_append.mp hw with hw | hw
              · simp only [List.mem_cons, List.not_mem_nil, or_false] at hw
                rcases hw with rfl | rfl | rfl | rfl
                · exact gat_mem w3
                · exact (m4 hkd).1
                · exact (m4 hkd).2
                · exact m2
              · exact gGoodq hq w hw)) rfl rfl rfl ⟨rfl, m7.1, m7.2.1, by rw [hb1]; exact m7.2.2⟩ (gRoom hd1 m8)) ⟨hPre.1, hcell, hPre.2⟩ rfl (by simp [hav]) (a7.1) (by simp [gcv]) (lv_room (by rw [gcats_sum]; exact hcat)) (by simpa using hd) ⟨hmc1, hms1⟩
          exact gcall_go hC hrun a1 a3 a4 a6 a7 a8 hmc1 hrs (fun w u' hn hp => hk _ _ _ _ _ _ (hkk w u' hn hp))
        · exact hrecv.elim
  | invokestatic idx =>
    obtain ⟨rfl, hv⟩ := gk2b hok
    have h1 : gstc a st d kc ks mc ms (fun w st => k kc ks (pc + 3) lv (w :: st) u) (fun st u => k kc ks (pc + 3) lv st u) u (gargs b st [] (fun av st => gcatok st (gCall E d mc ms a av (grefs lv st) u kc ks (fun kc ks w u => k kc ks (pc + 3) lv (w.toList ++ st) u)))) := h
    cases ha : Nat.blt a 9000 with
    | true =>
      rw [ha] at hv
      dsimp only [cond] at hv
      have hlt : a < 9000 := Nat.le_of_ble_eq_true ha
      have h2 : gargs b st [] (fun av st => gcatok st (gCall E d mc ms a av (grefs lv st) u kc ks (fun kc ks w u => k kc ks (pc + 3) lv (w.toList ++ st) u))) := by
        unfold gstc at h1
        split at h1
        · omega
        · omega
        · omega
        · omega
        · exact h1
      obtain ⟨bv, r, hbl, rfl, h3⟩ := gargs_e h2
      obtain ⟨hcat, h4⟩ := gcatok_e h3
      rw [List.append_nil] at h4
      obtain ⟨d1, mc1, ms1, post1, hd1, hmc1, hms1, hrs, hctr, hkk⟩ := h4
      cases hq : gMt[a]? with
      | none => rw [hq] at hv; cases hv
      | some q =>
        rw [hq] at hv
        simp only [Bool.and_eq_true] at hv
        obtain ⟨w1, w2, w3⟩ := hv
        obtain ⟨m1, m2, m3, m4, m5, m6, m7, m8⟩ := gMf hq
        have hb1 := Nat.eq_of_beq_eq_true w1
        have hkd := Nat.eq_of_beq_eq_true w2
        intro ad H locs ls a1 a2 a3 a4 a5 a6 a7 a8
        have hPre := gPre (av := bv) hC a2 a3 a4 a5
        have hGI := gGood (gGoodq hq)
        have hdd : q.1.cls ≠ "java/lang/invoke/MethodHandle" ∧ q.1.cls ≠ "java/lang/invoke/VarHandle" ∧ (parseMethodDescriptor q.1.desc).map (fun d => d.parameters.length) = some b := ⟨m7.1, m7.2.1, by rw [hb1]; exact m7.2.2⟩
        have hM := hctr q hq ad H.size (fun k hk => by rw [a1.1 k (Or.inr hk), h00 k hk])
        cases hc5 : Nat.blt cw 5000 with
        | true =>
          rw [hc5] at w3
          dsimp only [cond] at w3
          have hrun := va_runS (rest := r.map (gcv ad)) (As := bv.map (gcv ad)) (g := F0 m pc ls ((bv.reverse ++ r).map (gcv ad))) (locs := locs) (cells := kc) (slots := ks) (R := gRm d mc ms) (e := e) (below := below) (meth := meth) hCF hM ⟨callB_of b hts hGI rfl rfl rfl (hts _ m2) (hts _ (gat_mem w3)) hdd (gRoom hd1 m8), hts _ (m3 hkd)⟩ hPre rfl (by simp [hbl]) (a7.1) (by simp) (lv_room (by rw [gcats_sum]; exact hcat)) (by simpa using hd) ⟨hmc1, hms1⟩
          exact gcall_go hC hrun a1 a3 a4 a6 a7 a8 hmc1 hrs (fun w u' hn hp => hk _ _ _ _ _ _ (hkk w u' hn hp))
        | false =>
          rw [hc5] at w3
          dsimp only [cond] at w3
          have hnw := hX.1 _ (List.mem_of_getElem? (of_decide_eq_true w3))
          have hrun := va_runSN (rest := r.map (gcv ad)) (As := bv.map (gcv ad)) (g := F0 m pc ls ((bv.reverse ++ r).map (gcv ad))) (locs := locs) (cells := kc) (slots := ks) (R := gRm d mc ms) (e := e) (below := below) (meth := meth) hCF hM ⟨va_cnB b hts hGI rfl rfl rfl hnw (hts _ m2) hdd (gRoom hd1 m8), hts _ (m3 hkd), trivial⟩ hPre rfl (by simp [hbl]) (a7.1) (by simp) (lv_room (by rw [gcats_sum]; exact hcat)) (by simpa using hd) ⟨hmc1, hms1⟩
          exact gcall_go hC hrun a1 a3 a4 a6 a7 a8 hmc1 hrs (fun w u' hn hp => hk _ _ _ _ _ _ (hkk w u' hn hp))
    | false =>
      rw [ha] at hv
      dsimp only [cond] at hv
      split at hv
      · obtain ⟨y, x, r, rfl, h2⟩ := g2i_e (h1 : g2i st (fun y x st => cond (Nat.blt 0 d) (gcatok st (gfit kc ks mc ms (k kc ks (pc + 3) lv (.int (if x < y then y else x) :: st) u))) False))
        cases hd0 : Nat.blt 0 d with
        | false => rw [hd0] at h2; exact h2.elim
        | true =>
          rw [hd0] at h2
          obtain ⟨hcat, h2f⟩ := gcatok_e h2
          obtain ⟨hkc, hks, h3⟩ := gfit_e h2f
          have hdp : 0 < d := Nat.le_of_ble_eq_true hd0
          intro ad H locs ls a1 a2 a3 a4 a5 a6 a7 a8
          exact va_mmax (R := gRm d mc ms) hx hb (by rw [hml]; exact a7.1.symm) hown (hts _ (gat_mem hv)) (hts _ gmax1) (hts _ gmath) (hts _ gmax2) hdp (by rw [gcats_sum]; show gcats r + 13 ≤ 40 * d; omega) hkc hks (by simpa using hd) (hk _ _ _ _ _ _ h3 ad H locs ls a1 a2 a3 a4 a5 a6 a7 a8)
      · obtain ⟨y, x, r, rfl, h2⟩ := g2i_e (h1 : g2i st (fun y x st => cond (Nat.blt 0 d) (gcatok st (gfit kc ks mc ms (k kc ks (pc + 3) lv (.int (if y < x then y else x) :: st) u))) False))
        cases hd0 : Nat.blt 0 d with
        | false => rw [hd0] at h2; exact h2.elim
        | true =>
          rw [hd0] at h2
          obtain ⟨hcat, h2f⟩ := gcatok_e h2
          obtain ⟨hkc, hks, h3⟩ := gfit_e h2f
          have hdp : 0 < d := Nat.le_of_ble_eq_true hd0
          intro ad H locs ls a1 a2 a3 a4 a5 a6 a7 a8
          exact va_mmin (R := gRm d mc ms) hx hb (by rw [hml]; exact a7.1.symm) hown (hts _ (gat_mem hv)) (hts _ gmin1) (hts _ gmath) (hts _ gmin2) hdp (by rw [gcats_sum]; show gcats r + 13 ≤ 40 * d; omega) hkc hks (by simpa using hd) (hk _ _ _ _ _ _ h3 ad H locs ls a1 a2 a3 a4 a5 a6 a7 a8)
      · obtain ⟨s0, sp, d0, dp, n, r, rfl, h2⟩ := gcpyp_e (h1 : gcpyp st (fun s0 sp d0 dp n st => garr u s0 0 (fun n0 => garr u d0 0 (fun n1 => gcpyc d st sp dp n n0 n1 (k kc ks (pc + 3) lv st (u.1, u.2.1, gset u.2.2.1 d0 (va_cpy (u.2.2.1 s0) (u.2.2.1 d0) sp.toNatClampNeg dp.toNatClampNeg n.toNatClampNeg), u.2.2.2.1, u.2.2.2.2))))))
        obtain ⟨l0, hs0, h3⟩ := garr_e h2
        obtain ⟨l1, hs1, h4⟩ := garr_e h3
        obtain ⟨hdp, hcat, ⟨c1, c2, c3, c4, c5⟩, h5⟩ := gcpyc_e h4
        obtain ⟨nn, sh, I, L, R⟩ := u
        intro ad H locs ls a1 a2 a3 a4 a5 a6 a7 a8
        refine va_copyi (R := gRm d mc ms) (ty := .int) hx hb (by rw [hml]; exact a7.1.symm) hown (hts _ (gat_mem hv)) (hts _ gcpy1) (hts _ gcpy2) (hts _ gcpy3) hK a2 a3 a4 s0 d0 0 0 (by rw [gW_at (a5.lta (by omega) hs0), gE1_arr hs0]; rfl) (by rw [gW_at (a5.lta (by omega) hs1), gE1_arr hs1]; rfl) (gty_at (by omega)) (gty_at (by omega)) rfl c1 c2 c3 c4 c5 (fun _ _ => rfl) hdp (by rw [gcats_sum]; show gcats r + (nativeFrameWords "java/lang/System" "arraycopy" 5 + 11) ≤ 40 * d; rw [show nativeFrameWords "java/lang/System" "arraycopy" 5 = 7 by decide +kernel]; omega) (by simpa using hd) (fun H1 locs1 b1 b2 b3 => ?_)
        have hW := gWc_I (cy := E.2.2.1) (ad := ad) (n := nn) (I := I) (L := L) (R := R) (f := va_cpy (I s0) (I d0) sp.toNatClampNeg dp.toNatClampNeg n.toNatClampNeg) hs1
        exact hk _ _ _ _ _ _ h5 ad H1 locs1 ls a1 (hW ▸ b1) (hW ▸ b2) b3 (gok_I a5) a6 a7 a8
      · obtain ⟨s0, sp, d0, dp, n, r, rfl, h2⟩ := gcpyp_e (h1 : gcpyp st (fun s0 sp d0 dp n st => garr u s0 2 (fun n0 => garr u d0 2 (fun n1 => gcpyc d st sp dp n n0 n1 (k kc ks (pc + 3) lv st (u.1, u.2.1, u.2.2.1, gset u.2.2.2.1 d0 (va_cpy (u.2.2.2.1 s0) (u.2.2.2.1 d0) sp.toNatClampNeg dp.toNatClampNeg n.toNatClampNeg), u.2.2.2.2))))))
        obtain ⟨l0, hs0, h3⟩ := garr_e h2
        obtain ⟨l1, hs1, h4⟩ := garr_e h3
        obtain ⟨hdp, hcat, ⟨c1, c2, c3, c4, c5⟩, h5⟩ := gcpyc_e h4
        obtain ⟨nn, sh, I, L, R⟩ := u
        intro ad H locs ls a1 a2 a3 a4 a5 a6 a7 a8
        refine va_copyl (R := gRm d mc ms) (ty := .long) hx hb (by rw [hml]; exact a7.1.symm) hown (hts _ (gat_mem hv)) (hts _ gcpy1) (hts _ gcpy2) (hts _ gcpy3) hK a2 a3 a4 s0 d0 2 2 (by rw [gW_at (a5.lta (by omega) hs0), gE1_arr hs0]; rfl) (by rw [gW_at (a5.lta (by omega) hs1), gE1_arr hs1]; rfl) (gty_at (by omega)) (gty_at (by omega)) rfl c1 c2 c3 c4 c5 (fun _ _ => rfl) hdp (by rw [gcats_sum]; show gcats r + (nativeFrameWords "java/lang/System" "arraycopy" 5 + 11) ≤ 40 * d; rw [show nativeFrameWords "java/lang/System" "arraycopy" 5 = 7 by decide +kernel]; omega) (by simpa using hd) (fun H1 locs1 b1 b2 b3 => ?_)
        have hW := gWc_L (cy := E.2.2.1) (ad := ad) (n := nn) (I := I) (L := L) (R := R) (f := va_cpy (L s0) (L d0) sp.toNatClampNeg dp.toNatClampNeg n.toNatClampNeg) hs1
        exact hk _ _ _ _ _ _ h5 ad H1 locs1 ls a1 (hW ▸ b1) (hW ▸ b2) b3 (gok_I a5) a6 a7 a8
      · cases hv
  | invokespecial idx =>
    obtain ⟨rfl, hv⟩ := gk2b hok
    cases ha : Nat.beq a 9999 with
    | true =>
      rw [ha] at hv
      have h1 : cond (Nat.beq a 9999) (g1r st (fun _ st => cond (Nat.blt 0 d) (gcatok st (k kc ks (pc + 3) lv st u)) False)) (gargs (b + 1) st [] (fun av st => gisr av (gcatok st (gCall E d mc ms a av (grefs lv st) u kc ks (fun kc ks w u => k kc ks (pc + 3) lv (w.toList ++ st) u))))) := h
      rw [ha] at h1
      obtain ⟨o, r, rfl, h2⟩ := g1r_e h1
      cases hd0 : Nat.blt 0 d with
      | false => rw [hd0] at h2; exact h2.elim
      | true =>
        rw [hd0] at h2
        obtain ⟨hcat, h3⟩ := gcatok_e h2
        have hdp : 0 < d := Nat.le_of_ble_eq_true hd0
        intro ad H locs ls a1 a2 a3 a4 a5 a6 a7 a8
        exact W.objInit hx hb hown (hts _ (gat_mem hv)) (hts _ gobj1) (hts _ gobj2) rfl (by rw [hml]; exact a7.1) rfl (by simpa using hd) hdp (by show _ + ((r.map (gcv ad)).map (fun v => v.category)).sum + 12 ≤ 40 * d; rw [gcats_sum]; have : 2 * (F0 m pc ls (List.map (gcv ad) (Value.ref o :: r))).monitorRoom = 0 := rfl; omega) (hk _ _ _ _ _ _ h3 ad H locs ls a1 a2 a3 a4 a5 a6 a7 a8)
    | false =>
      rw [ha] at hv
      have h1 : cond (Nat.beq a 9999) (g1r st (fun _ st => cond (Nat.blt 0 d) (gcatok st (k kc ks (pc + 3) lv st u)) False)) (gargs (b + 1) st [] (fun av st => gisr av (gcatok st (gCall E d mc ms a av (grefs lv st) u kc ks (fun kc ks w u => k kc ks (pc + 3) lv (w.toList ++ st) u))))) := h
      rw [ha] at h1
      dsimp only [cond] at hv
      obtain ⟨bv, r, hbl, rfl, h3'⟩ := gargs_e h1
      rw [List.append_nil] at h3'
      obtain ⟨⟨o, av, hrfe⟩, h3⟩ := gisr_e h3'
      obtain ⟨hcat, h4⟩ := gcatok_e h3
      obtain ⟨d1, mc1, ms1, post1, hd1, hmc1, hms1, hrs, hctr, hkk⟩ := h4
      cases hq : gMt[a]? with
      | none => rw [hq] at hv; cases hv
      | some q =>
        rw [hq] at hv
        simp only [Bool.and_eq_true] at hv
        obtain ⟨w1, w2, w3⟩ := hv
        obtain ⟨m1, m2, m3, m4, m5, m6, m7, m8⟩ := gMf hq
        have hb1 := Nat.eq_of_beq_eq_true w1
        have hkd := Nat.eq_of_beq_eq_true w2
        obtain ⟨y1, y2, y3⟩ := m5 hkd
        subst hrfe
        have hav : av.length = b := by simpa using hbl
        intro ad H locs ls a1 a2 a3 a4 a5 a6 a7 a8
        have hPre := gPre (av := .ref o :: av) hC a2 a3 a4 a5
        have hGI := gGood (gGoodq hq)
        have hdd : q.1.cls ≠ "java/lang/invoke/MethodHandle" ∧ q.1.cls ≠ "java/lang/invoke/VarHandle" ∧ (parseMethodDescriptor q.1.desc).map (fun d => d.parameters.length) = some b := ⟨m7.1, m7.2.1, by rw [hb1]; exact m7.2.2⟩
        have hM := hctr q hq ad H.size (fun k hk => by rw [a1.1 k (Or.inr hk), h00 k hk])
        have hw0 : gws q = Cond.code q.1 q.2.1 q.2.2.1 none :: gT := by unfold gws; rw [y3]
        cases hc5 : Nat.blt cw 5000 with
        | true =>
          rw [hc5] at w3
          dsimp only [cond] at w3
          have hrun := va_runI (rest := r.map (gcv ad)) (As := av.map (gcv ad)) (b := ad o) (g := F0 m pc ls (((Value.ref o :: av).reverse ++ r).map (gcv ad))) (locs := locs) (cells := kc) (slots := ks) (R := gRm d mc ms) (e := e) (below := below) (meth := meth) hCF hM (cwI b hts hGI hw0 rfl rfl (hts _ m2) (hts _ (gat_mem w3)) (hts _ y1) y2 hdd (gRoom hd1 m8)) hPre rfl (by simp [hav]) (a7.1) (by simp [gcv]) (lv_room (by rw [gcats_sum]; exact hcat)) (by simpa using hd) ⟨hmc1, hms1⟩
          exact gcall_go hC hrun a1 a3 a4 a6 a7 a8 hmc1 hrs (fun w u' hn hp => hk _ _ _ _ _ _ (hkk w u' hn hp))
        | false =>
          rw [hc5] at w3
          dsimp only [cond] at w3
          have hnw := hX.1 _ (List.mem_of_getElem? (of_decide_eq_true w3))
          have hrun := va_runIN (rest := r.map (gcv ad)) (As := av.map (gcv ad)) (b := ad o) (g := F0 m pc ls (((Value.ref o :: av).reverse ++ r).map (gcv ad))) (locs := locs) (cells := kc) (slots := ks) (R := gRm d mc ms) (e := e) (below := below) (meth := meth) hCF hM ⟨va_cnB b hts hGI hw0 rfl rfl hnw (hts _ m2) hdd (gRoom hd1 m8), y2, hts _ y1⟩ hPre rfl (by simp [hav]) (a7.1) (by simp [gcv]) (lv_room (by rw [gcats_sum]; exact hcat)) (by simpa using hd) ⟨hmc1, hms1⟩
          exact gcall_go hC hrun a1 a3 a4 a6 a7 a8 hmc1 hrs (fun w u' hn hp => hk _ _ _ _ _ _ (hkk w u' hn hp))
  | _ => cases hiv
end GV
end
section
/-- the walk up to the places of S, at most f instructions far -/
def gwp (C : List gI) (ca : Nat → List Value → List Nat → gS → Nat → Nat → (Nat → Nat → Option Value → gS → Prop) → Prop) (d : Nat) (ret : Option FieldType) (post : Option Value → gS → Prop) (mc ms : Nat) (S : List Nat) (K : Nat → Nat → Nat → gLv → List Value → gS → Prop) : Nat → Nat → Nat → Nat → gLv → List Value → gS → Prop
  | 0, kc, ks, pc, lv, st, u => K kc ks pc lv st u
  | f + 1, kc, ks, pc, lv, st, u => gstp C ca d ret post mc ms (fun kc ks pc lv st u => cond (S.elem pc) (K kc ks pc lv st u) (gwp C ca d ret post mc ms S K f kc ks pc lv st u)) kc ks pc lv st u
def gargl : List Value → gLv
  | [] => []
  | .long x :: l => some (.long x) :: none :: gargl l
  | v :: l => some v :: gargl l
/-- the locals at a method's start -/
def gpad : Nat → gLv → gLv
  | 0, _ => []
  | n + 1, [] => none :: gpad n []
  | n + 1, v :: l => v :: gpad n l
/-- WHAT A WALK OF A METHOD MAY USE: K is 'the method, from there, keeps its contract'; from the walk's end to its begin -/
def gWalk (E : gEnv) (C : List gI) (d : Nat) (ret : Option FieldType) (post : Option Value → gS → Prop) (mc ms : Nat) (K : Nat → Nat → Nat → gLv → List Value → gS → Prop) : Prop :=
  ∀ (S : List Nat) (f kc ks pc : Nat) (lv : gLv) (st : List Value) (u : gS), gwp C (gCall E d mc ms) d ret post mc ms S K f kc ks pc lv st u → K kc ks pc lv st u
/-- a method's table: its rows are as its code says -/
def gTab (y : Nat) (C : List gI) : Prop := ∀ q : gM, gMt[y]? = some q → ∀ r ∈ C, gchk q.1.cls q.2.1 q.2.2.1 q.2.2.2.1 (q.2.2.2.2.1 == 2) r = true
theorem gnth_pad : ∀ {n : Nat} {l : gLv} {i : Nat} {v : Value}, gnth (gpad n l) i = some v → gnth l i = some v := by
  intro n
  induction n with
  | zero => intro l i v h; cases h
  | succ n ih =>
    intro l i v h
    cases l with
    | nil =>
      cases i with
      | zero => cases h
      | succ i => have h2 := ih (l := []) (i := i) (v := v) h; cases h2
    | cons w l =>
      cases i with
      | zero => exact h
      | succ i => exact ih (l := l) (i := i) (v := v) h
theorem gargl_nth {ad : Nat → Nat} : ∀ {av : List Value} {i : Nat} {v : Value}, (∀ w ∈ av, ∀ x, w ≠ .double x) → gnth (gargl av) i = some v → (i, gcv ad v) ∈ lv_args 0 (av.map (gcv ad)) ∧ v ∈ av := by
  have key : ∀ (av : List Value) (b i : Nat) (v : Value), (∀ w ∈ av, ∀ x, w ≠ .double x) → gnth (gargl av) i = some v → (b + i, gcv ad v) ∈ lv_args b (av.map (gcv ad)) ∧ v ∈ av := by
    intro av
    induction av with
    | nil => intro b i v _ h; cases h
    | cons w l ih =>
      intro b i v hnd h
      have hl : ∀ w ∈ l, ∀ x, w ≠ .double x := fun w hw => hnd w (List.mem_cons_of_mem _ hw)
      have one : gargl (w :: l) = some w :: gargl l → w.category = 1 → (b + i, gcv ad v) ∈ lv_args b ((w :: l).map (gcv ad)) ∧ v ∈ w :: l := by
        intro e hc
        rw [e] at h
        cases i with
        | zero =>
          cases h
          exact ⟨by simp [lv_args], List.mem_cons_self⟩
        | succ i =>
          obtain ⟨h1, h2⟩ := ih (b + 1) i v hl h
          refine ⟨?_, List.mem_cons_of_mem _ h2⟩
          rw [List.map_cons]
          unfold lv_args
          refine List.mem_cons_of_mem _ ?_
          rw [gcat, hc, show b + (i + 1) = b + 1 + i by omega]
          exact h1
      cases w with
      | long x =>
        cases i with
        | zero =>
          cases h
          exact ⟨by simp [lv_args], List.mem_cons_self⟩
        | succ i =>
          cases i with
          | zero => cases h
          | succ i =>
            obtain ⟨h1, h2⟩ := ih (b + 2) i v hl h
            refine ⟨?_, List.mem_cons_of_mem _ h2⟩
            rw [List.map_cons]
            unfold lv_args
            refine List.mem_cons_of_mem _ ?_
            rw [show b + (i + 1 + 1) = b + 2 + i by omega]
            exact h1
      | double x => exact absurd rfl (hnd _ List.mem_cons_self x)
      | int x => exact one rfl rfl
      | float x => exact one rfl rfl
      | null => exact one rfl rfl
      | ref x => exact one rfl rfl
      | retAddr x => exact one rfl rfl
  intro av i v hnd h
  have := key av 0 i v hnd h
  rwa [Nat.zero_add] at this
def gndb : List Value → Bool
  | [] => true
  | .double _ :: _ => false
  | _ :: l => gndb l
theorem gndb_e : ∀ {av : List Value}, gndb av = true → ∀ w ∈ av, ∀ x, w ≠ .double x := by
  intro av
  induction av with
  | nil => intro _ w h; cases h
  | cons a l ih =>
    intro h w hw x
    cases a with
    | double y => cases h
    | _ =>
      rcases List.mem_cons.mp hw with e | e
      · rw [e]; exact fun z => by cases z
      · exact ih h w e x
def gcatl : List Value → Nat
  | [] => 0
  | v :: l => v.category + gcatl l
theorem gcatl_len (ad : Nat → Nat) : ∀ (av : List Value), (lg_sl (av.map (gcv ad))).length = gcatl av := by
  intro av
  induction av with
  | nil => rfl
  | cons v l ih =>
    cases v <;> simp [lg_sl, gcv, gcatl, Value.category, ← ih] <;> omega
theorem gwalk_of {E : gEnv} {p : Program} {e : Env} {s : State} {m : MethodId} {args : Array Value} {below : List Frame} {meth : Method} {c : Code} {own : String} {cc : ByteArray} {nL d mc ms : Nat} {ret : Option FieldType} {ini : Bool} {ad0 : Nat → Nat} {n0 : Nat} {post : Option Value → gS → Prop} {C : List gI} (h00 : ∀ k, 1000 ≤ k → ad0 k = E.2.2.2 k) (hC : gCx E p s m args meth c own cc nL ret ini (gA ad0 n0 s.heap.size)) (hT : ∀ r ∈ C, gchk own cc nL ret ini r = true) :
    gWalk E C d ret post mc ms (gG E p e (gRm d mc ms) s m args below meth c nL mc (gA ad0 n0 s.heap.size) ad0 n0 (MQ below (gQc E ad0 n0 s.heap.size mc post) args s mc ms (gA ad0 n0 s.heap.size))) := by
  intro S f
  induction f with
  | zero => intro kc ks pc lv st u h; exact h
  | succ f ih =>
    intro kc ks pc lv st u h
    have hk : ∀ kc ks pc lv st u, cond (S.elem pc) (gG E p e (gRm d mc ms) s m args below meth c nL mc (gA ad0 n0 s.heap.size) ad0 n0 (MQ below (gQc E ad0 n0 s.heap.size mc post) args s mc ms (gA ad0 n0 s.heap.size)) kc ks pc lv st u) (gwp C (gCall E d mc ms) d ret post mc ms S (gG E p e (gRm d mc ms) s m args below meth c nL mc (gA ad0 n0 s.heap.size) ad0 n0 (MQ below (gQc E ad0 n0 s.heap.size mc post) args s mc ms (gA ad0 n0 s.heap.size))) f kc ks pc lv st u) → gG E p e (gRm d mc ms) s m args below meth c nL mc (gA ad0 n0 s.heap.size) ad0 n0 (MQ below (gQc E ad0 n0 s.heap.size mc post) args s mc ms (gA ad0 n0 s.heap.size)) kc ks pc lv st u := by
      intro kc ks pc lv st u h
      cases hS : S.elem pc with
      | true => rw [hS] at h; exact h
      | false => rw [hS] at h; exact ih kc ks pc lv st u h
    exact gstp_one h00 hC hT hk (fun kc ks pc lv st u h => gstp_iv h00 hC hT hk h) h
set_option maxHeartbeats 1000000 in
/-- A CONTRACT OUT OF ITS WALK -/
theorem gstart {E : gEnv} {d mc ms y : Nat} {av : List Value} {u : gS} {post : Option Value → gS → Prop} {C : List gI} {q : gM} (hy : gMt[y]? = some q) (hT : gTab y C) (hnd : gndb av = true) (hlen : Nat.ble (gcatl av) q.2.2.1 = true)
    (hw : ∀ K, gWalk E C d q.2.2.2.1 post mc ms K → K 0 0 0 (gpad q.2.2.1 (gargl av)) [] u) : gCtr E d mc ms y av u post := by
  intro q' hq' ad0 sz h00
  rw [hy] at hq'
  cases hq'
  obtain ⟨m1, m2, m3, m4, m5, m6, m7, m8⟩ := gMf hy
  refine Met.ofW (cc := q.2.1) (maxL := q.2.2.1) (ret := q.2.2.2.1) m6 rfl ?_
  intro p e s m args below meth c s₁ B hml hv
  obtain ⟨rfl, hsz, hP, hD, hok, hK, hX⟩ := hv
  subst hsz
  have hts := atoms_spec (ws := gws q) B.pre
  have hown : s.vm.findClass q.1.cls = some m.cls := findClass_of_methodNamed B.named
  have hA : ∀ z : Nat, s.heap.size ≤ z → gA ad0 u.1 s.heap.size z := fun z hz => Or.inr hz
  have hC : gCx E p s m (av.map (gcv ad0)).toArray meth c q.1.cls q.2.1 q.2.2.1 q.2.2.2.1 (q.2.2.2.2.1 == 2) (gA ad0 u.1 s.heap.size) :=
    ⟨B.exec, B.bytes, hml, hown, fun w hw => hts w (List.mem_cons_of_mem _ hw), hK, B.notSynchronized, B.returns, fun hi => by
      rw [(name_of_methodNamed B.named B.method).1]
      exact (m5 (by simpa using hi)).2.1, hX, hA⟩
  have hone := hw _ (gwalk_of (below := below) (e := e) (d := d) (ms := ms) (mc := mc) (post := post) h00 hC (hT q hy))
  have hl := lv_entry (av.map (gcv ad0)) (n := q.2.2.1) (by rw [gcatl_len]; exact Nat.le_of_ble_eq_true hlen)
  rw [lg_entry_eq]
  generalize (lg_sl (av.map (gcv ad0)) ++ List.replicate (q.2.2.1 - (lg_sl (av.map (gcv ad0))).length) Slot.unset).toArray = ls at hl ⊢
  exact hone ad0 s.heap [] ls ⟨fun _ _ => rfl, fun _ => rfl⟩ hP ⟨hD.1, fun k z hz => by
      obtain ⟨h1, h2⟩ := gW_lt hz
      rw [h2]
      exact Or.inl ⟨k, h1, rfl⟩⟩ va_S.rf hok (Nat.le_refl _) ⟨hl.1, hl.2.1, fun i v hv => hl.2.2 _ (gargl_nth (gndb_e hnd) (gnth_pad hv)).1⟩ (fun i v x hv => gndb_e hnd _ (gargl_nth (ad := ad0) (gndb_e hnd) (gnth_pad hv)).2 x)
end
