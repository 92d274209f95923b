section
-- ===== PART A: goes FIRST, ahead of the names: the tables' words, and 'selects' of the private methods out of them =====
/-- a private method of a class that the tables say can be made, by its rows of tables_1 -/
def lw_okq (q : MethodName × Nat) : Prop := (q.1.cls ≠ "java/lang/invoke/MethodHandle" ∧ q.1.cls ≠ "java/lang/invoke/VarHandle") ∧ Cond.instantiable q.1.cls q.2 ∈ tables_1 ∧ Cond.privateMethod q.1 ∈ tables_1 ∧ Cond.instanceMethod q.1 ∈ tables_1
theorem lw_p0 : lw_okq (⟨"ChessHouse$Board", "fillHops", "(I)V"⟩, 17) := ⟨⟨by decide +kernel, by decide +kernel⟩, List.mem_of_getElem? (i := 313) (by decide +kernel), List.mem_of_getElem? (i := 324) (by decide +kernel), List.mem_of_getElem? (i := 325) (by decide +kernel)⟩
theorem lw_p1 : lw_okq (⟨"ChessHouse$Board", "put", "(II)V"⟩, 17) := ⟨⟨by decide +kernel, by decide +kernel⟩, List.mem_of_getElem? (i := 313) (by decide +kernel), List.mem_of_getElem? (i := 356) (by decide +kernel), List.mem_of_getElem? (i := 357) (by decide +kernel)⟩
theorem lw_p2 : lw_okq (⟨"java/lang/Throwable", "fillInStackTrace", "(I)Ljava/lang/Throwable;"⟩, 6) := ⟨⟨by decide +kernel, by decide +kernel⟩, List.mem_of_getElem? (i := 609) (by decide +kernel), List.mem_of_getElem? (i := 607) (by decide +kernel), List.mem_of_getElem? (i := 608) (by decide +kernel)⟩
theorem lw_p3 : lw_okq (⟨"ChessHouse", "takeFour", "(I)V"⟩, 15) := ⟨⟨by decide +kernel, by decide +kernel⟩, List.mem_of_getElem? (i := 34) (by decide +kernel), List.mem_of_getElem? (i := 634) (by decide +kernel), List.mem_of_getElem? (i := 635) (by decide +kernel)⟩
theorem lw_p4 : lw_okq (⟨"ChessHouse", "lineStop", "(I)I"⟩, 15) := ⟨⟨by decide +kernel, by decide +kernel⟩, List.mem_of_getElem? (i := 34) (by decide +kernel), List.mem_of_getElem? (i := 665) (by decide +kernel), List.mem_of_getElem? (i := 666) (by decide +kernel)⟩
theorem lw_p5 : lw_okq (⟨"ChessHouse$Words", "split", "()Z"⟩, 5) := ⟨⟨by decide +kernel, by decide +kernel⟩, List.mem_of_getElem? (i := 62) (by decide +kernel), List.mem_of_getElem? (i := 675) (by decide +kernel), List.mem_of_getElem? (i := 676) (by decide +kernel)⟩
theorem lw_p6 : lw_okq (⟨"ChessHouse", "perform", "(LChessHouse$Command;I)V"⟩, 15) := ⟨⟨by decide +kernel, by decide +kernel⟩, List.mem_of_getElem? (i := 34) (by decide +kernel), List.mem_of_getElem? (i := 737) (by decide +kernel), List.mem_of_getElem? (i := 738) (by decide +kernel)⟩
theorem lw_p7 : lw_okq (⟨"ChessHouse", "answerNothing", "()V"⟩, 15) := ⟨⟨by decide +kernel, by decide +kernel⟩, List.mem_of_getElem? (i := 34) (by decide +kernel), List.mem_of_getElem? (i := 754) (by decide +kernel), List.mem_of_getElem? (i := 755) (by decide +kernel)⟩
theorem lw_p8 : lw_okq (⟨"ChessHouse", "setUp", "()V"⟩, 15) := ⟨⟨by decide +kernel, by decide +kernel⟩, List.mem_of_getElem? (i := 34) (by decide +kernel), List.mem_of_getElem? (i := 762) (by decide +kernel), List.mem_of_getElem? (i := 763) (by decide +kernel)⟩
theorem lw_p9 : lw_okq (⟨"ChessHouse", "fault", "(I)V"⟩, 15) := ⟨⟨by decide +kernel, by decide +kernel⟩, List.mem_of_getElem? (i := 34) (by decide +kernel), List.mem_of_getElem? (i := 770) (by decide +kernel), List.mem_of_getElem? (i := 771) (by decide +kernel)⟩
theorem lw_p10 : lw_okq (⟨"ChessHouse", "tell", "(J)V"⟩, 15) := ⟨⟨by decide +kernel, by decide +kernel⟩, List.mem_of_getElem? (i := 34) (by decide +kernel), List.mem_of_getElem? (i := 774) (by decide +kernel), List.mem_of_getElem? (i := 775) (by decide +kernel)⟩
theorem lw_p11 : lw_okq (⟨"ChessHouse$Board", "readMen", "([BII)I"⟩, 17) := ⟨⟨by decide +kernel, by decide +kernel⟩, List.mem_of_getElem? (i := 313) (by decide +kernel), List.mem_of_getElem? (i := 789) (by decide +kernel), List.mem_of_getElem? (i := 790) (by decide +kernel)⟩
theorem lw_p12 : lw_okq (⟨"ChessHouse$Board", "readSideAndRights", "([BII)I"⟩, 17) := ⟨⟨by decide +kernel, by decide +kernel⟩, List.mem_of_getElem? (i := 313) (by decide +kernel), List.mem_of_getElem? (i := 853) (by decide +kernel), List.mem_of_getElem? (i := 854) (by decide +kernel)⟩
theorem lw_p13 : lw_okq (⟨"ChessHouse$Board", "readPassed", "([BII)I"⟩, 17) := ⟨⟨by decide +kernel, by decide +kernel⟩, List.mem_of_getElem? (i := 313) (by decide +kernel), List.mem_of_getElem? (i := 859) (by decide +kernel), List.mem_of_getElem? (i := 860) (by decide +kernel)⟩
theorem lw_p14 : lw_okq (⟨"ChessHouse$Board", "readNumbers", "([BII)I"⟩, 17) := ⟨⟨by decide +kernel, by decide +kernel⟩, List.mem_of_getElem? (i := 313) (by decide +kernel), List.mem_of_getElem? (i := 863) (by decide +kernel), List.mem_of_getElem? (i := 864) (by decide +kernel)⟩
theorem lw_p15 : lw_okq (⟨"ChessHouse$Board", "rightsStand", "()Z"⟩, 17) := ⟨⟨by decide +kernel, by decide +kernel⟩, List.mem_of_getElem? (i := 313) (by decide +kernel), List.mem_of_getElem? (i := 871) (by decide +kernel), List.mem_of_getElem? (i := 872) (by decide +kernel)⟩
def lw_privs_1 : List (MethodName × Nat) := [(⟨"ChessHouse$Board", "fillHops", "(I)V"⟩, 17), (⟨"ChessHouse$Board", "put", "(II)V"⟩, 17), (⟨"java/lang/Throwable", "fillInStackTrace", "(I)Ljava/lang/Throwable;"⟩, 6), (⟨"ChessHouse", "takeFour", "(I)V"⟩, 15), (⟨"ChessHouse", "lineStop", "(I)I"⟩, 15), (⟨"ChessHouse$Words", "split", "()Z"⟩, 5), (⟨"ChessHouse", "perform", "(LChessHouse$Command;I)V"⟩, 15), (⟨"ChessHouse", "answerNothing", "()V"⟩, 15), (⟨"ChessHouse", "setUp", "()V"⟩, 15), (⟨"ChessHouse", "fault", "(I)V"⟩, 15), (⟨"ChessHouse", "tell", "(J)V"⟩, 15), (⟨"ChessHouse$Board", "readMen", "([BII)I"⟩, 17), (⟨"ChessHouse$Board", "readSideAndRights", "([BII)I"⟩, 17), (⟨"ChessHouse$Board", "readPassed", "([BII)I"⟩, 17), (⟨"ChessHouse$Board", "readNumbers", "([BII)I"⟩, 17), (⟨"ChessHouse$Board", "rightsStand", "()Z"⟩, 17)]
theorem lw_r1 : ∀ q ∈ lw_privs_1, lw_okq q := List.forall_mem_cons.mpr ⟨lw_p0, List.forall_mem_cons.mpr ⟨lw_p1, List.forall_mem_cons.mpr ⟨lw_p2, List.forall_mem_cons.mpr ⟨lw_p3, List.forall_mem_cons.mpr ⟨lw_p4, List.forall_mem_cons.mpr ⟨lw_p5, List.forall_mem_cons.mpr ⟨lw_p6, List.forall_mem_cons.mpr ⟨lw_p7, List.forall_mem_cons.mpr ⟨lw_p8, List.forall_mem_cons.mpr ⟨lw_p9, List.forall_mem_cons.mpr ⟨lw_p10, List.forall_mem_cons.mpr ⟨lw_p11, List.forall_mem_cons.mpr ⟨lw_p12, List.forall_mem_cons.mpr ⟨lw_p13, List.forall_mem_cons.mpr ⟨lw_p14, List.forall_mem_cons.mpr ⟨lw_p15, fun _ h => absurd h List.not_mem_nil⟩⟩⟩⟩⟩⟩⟩⟩⟩⟩⟩⟩⟩⟩⟩⟩
theorem lw_p16 : lw_okq (⟨"ChessHouse$Board", "passedStands", "()Z"⟩, 17) := ⟨⟨by decide +kernel, by decide +kernel⟩, List.mem_of_getElem? (i := 313) (by decide +kernel), List.mem_of_getElem? (i := 875) (by decide +kernel), List.mem_of_getElem? (i := 876) (by decide +kernel)⟩
theorem lw_p17 : lw_okq (⟨"ChessHouse$Board", "passedPawn", "()I"⟩, 17) := ⟨⟨by decide +kernel, by decide +kernel⟩, List.mem_of_getElem? (i := 313) (by decide +kernel), List.mem_of_getElem? (i := 879) (by decide +kernel), List.mem_of_getElem? (i := 880) (by decide +kernel)⟩
theorem lw_p18 : lw_okq (⟨"ChessHouse", "fault", "(II)V"⟩, 15) := ⟨⟨by decide +kernel, by decide +kernel⟩, List.mem_of_getElem? (i := 34) (by decide +kernel), List.mem_of_getElem? (i := 883) (by decide +kernel), List.mem_of_getElem? (i := 884) (by decide +kernel)⟩
theorem lw_p19 : lw_okq (⟨"ChessHouse", "swapGames", "()V"⟩, 15) := ⟨⟨by decide +kernel, by decide +kernel⟩, List.mem_of_getElem? (i := 34) (by decide +kernel), List.mem_of_getElem? (i := 900) (by decide +kernel), List.mem_of_getElem? (i := 901) (by decide +kernel)⟩
theorem lw_p20 : lw_okq (⟨"ChessHouse", "gameStop", "(I)I"⟩, 15) := ⟨⟨by decide +kernel, by decide +kernel⟩, List.mem_of_getElem? (i := 34) (by decide +kernel), List.mem_of_getElem? (i := 904) (by decide +kernel), List.mem_of_getElem? (i := 905) (by decide +kernel)⟩
theorem lw_p21 : lw_okq (⟨"ChessHouse$GameReader", "checkBytes", "()V"⟩, 12) := ⟨⟨by decide +kernel, by decide +kernel⟩, List.mem_of_getElem? (i := 128) (by decide +kernel), List.mem_of_getElem? (i := 913) (by decide +kernel), List.mem_of_getElem? (i := 914) (by decide +kernel)⟩
theorem lw_p22 : lw_okq (⟨"ChessHouse$GameReader", "fail", "(II)V"⟩, 12) := ⟨⟨by decide +kernel, by decide +kernel⟩, List.mem_of_getElem? (i := 128) (by decide +kernel), List.mem_of_getElem? (i := 917) (by decide +kernel), List.mem_of_getElem? (i := 918) (by decide +kernel)⟩
theorem lw_p23 : lw_okq (⟨"ChessHouse$GameReader", "skipBlanks", "()V"⟩, 12) := ⟨⟨by decide +kernel, by decide +kernel⟩, List.mem_of_getElem? (i := 128) (by decide +kernel), List.mem_of_getElem? (i := 921) (by decide +kernel), List.mem_of_getElem? (i := 922) (by decide +kernel)⟩
theorem lw_p24 : lw_okq (⟨"ChessHouse$GameReader", "current", "()I"⟩, 12) := ⟨⟨by decide +kernel, by decide +kernel⟩, List.mem_of_getElem? (i := 128) (by decide +kernel), List.mem_of_getElem? (i := 925) (by decide +kernel), List.mem_of_getElem? (i := 926) (by decide +kernel)⟩
theorem lw_p25 : lw_okq (⟨"ChessHouse$GameReader", "readTag", "()V"⟩, 12) := ⟨⟨by decide +kernel, by decide +kernel⟩, List.mem_of_getElem? (i := 128) (by decide +kernel), List.mem_of_getElem? (i := 929) (by decide +kernel), List.mem_of_getElem? (i := 930) (by decide +kernel)⟩
theorem lw_p26 : lw_okq (⟨"ChessHouse$GameReader", "pass", "(I)Z"⟩, 12) := ⟨⟨by decide +kernel, by decide +kernel⟩, List.mem_of_getElem? (i := 128) (by decide +kernel), List.mem_of_getElem? (i := 936) (by decide +kernel), List.mem_of_getElem? (i := 937) (by decide +kernel)⟩
theorem lw_p27 : lw_okq (⟨"ChessHouse$GameReader", "readValue", "()I"⟩, 12) := ⟨⟨by decide +kernel, by decide +kernel⟩, List.mem_of_getElem? (i := 128) (by decide +kernel), List.mem_of_getElem? (i := 940) (by decide +kernel), List.mem_of_getElem? (i := 941) (by decide +kernel)⟩
theorem lw_p28 : lw_okq (⟨"ChessHouse$GameReader", "readRemark", "()V"⟩, 12) := ⟨⟨by decide +kernel, by decide +kernel⟩, List.mem_of_getElem? (i := 128) (by decide +kernel), List.mem_of_getElem? (i := 951) (by decide +kernel), List.mem_of_getElem? (i := 952) (by decide +kernel)⟩
theorem lw_p29 : lw_okq (⟨"ChessHouse$GameReader", "readMark", "()V"⟩, 12) := ⟨⟨by decide +kernel, by decide +kernel⟩, List.mem_of_getElem? (i := 128) (by decide +kernel), List.mem_of_getElem? (i := 959) (by decide +kernel), List.mem_of_getElem? (i := 960) (by decide +kernel)⟩
theorem lw_p30 : lw_okq (⟨"ChessHouse$GameReader", "readBracket", "()V"⟩, 12) := ⟨⟨by decide +kernel, by decide +kernel⟩, List.mem_of_getElem? (i := 128) (by decide +kernel), List.mem_of_getElem? (i := 970) (by decide +kernel), List.mem_of_getElem? (i := 971) (by decide +kernel)⟩
theorem lw_p31 : lw_okq (⟨"ChessHouse$Board", "lift", "(I)V"⟩, 17) := ⟨⟨by decide +kernel, by decide +kernel⟩, List.mem_of_getElem? (i := 313) (by decide +kernel), List.mem_of_getElem? (i := 986) (by decide +kernel), List.mem_of_getElem? (i := 987) (by decide +kernel)⟩
def lw_privs_2 : List (MethodName × Nat) := [(⟨"ChessHouse$Board", "passedStands", "()Z"⟩, 17), (⟨"ChessHouse$Board", "passedPawn", "()I"⟩, 17), (⟨"ChessHouse", "fault", "(II)V"⟩, 15), (⟨"ChessHouse", "swapGames", "()V"⟩, 15), (⟨"ChessHouse", "gameStop", "(I)I"⟩, 15), (⟨"ChessHouse$GameReader", "checkBytes", "()V"⟩, 12), (⟨"ChessHouse$GameReader", "fail", "(II)V"⟩, 12), (⟨"ChessHouse$GameReader", "skipBlanks", "()V"⟩, 12), (⟨"ChessHouse$GameReader", "current", "()I"⟩, 12), (⟨"ChessHouse$GameReader", "readTag", "()V"⟩, 12), (⟨"ChessHouse$GameReader", "pass", "(I)Z"⟩, 12), (⟨"ChessHouse$GameReader", "readValue", "()I"⟩, 12), (⟨"ChessHouse$GameReader", "readRemark", "()V"⟩, 12), (⟨"ChessHouse$GameReader", "readMark", "()V"⟩, 12), (⟨"ChessHouse$GameReader", "readBracket", "()V"⟩, 12), (⟨"ChessHouse$Board", "lift", "(I)V"⟩, 17)]
theorem lw_r2 : ∀ q ∈ lw_privs_2, lw_okq q := List.forall_mem_cons.mpr ⟨lw_p16, List.forall_mem_cons.mpr ⟨lw_p17, List.forall_mem_cons.mpr ⟨lw_p18, List.forall_mem_cons.mpr ⟨lw_p19, List.forall_mem_cons.mpr ⟨lw_p20, List.forall_mem_cons.mpr ⟨lw_p21, List.forall_mem_cons.mpr ⟨lw_p22, List.forall_mem_cons.mpr ⟨lw_p23, List.forall_mem_cons.mpr ⟨lw_p24, List.forall_mem_cons.mpr ⟨lw_p25, List.forall_mem_cons.mpr ⟨lw_p26, List.forall_mem_cons.mpr ⟨lw_p27, List.forall_mem_cons.mpr ⟨lw_p28, List.forall_mem_cons.mpr ⟨lw_p29, List.forall_mem_cons.mpr ⟨lw_p30, List.forall_mem_cons.mpr ⟨lw_p31, fun _ h => absurd h List.not_mem_nil⟩⟩⟩⟩⟩⟩⟩⟩⟩⟩⟩⟩⟩⟩⟩⟩
theorem lw_p32 : lw_okq (⟨"ChessHouse$Board", "rest", "()I"⟩, 17) := ⟨⟨by decide +kernel, by decide +kernel⟩, List.mem_of_getElem? (i := 313) (by decide +kernel), List.mem_of_getElem? (i := 999) (by decide +kernel), List.mem_of_getElem? (i := 1000) (by decide +kernel)⟩
theorem lw_p33 : lw_okq (⟨"ChessHouse$Board", "passedBy", "(II)I"⟩, 17) := ⟨⟨by decide +kernel, by decide +kernel⟩, List.mem_of_getElem? (i := 313) (by decide +kernel), List.mem_of_getElem? (i := 1009) (by decide +kernel), List.mem_of_getElem? (i := 1010) (by decide +kernel)⟩
theorem lw_p34 : lw_okq (⟨"ChessHouse$GameReader", "readResult", "()Z"⟩, 12) := ⟨⟨by decide +kernel, by decide +kernel⟩, List.mem_of_getElem? (i := 128) (by decide +kernel), List.mem_of_getElem? (i := 1014) (by decide +kernel), List.mem_of_getElem? (i := 1015) (by decide +kernel)⟩
theorem lw_p35 : lw_okq (⟨"ChessHouse$GameReader", "startsWith", "(Ljava/lang/String;)Z"⟩, 12) := ⟨⟨by decide +kernel, by decide +kernel⟩, List.mem_of_getElem? (i := 128) (by decide +kernel), List.mem_of_getElem? (i := 1025) (by decide +kernel), List.mem_of_getElem? (i := 1026) (by decide +kernel)⟩
theorem lw_p36 : lw_okq (⟨"ChessHouse$GameReader", "readMove", "()V"⟩, 12) := ⟨⟨by decide +kernel, by decide +kernel⟩, List.mem_of_getElem? (i := 128) (by decide +kernel), List.mem_of_getElem? (i := 1040) (by decide +kernel), List.mem_of_getElem? (i := 1041) (by decide +kernel)⟩
theorem lw_p37 : lw_okq (⟨"ChessHouse$GameReader", "readNumber", "()V"⟩, 12) := ⟨⟨by decide +kernel, by decide +kernel⟩, List.mem_of_getElem? (i := 128) (by decide +kernel), List.mem_of_getElem? (i := 1044) (by decide +kernel), List.mem_of_getElem? (i := 1045) (by decide +kernel)⟩
theorem lw_p38 : lw_okq (⟨"ChessHouse$Board", "pawnMoves", "([III)I"⟩, 17) := ⟨⟨by decide +kernel, by decide +kernel⟩, List.mem_of_getElem? (i := 313) (by decide +kernel), List.mem_of_getElem? (i := 1056) (by decide +kernel), List.mem_of_getElem? (i := 1057) (by decide +kernel)⟩
theorem lw_p39 : lw_okq (⟨"ChessHouse$Board", "hopMoves", "([III)I"⟩, 17) := ⟨⟨by decide +kernel, by decide +kernel⟩, List.mem_of_getElem? (i := 313) (by decide +kernel), List.mem_of_getElem? (i := 1060) (by decide +kernel), List.mem_of_getElem? (i := 1061) (by decide +kernel)⟩
theorem lw_p40 : lw_okq (⟨"ChessHouse$Board", "kingMoves", "([IIIZ)I"⟩, 17) := ⟨⟨by decide +kernel, by decide +kernel⟩, List.mem_of_getElem? (i := 313) (by decide +kernel), List.mem_of_getElem? (i := 1064) (by decide +kernel), List.mem_of_getElem? (i := 1065) (by decide +kernel)⟩
theorem lw_p41 : lw_okq (⟨"ChessHouse$Board", "slideMoves", "([IIII)I"⟩, 17) := ⟨⟨by decide +kernel, by decide +kernel⟩, List.mem_of_getElem? (i := 313) (by decide +kernel), List.mem_of_getElem? (i := 1068) (by decide +kernel), List.mem_of_getElem? (i := 1069) (by decide +kernel)⟩
theorem lw_p42 : lw_okq (⟨"ChessHouse$Signs", "copy", "([BIIZ)Z"⟩, 11) := ⟨⟨by decide +kernel, by decide +kernel⟩, List.mem_of_getElem? (i := 88) (by decide +kernel), List.mem_of_getElem? (i := 1075) (by decide +kernel), List.mem_of_getElem? (i := 1076) (by decide +kernel)⟩
theorem lw_p43 : lw_okq (⟨"ChessHouse$Signs", "parse", "()Z"⟩, 11) := ⟨⟨by decide +kernel, by decide +kernel⟩, List.mem_of_getElem? (i := 88) (by decide +kernel), List.mem_of_getElem? (i := 1079) (by decide +kernel), List.mem_of_getElem? (i := 1080) (by decide +kernel)⟩
theorem lw_p44 : lw_okq (⟨"ChessHouse$Signs", "isRow", "(Ljava/lang/String;)Z"⟩, 11) := ⟨⟨by decide +kernel, by decide +kernel⟩, List.mem_of_getElem? (i := 88) (by decide +kernel), List.mem_of_getElem? (i := 1084) (by decide +kernel), List.mem_of_getElem? (i := 1085) (by decide +kernel)⟩
theorem lw_p45 : lw_okq (⟨"ChessHouse$Signs", "parseSquares", "(I)Z"⟩, 11) := ⟨⟨by decide +kernel, by decide +kernel⟩, List.mem_of_getElem? (i := 88) (by decide +kernel), List.mem_of_getElem? (i := 1093) (by decide +kernel), List.mem_of_getElem? (i := 1094) (by decide +kernel)⟩
theorem lw_p46 : lw_okq (⟨"ChessHouse$Signs", "fits", "(LChessHouse$Board;I)Z"⟩, 11) := ⟨⟨by decide +kernel, by decide +kernel⟩, List.mem_of_getElem? (i := 88) (by decide +kernel), List.mem_of_getElem? (i := 1103) (by decide +kernel), List.mem_of_getElem? (i := 1104) (by decide +kernel)⟩
theorem lw_p47 : lw_okq (⟨"ChessHouse$Signs", "checkSign", "(LChessHouse$Board;II)I"⟩, 11) := ⟨⟨by decide +kernel, by decide +kernel⟩, List.mem_of_getElem? (i := 88) (by decide +kernel), List.mem_of_getElem? (i := 1111) (by decide +kernel), List.mem_of_getElem? (i := 1112) (by decide +kernel)⟩
def lw_privs_3 : List (MethodName × Nat) := [(⟨"ChessHouse$Board", "rest", "()I"⟩, 17), (⟨"ChessHouse$Board", "passedBy", "(II)I"⟩, 17), (⟨"ChessHouse$GameReader", "readResult", "()Z"⟩, 12), (⟨"ChessHouse$GameReader", "startsWith", "(Ljava/lang/String;)Z"⟩, 12), (⟨"ChessHouse$GameReader", "readMove", "()V"⟩, 12), (⟨"ChessHouse$GameReader", "readNumber", "()V"⟩, 12), (⟨"ChessHouse$Board", "pawnMoves", "([III)I"⟩, 17), (⟨"ChessHouse$Board", "hopMoves", "([III)I"⟩, 17), (⟨"ChessHouse$Board", "kingMoves", "([IIIZ)I"⟩, 17), (⟨"ChessHouse$Board", "slideMoves", "([IIII)I"⟩, 17), (⟨"ChessHouse$Signs", "copy", "([BIIZ)Z"⟩, 11), (⟨"ChessHouse$Signs", "parse", "()Z"⟩, 11), (⟨"ChessHouse$Signs", "isRow", "(Ljava/lang/String;)Z"⟩, 11), (⟨"ChessHouse$Signs", "parseSquares", "(I)Z"⟩, 11), (⟨"ChessHouse$Signs", "fits", "(LChessHouse$Board;I)Z"⟩, 11), (⟨"ChessHouse$Signs", "checkSign", "(LChessHouse$Board;II)I"⟩, 11)]
theorem lw_r3 : ∀ q ∈ lw_privs_3, lw_okq q := List.forall_mem_cons.mpr ⟨lw_p32, List.forall_mem_cons.mpr ⟨lw_p33, List.forall_mem_cons.mpr ⟨lw_p34, List.forall_mem_cons.mpr ⟨lw_p35, List.forall_mem_cons.mpr ⟨lw_p36, List.forall_mem_cons.mpr ⟨lw_p37, List.forall_mem_cons.mpr ⟨lw_p38, List.forall_mem_cons.mpr ⟨lw_p39, List.forall_mem_cons.mpr ⟨lw_p40, List.forall_mem_cons.mpr ⟨lw_p41, List.forall_mem_cons.mpr ⟨lw_p42, List.forall_mem_cons.mpr ⟨lw_p43, List.forall_mem_cons.mpr ⟨lw_p44, List.forall_mem_cons.mpr ⟨lw_p45, List.forall_mem_cons.mpr ⟨lw_p46, List.forall_mem_cons.mpr ⟨lw_p47, fun _ h => absurd h List.not_mem_nil⟩⟩⟩⟩⟩⟩⟩⟩⟩⟩⟩⟩⟩⟩⟩⟩
theorem lw_p48 : lw_okq (⟨"ChessHouse", "answerGame", "(I)V"⟩, 15) := ⟨⟨by decide +kernel, by decide +kernel⟩, List.mem_of_getElem? (i := 34) (by decide +kernel), List.mem_of_getElem? (i := 1129) (by decide +kernel), List.mem_of_getElem? (i := 1130) (by decide +kernel)⟩
theorem lw_p49 : lw_okq (⟨"ChessHouse", "answerNumber", "(J)V"⟩, 15) := ⟨⟨by decide +kernel, by decide +kernel⟩, List.mem_of_getElem? (i := 34) (by decide +kernel), List.mem_of_getElem? (i := 1133) (by decide +kernel), List.mem_of_getElem? (i := 1134) (by decide +kernel)⟩
theorem lw_p50 : lw_okq (⟨"ChessHouse$GameWriter", "writeTags", "()V"⟩, 3) := ⟨⟨by decide +kernel, by decide +kernel⟩, List.mem_of_getElem? (i := 174) (by decide +kernel), List.mem_of_getElem? (i := 1144) (by decide +kernel), List.mem_of_getElem? (i := 1145) (by decide +kernel)⟩
theorem lw_p51 : lw_okq (⟨"ChessHouse$GameWriter", "writeRemark", "(I)Z"⟩, 3) := ⟨⟨by decide +kernel, by decide +kernel⟩, List.mem_of_getElem? (i := 174) (by decide +kernel), List.mem_of_getElem? (i := 1161) (by decide +kernel), List.mem_of_getElem? (i := 1162) (by decide +kernel)⟩
theorem lw_p52 : lw_okq (⟨"ChessHouse$GameWriter", "writeGap", "()V"⟩, 3) := ⟨⟨by decide +kernel, by decide +kernel⟩, List.mem_of_getElem? (i := 174) (by decide +kernel), List.mem_of_getElem? (i := 1165) (by decide +kernel), List.mem_of_getElem? (i := 1166) (by decide +kernel)⟩
theorem lw_p53 : lw_okq (⟨"ChessHouse$GameWriter", "writeLine", "(II)V"⟩, 3) := ⟨⟨by decide +kernel, by decide +kernel⟩, List.mem_of_getElem? (i := 174) (by decide +kernel), List.mem_of_getElem? (i := 1173) (by decide +kernel), List.mem_of_getElem? (i := 1174) (by decide +kernel)⟩
theorem lw_p54 : lw_okq (⟨"ChessHouse$GameWriter", "writeNumber", "(LChessHouse$Board;)V"⟩, 3) := ⟨⟨by decide +kernel, by decide +kernel⟩, List.mem_of_getElem? (i := 174) (by decide +kernel), List.mem_of_getElem? (i := 1177) (by decide +kernel), List.mem_of_getElem? (i := 1178) (by decide +kernel)⟩
theorem lw_p55 : lw_okq (⟨"ChessHouse$Signs", "tellApart", "(LChessHouse$Board;ILChessHouse$Bytes;)V"⟩, 11) := ⟨⟨by decide +kernel, by decide +kernel⟩, List.mem_of_getElem? (i := 88) (by decide +kernel), List.mem_of_getElem? (i := 1190) (by decide +kernel), List.mem_of_getElem? (i := 1191) (by decide +kernel)⟩
theorem lw_p56 : lw_okq (⟨"ChessHouse$GameWriter", "writeMarks", "(I)V"⟩, 3) := ⟨⟨by decide +kernel, by decide +kernel⟩, List.mem_of_getElem? (i := 174) (by decide +kernel), List.mem_of_getElem? (i := 1198) (by decide +kernel), List.mem_of_getElem? (i := 1199) (by decide +kernel)⟩
theorem lw_p57 : lw_okq (⟨"ChessHouse", "answerFen", "()V"⟩, 15) := ⟨⟨by decide +kernel, by decide +kernel⟩, List.mem_of_getElem? (i := 34) (by decide +kernel), List.mem_of_getElem? (i := 1210) (by decide +kernel), List.mem_of_getElem? (i := 1211) (by decide +kernel)⟩
theorem lw_p58 : lw_okq (⟨"ChessHouse", "answerMoves", "()V"⟩, 15) := ⟨⟨by decide +kernel, by decide +kernel⟩, List.mem_of_getElem? (i := 34) (by decide +kernel), List.mem_of_getElem? (i := 1225) (by decide +kernel), List.mem_of_getElem? (i := 1226) (by decide +kernel)⟩
theorem lw_p59 : lw_okq (⟨"ChessHouse", "answerList", "(I)V"⟩, 15) := ⟨⟨by decide +kernel, by decide +kernel⟩, List.mem_of_getElem? (i := 34) (by decide +kernel), List.mem_of_getElem? (i := 1234) (by decide +kernel), List.mem_of_getElem? (i := 1235) (by decide +kernel)⟩
theorem lw_p60 : lw_okq (⟨"ChessHouse", "answerOthers", "()V"⟩, 15) := ⟨⟨by decide +kernel, by decide +kernel⟩, List.mem_of_getElem? (i := 34) (by decide +kernel), List.mem_of_getElem? (i := 1239) (by decide +kernel), List.mem_of_getElem? (i := 1240) (by decide +kernel)⟩
theorem lw_p61 : lw_okq (⟨"ChessHouse", "play", "()V"⟩, 15) := ⟨⟨by decide +kernel, by decide +kernel⟩, List.mem_of_getElem? (i := 34) (by decide +kernel), List.mem_of_getElem? (i := 1243) (by decide +kernel), List.mem_of_getElem? (i := 1244) (by decide +kernel)⟩
theorem lw_p62 : lw_okq (⟨"ChessHouse$Game", "deep", "(I)I"⟩, 19) := ⟨⟨by decide +kernel, by decide +kernel⟩, List.mem_of_getElem? (i := 307) (by decide +kernel), List.mem_of_getElem? (i := 1254) (by decide +kernel), List.mem_of_getElem? (i := 1255) (by decide +kernel)⟩
theorem lw_p63 : lw_okq (⟨"ChessHouse", "back", "()V"⟩, 15) := ⟨⟨by decide +kernel, by decide +kernel⟩, List.mem_of_getElem? (i := 34) (by decide +kernel), List.mem_of_getElem? (i := 1260) (by decide +kernel), List.mem_of_getElem? (i := 1261) (by decide +kernel)⟩
def lw_privs_4 : List (MethodName × Nat) := [(⟨"ChessHouse", "answerGame", "(I)V"⟩, 15), (⟨"ChessHouse", "answerNumber", "(J)V"⟩, 15), (⟨"ChessHouse$GameWriter", "writeTags", "()V"⟩, 3), (⟨"ChessHouse$GameWriter", "writeRemark", "(I)Z"⟩, 3), (⟨"ChessHouse$GameWriter", "writeGap", "()V"⟩, 3), (⟨"ChessHouse$GameWriter", "writeLine", "(II)V"⟩, 3), (⟨"ChessHouse$GameWriter", "writeNumber", "(LChessHouse$Board;)V"⟩, 3), (⟨"ChessHouse$Signs", "tellApart", "(LChessHouse$Board;ILChessHouse$Bytes;)V"⟩, 11), (⟨"ChessHouse$GameWriter", "writeMarks", "(I)V"⟩, 3), (⟨"ChessHouse", "answerFen", "()V"⟩, 15), (⟨"ChessHouse", "answerMoves", "()V"⟩, 15), (⟨"ChessHouse", "answerList", "(I)V"⟩, 15), (⟨"ChessHouse", "answerOthers", "()V"⟩, 15), (⟨"ChessHouse", "play", "()V"⟩, 15), (⟨"ChessHouse$Game", "deep", "(I)I"⟩, 19), (⟨"ChessHouse", "back", "()V"⟩, 15)]
theorem lw_r4 : ∀ q ∈ lw_privs_4, lw_okq q := List.forall_mem_cons.mpr ⟨lw_p48, List.forall_mem_cons.mpr ⟨lw_p49, List.forall_mem_cons.mpr ⟨lw_p50, List.forall_mem_cons.mpr ⟨lw_p51, List.forall_mem_cons.mpr ⟨lw_p52, List.forall_mem_cons.mpr ⟨lw_p53, List.forall_mem_cons.mpr ⟨lw_p54, List.forall_mem_cons.mpr ⟨lw_p55, List.forall_mem_cons.mpr ⟨lw_p56, List.forall_mem_cons.mpr ⟨lw_p57, List.forall_mem_cons.mpr ⟨lw_p58, List.forall_mem_cons.mpr ⟨lw_p59, List.forall_mem_cons.mpr ⟨lw_p60, List.forall_mem_cons.mpr ⟨lw_p61, List.forall_mem_cons.mpr ⟨lw_p62, List.forall_mem_cons.mpr ⟨lw_p63, fun _ h => absurd h List.not_mem_nil⟩⟩⟩⟩⟩⟩⟩⟩⟩⟩⟩⟩⟩⟩⟩⟩
theorem lw_p64 : lw_okq (⟨"ChessHouse", "go", "()V"⟩, 15) := ⟨⟨by decide +kernel, by decide +kernel⟩, List.mem_of_getElem? (i := 34) (by decide +kernel), List.mem_of_getElem? (i := 1271) (by decide +kernel), List.mem_of_getElem? (i := 1272) (by decide +kernel)⟩
theorem lw_p65 : lw_okq (⟨"ChessHouse", "mark", "()V"⟩, 15) := ⟨⟨by decide +kernel, by decide +kernel⟩, List.mem_of_getElem? (i := 34) (by decide +kernel), List.mem_of_getElem? (i := 1275) (by decide +kernel), List.mem_of_getElem? (i := 1276) (by decide +kernel)⟩
theorem lw_p66 : lw_okq (⟨"ChessHouse", "say", "()V"⟩, 15) := ⟨⟨by decide +kernel, by decide +kernel⟩, List.mem_of_getElem? (i := 34) (by decide +kernel), List.mem_of_getElem? (i := 1280) (by decide +kernel), List.mem_of_getElem? (i := 1281) (by decide +kernel)⟩
theorem lw_p67 : lw_okq (⟨"ChessHouse", "lead", "()V"⟩, 15) := ⟨⟨by decide +kernel, by decide +kernel⟩, List.mem_of_getElem? (i := 34) (by decide +kernel), List.mem_of_getElem? (i := 1285) (by decide +kernel), List.mem_of_getElem? (i := 1286) (by decide +kernel)⟩
theorem lw_p68 : lw_okq (⟨"ChessHouse", "endWith", "()V"⟩, 15) := ⟨⟨by decide +kernel, by decide +kernel⟩, List.mem_of_getElem? (i := 34) (by decide +kernel), List.mem_of_getElem? (i := 1298) (by decide +kernel), List.mem_of_getElem? (i := 1299) (by decide +kernel)⟩
theorem lw_p69 : lw_okq (⟨"ChessHouse", "tag", "()V"⟩, 15) := ⟨⟨by decide +kernel, by decide +kernel⟩, List.mem_of_getElem? (i := 34) (by decide +kernel), List.mem_of_getElem? (i := 1304) (by decide +kernel), List.mem_of_getElem? (i := 1305) (by decide +kernel)⟩
theorem lw_p70 : lw_okq (⟨"ChessHouse", "answerState", "()V"⟩, 15) := ⟨⟨by decide +kernel, by decide +kernel⟩, List.mem_of_getElem? (i := 34) (by decide +kernel), List.mem_of_getElem? (i := 1314) (by decide +kernel), List.mem_of_getElem? (i := 1315) (by decide +kernel)⟩
theorem lw_p71 : lw_okq (⟨"ChessHouse", "answerWays", "()V"⟩, 15) := ⟨⟨by decide +kernel, by decide +kernel⟩, List.mem_of_getElem? (i := 34) (by decide +kernel), List.mem_of_getElem? (i := 1327) (by decide +kernel), List.mem_of_getElem? (i := 1328) (by decide +kernel)⟩
theorem lw_p72 : lw_okq (⟨"ChessHouse$Search", "ways", "(LChessHouse$Board;II)J"⟩, 7) := ⟨⟨by decide +kernel, by decide +kernel⟩, List.mem_of_getElem? (i := 195) (by decide +kernel), List.mem_of_getElem? (i := 1338) (by decide +kernel), List.mem_of_getElem? (i := 1339) (by decide +kernel)⟩
theorem lw_p73 : lw_okq (⟨"ChessHouse", "think", "()V"⟩, 15) := ⟨⟨by decide +kernel, by decide +kernel⟩, List.mem_of_getElem? (i := 34) (by decide +kernel), List.mem_of_getElem? (i := 1353) (by decide +kernel), List.mem_of_getElem? (i := 1354) (by decide +kernel)⟩
theorem lw_p74 : lw_okq (⟨"ChessHouse$Search", "value", "(IIIII)I"⟩, 7) := ⟨⟨by decide +kernel, by decide +kernel⟩, List.mem_of_getElem? (i := 195) (by decide +kernel), List.mem_of_getElem? (i := 1370) (by decide +kernel), List.mem_of_getElem? (i := 1371) (by decide +kernel)⟩
theorem lw_p75 : lw_okq (⟨"ChessHouse$Search", "calmValue", "(IIIII)I"⟩, 7) := ⟨⟨by decide +kernel, by decide +kernel⟩, List.mem_of_getElem? (i := 195) (by decide +kernel), List.mem_of_getElem? (i := 1381) (by decide +kernel), List.mem_of_getElem? (i := 1382) (by decide +kernel)⟩
theorem lw_p76 : lw_okq (⟨"ChessHouse$Search", "takingFirst", "(II)I"⟩, 7) := ⟨⟨by decide +kernel, by decide +kernel⟩, List.mem_of_getElem? (i := 195) (by decide +kernel), List.mem_of_getElem? (i := 1387) (by decide +kernel), List.mem_of_getElem? (i := 1388) (by decide +kernel)⟩
theorem lw_p77 : lw_okq (⟨"ChessHouse", "tellSigns", "(I)V"⟩, 15) := ⟨⟨by decide +kernel, by decide +kernel⟩, List.mem_of_getElem? (i := 34) (by decide +kernel), List.mem_of_getElem? (i := 1393) (by decide +kernel), List.mem_of_getElem? (i := 1394) (by decide +kernel)⟩
theorem lw_p78 : lw_okq (⟨"ChessHouse", "test", "()V"⟩, 15) := ⟨⟨by decide +kernel, by decide +kernel⟩, List.mem_of_getElem? (i := 34) (by decide +kernel), List.mem_of_getElem? (i := 1409) (by decide +kernel), List.mem_of_getElem? (i := 1410) (by decide +kernel)⟩
theorem lw_p79 : lw_okq (⟨"ChessHouse", "faultOfSigns", "(I)V"⟩, 15) := ⟨⟨by decide +kernel, by decide +kernel⟩, List.mem_of_getElem? (i := 34) (by decide +kernel), List.mem_of_getElem? (i := 1415) (by decide +kernel), List.mem_of_getElem? (i := 1416) (by decide +kernel)⟩
def lw_privs_5 : List (MethodName × Nat) := [(⟨"ChessHouse", "go", "()V"⟩, 15), (⟨"ChessHouse", "mark", "()V"⟩, 15), (⟨"ChessHouse", "say", "()V"⟩, 15), (⟨"ChessHouse", "lead", "()V"⟩, 15), (⟨"ChessHouse", "endWith", "()V"⟩, 15), (⟨"ChessHouse", "tag", "()V"⟩, 15), (⟨"ChessHouse", "answerState", "()V"⟩, 15), (⟨"ChessHouse", "answerWays", "()V"⟩, 15), (⟨"ChessHouse$Search", "ways", "(LChessHouse$Board;II)J"⟩, 7), (⟨"ChessHouse", "think", "()V"⟩, 15), (⟨"ChessHouse$Search", "value", "(IIIII)I"⟩, 7), (⟨"ChessHouse$Search", "calmValue", "(IIIII)I"⟩, 7), (⟨"ChessHouse$Search", "takingFirst", "(II)I"⟩, 7), (⟨"ChessHouse", "tellSigns", "(I)V"⟩, 15), (⟨"ChessHouse", "test", "()V"⟩, 15), (⟨"ChessHouse", "faultOfSigns", "(I)V"⟩, 15)]
theorem lw_r5 : ∀ q ∈ lw_privs_5, lw_okq q := List.forall_mem_cons.mpr ⟨lw_p64, List.forall_mem_cons.mpr ⟨lw_p65, List.forall_mem_cons.mpr ⟨lw_p66, List.forall_mem_cons.mpr ⟨lw_p67, List.forall_mem_cons.mpr ⟨lw_p68, List.forall_mem_cons.mpr ⟨lw_p69, List.forall_mem_cons.mpr ⟨lw_p70, List.forall_mem_cons.mpr ⟨lw_p71, List.forall_mem_cons.mpr ⟨lw_p72, List.forall_mem_cons.mpr ⟨lw_p73, List.forall_mem_cons.mpr ⟨lw_p74, List.forall_mem_cons.mpr ⟨lw_p75, List.forall_mem_cons.mpr ⟨lw_p76, List.forall_mem_cons.mpr ⟨lw_p77, List.forall_mem_cons.mpr ⟨lw_p78, List.forall_mem_cons.mpr ⟨lw_p79, fun _ h => absurd h List.not_mem_nil⟩⟩⟩⟩⟩⟩⟩⟩⟩⟩⟩⟩⟩⟩⟩⟩
theorem lw_p80 : lw_okq (⟨"ChessHouse", "table", "()V"⟩, 15) := ⟨⟨by decide +kernel, by decide +kernel⟩, List.mem_of_getElem? (i := 34) (by decide +kernel), List.mem_of_getElem? (i := 1423) (by decide +kernel), List.mem_of_getElem? (i := 1424) (by decide +kernel)⟩
theorem lw_p81 : lw_okq (⟨"ChessHouse", "answerKeys", "()V"⟩, 15) := ⟨⟨by decide +kernel, by decide +kernel⟩, List.mem_of_getElem? (i := 34) (by decide +kernel), List.mem_of_getElem? (i := 1427) (by decide +kernel), List.mem_of_getElem? (i := 1428) (by decide +kernel)⟩
theorem lw_p82 : lw_okq (⟨"ChessHouse", "problemMoves", "()I"⟩, 15) := ⟨⟨by decide +kernel, by decide +kernel⟩, List.mem_of_getElem? (i := 34) (by decide +kernel), List.mem_of_getElem? (i := 1431) (by decide +kernel), List.mem_of_getElem? (i := 1432) (by decide +kernel)⟩
theorem lw_p83 : lw_okq (⟨"ChessHouse", "isTooMuchProblem", "(I)Z"⟩, 15) := ⟨⟨by decide +kernel, by decide +kernel⟩, List.mem_of_getElem? (i := 34) (by decide +kernel), List.mem_of_getElem? (i := 1443) (by decide +kernel), List.mem_of_getElem? (i := 1444) (by decide +kernel)⟩
theorem lw_p84 : lw_okq (⟨"ChessHouse$Problems", "refuter", "(III)I"⟩, 10) := ⟨⟨by decide +kernel, by decide +kernel⟩, List.mem_of_getElem? (i := 225) (by decide +kernel), List.mem_of_getElem? (i := 1447) (by decide +kernel), List.mem_of_getElem? (i := 1448) (by decide +kernel)⟩
theorem lw_p85 : lw_okq (⟨"ChessHouse$Problems", "isBeaten", "(I)Z"⟩, 10) := ⟨⟨by decide +kernel, by decide +kernel⟩, List.mem_of_getElem? (i := 225) (by decide +kernel), List.mem_of_getElem? (i := 1454) (by decide +kernel), List.mem_of_getElem? (i := 1455) (by decide +kernel)⟩
theorem lw_p86 : lw_okq (⟨"ChessHouse$Problems", "isSolvable", "(II)Z"⟩, 10) := ⟨⟨by decide +kernel, by decide +kernel⟩, List.mem_of_getElem? (i := 225) (by decide +kernel), List.mem_of_getElem? (i := 1459) (by decide +kernel), List.mem_of_getElem? (i := 1460) (by decide +kernel)⟩
theorem lw_p87 : lw_okq (⟨"ChessHouse", "answerLeast", "()V"⟩, 15) := ⟨⟨by decide +kernel, by decide +kernel⟩, List.mem_of_getElem? (i := 34) (by decide +kernel), List.mem_of_getElem? (i := 1465) (by decide +kernel), List.mem_of_getElem? (i := 1466) (by decide +kernel)⟩
theorem lw_p88 : lw_okq (⟨"ChessHouse", "answerRefuter", "()V"⟩, 15) := ⟨⟨by decide +kernel, by decide +kernel⟩, List.mem_of_getElem? (i := 34) (by decide +kernel), List.mem_of_getElem? (i := 1470) (by decide +kernel), List.mem_of_getElem? (i := 1471) (by decide +kernel)⟩
theorem lw_p89 : lw_okq (⟨"ChessHouse", "answerHelp", "()V"⟩, 15) := ⟨⟨by decide +kernel, by decide +kernel⟩, List.mem_of_getElem? (i := 34) (by decide +kernel), List.mem_of_getElem? (i := 1476) (by decide +kernel), List.mem_of_getElem? (i := 1477) (by decide +kernel)⟩
theorem lw_p90 : lw_okq (⟨"ChessHouse", "helpMoves", "()I"⟩, 15) := ⟨⟨by decide +kernel, by decide +kernel⟩, List.mem_of_getElem? (i := 34) (by decide +kernel), List.mem_of_getElem? (i := 1480) (by decide +kernel), List.mem_of_getElem? (i := 1481) (by decide +kernel)⟩
theorem lw_p91 : lw_okq (⟨"ChessHouse", "isTooMuchHelp", "(I)Z"⟩, 15) := ⟨⟨by decide +kernel, by decide +kernel⟩, List.mem_of_getElem? (i := 34) (by decide +kernel), List.mem_of_getElem? (i := 1484) (by decide +kernel), List.mem_of_getElem? (i := 1485) (by decide +kernel)⟩
theorem lw_p92 : lw_okq (⟨"ChessHouse$Problems", "help", "(II)V"⟩, 10) := ⟨⟨by decide +kernel, by decide +kernel⟩, List.mem_of_getElem? (i := 225) (by decide +kernel), List.mem_of_getElem? (i := 1488) (by decide +kernel), List.mem_of_getElem? (i := 1489) (by decide +kernel)⟩
theorem lw_p93 : lw_okq (⟨"ChessHouse", "answerLine", "()V"⟩, 15) := ⟨⟨by decide +kernel, by decide +kernel⟩, List.mem_of_getElem? (i := 34) (by decide +kernel), List.mem_of_getElem? (i := 1493) (by decide +kernel), List.mem_of_getElem? (i := 1494) (by decide +kernel)⟩
theorem lw_p94 : lw_okq (⟨"ChessHouse", "answerEnds", "()V"⟩, 15) := ⟨⟨by decide +kernel, by decide +kernel⟩, List.mem_of_getElem? (i := 34) (by decide +kernel), List.mem_of_getElem? (i := 1497) (by decide +kernel), List.mem_of_getElem? (i := 1498) (by decide +kernel)⟩
theorem lw_p95 : lw_okq (⟨"ChessHouse$Endings", "build", "(I)[B"⟩, 10) := ⟨⟨by decide +kernel, by decide +kernel⟩, List.mem_of_getElem? (i := 268) (by decide +kernel), List.mem_of_getElem? (i := 1512) (by decide +kernel), List.mem_of_getElem? (i := 1513) (by decide +kernel)⟩
def lw_privs_6 : List (MethodName × Nat) := [(⟨"ChessHouse", "table", "()V"⟩, 15), (⟨"ChessHouse", "answerKeys", "()V"⟩, 15), (⟨"ChessHouse", "problemMoves", "()I"⟩, 15), (⟨"ChessHouse", "isTooMuchProblem", "(I)Z"⟩, 15), (⟨"ChessHouse$Problems", "refuter", "(III)I"⟩, 10), (⟨"ChessHouse$Problems", "isBeaten", "(I)Z"⟩, 10), (⟨"ChessHouse$Problems", "isSolvable", "(II)Z"⟩, 10), (⟨"ChessHouse", "answerLeast", "()V"⟩, 15), (⟨"ChessHouse", "answerRefuter", "()V"⟩, 15), (⟨"ChessHouse", "answerHelp", "()V"⟩, 15), (⟨"ChessHouse", "helpMoves", "()I"⟩, 15), (⟨"ChessHouse", "isTooMuchHelp", "(I)Z"⟩, 15), (⟨"ChessHouse$Problems", "help", "(II)V"⟩, 10), (⟨"ChessHouse", "answerLine", "()V"⟩, 15), (⟨"ChessHouse", "answerEnds", "()V"⟩, 15), (⟨"ChessHouse$Endings", "build", "(I)[B"⟩, 10)]
theorem lw_r6 : ∀ q ∈ lw_privs_6, lw_okq q := List.forall_mem_cons.mpr ⟨lw_p80, List.forall_mem_cons.mpr ⟨lw_p81, List.forall_mem_cons.mpr ⟨lw_p82, List.forall_mem_cons.mpr ⟨lw_p83, List.forall_mem_cons.mpr ⟨lw_p84, List.forall_mem_cons.mpr ⟨lw_p85, List.forall_mem_cons.mpr ⟨lw_p86, List.forall_mem_cons.mpr ⟨lw_p87, List.forall_mem_cons.mpr ⟨lw_p88, List.forall_mem_cons.mpr ⟨lw_p89, List.forall_mem_cons.mpr ⟨lw_p90, List.forall_mem_cons.mpr ⟨lw_p91, List.forall_mem_cons.mpr ⟨lw_p92, List.forall_mem_cons.mpr ⟨lw_p93, List.forall_mem_cons.mpr ⟨lw_p94, List.forall_mem_cons.mpr ⟨lw_p95, fun _ h => absurd h List.not_mem_nil⟩⟩⟩⟩⟩⟩⟩⟩⟩⟩⟩⟩⟩⟩⟩⟩
theorem lw_p96 : lw_okq (⟨"ChessHouse$Endings", "seed", "()V"⟩, 10) := ⟨⟨by decide +kernel, by decide +kernel⟩, List.mem_of_getElem? (i := 268) (by decide +kernel), List.mem_of_getElem? (i := 1518) (by decide +kernel), List.mem_of_getElem? (i := 1519) (by decide +kernel)⟩
theorem lw_p97 : lw_okq (⟨"ChessHouse$Endings", "hits", "(III)Z"⟩, 10) := ⟨⟨by decide +kernel, by decide +kernel⟩, List.mem_of_getElem? (i := 268) (by decide +kernel), List.mem_of_getElem? (i := 1525) (by decide +kernel), List.mem_of_getElem? (i := 1526) (by decide +kernel)⟩
theorem lw_p98 : lw_okq (⟨"ChessHouse$Endings", "isLost", "(III)Z"⟩, 10) := ⟨⟨by decide +kernel, by decide +kernel⟩, List.mem_of_getElem? (i := 268) (by decide +kernel), List.mem_of_getElem? (i := 1529) (by decide +kernel), List.mem_of_getElem? (i := 1530) (by decide +kernel)⟩
theorem lw_p99 : lw_okq (⟨"ChessHouse$Endings", "mark", "(II)V"⟩, 10) := ⟨⟨by decide +kernel, by decide +kernel⟩, List.mem_of_getElem? (i := 268) (by decide +kernel), List.mem_of_getElem? (i := 1541) (by decide +kernel), List.mem_of_getElem? (i := 1542) (by decide +kernel)⟩
theorem lw_p100 : lw_okq (⟨"ChessHouse$Endings", "distanceAt", "(IIIII)I"⟩, 10) := ⟨⟨by decide +kernel, by decide +kernel⟩, List.mem_of_getElem? (i := 268) (by decide +kernel), List.mem_of_getElem? (i := 1545) (by decide +kernel), List.mem_of_getElem? (i := 1546) (by decide +kernel)⟩
theorem lw_p101 : lw_okq (⟨"ChessHouse$Endings", "bringIn", "(I)V"⟩, 10) := ⟨⟨by decide +kernel, by decide +kernel⟩, List.mem_of_getElem? (i := 268) (by decide +kernel), List.mem_of_getElem? (i := 1549) (by decide +kernel), List.mem_of_getElem? (i := 1550) (by decide +kernel)⟩
theorem lw_p102 : lw_okq (⟨"ChessHouse$Endings", "blackBefore", "(IIII)V"⟩, 10) := ⟨⟨by decide +kernel, by decide +kernel⟩, List.mem_of_getElem? (i := 268) (by decide +kernel), List.mem_of_getElem? (i := 1554) (by decide +kernel), List.mem_of_getElem? (i := 1555) (by decide +kernel)⟩
theorem lw_p103 : lw_okq (⟨"ChessHouse$Endings", "whiteBefore", "(IIII)V"⟩, 10) := ⟨⟨by decide +kernel, by decide +kernel⟩, List.mem_of_getElem? (i := 268) (by decide +kernel), List.mem_of_getElem? (i := 1558) (by decide +kernel), List.mem_of_getElem? (i := 1559) (by decide +kernel)⟩
theorem lw_p104 : lw_okq (⟨"ChessHouse$Endings", "manBefore", "(IIII)V"⟩, 10) := ⟨⟨by decide +kernel, by decide +kernel⟩, List.mem_of_getElem? (i := 268) (by decide +kernel), List.mem_of_getElem? (i := 1562) (by decide +kernel), List.mem_of_getElem? (i := 1563) (by decide +kernel)⟩
theorem lw_p105 : lw_okq (⟨"ChessHouse$Endings", "distanceOf", "(LChessHouse$Board;I)I"⟩, 10) := ⟨⟨by decide +kernel, by decide +kernel⟩, List.mem_of_getElem? (i := 268) (by decide +kernel), List.mem_of_getElem? (i := 1570) (by decide +kernel), List.mem_of_getElem? (i := 1571) (by decide +kernel)⟩
theorem lw_p106 : lw_okq (⟨"ChessHouseModel$Texts", "clearGame", "(I)V"⟩, 40) := ⟨⟨by decide +kernel, by decide +kernel⟩, List.mem_of_getElem? (i := 1608) (by decide +kernel), List.mem_of_getElem? (i := 1617) (by decide +kernel), List.mem_of_getElem? (i := 1618) (by decide +kernel)⟩
theorem lw_p107 : lw_okq (⟨"ChessHouseModel$Texts", "clearNode", "(I)V"⟩, 40) := ⟨⟨by decide +kernel, by decide +kernel⟩, List.mem_of_getElem? (i := 1608) (by decide +kernel), List.mem_of_getElem? (i := 1621) (by decide +kernel), List.mem_of_getElem? (i := 1622) (by decide +kernel)⟩
theorem lw_p108 : lw_okq (⟨"ChessHouseModel$Texts", "usual", "(I)V"⟩, 40) := ⟨⟨by decide +kernel, by decide +kernel⟩, List.mem_of_getElem? (i := 1608) (by decide +kernel), List.mem_of_getElem? (i := 1625) (by decide +kernel), List.mem_of_getElem? (i := 1626) (by decide +kernel)⟩
theorem lw_p109 : lw_okq (⟨"ChessHouseModel$Texts", "start", "(I)V"⟩, 40) := ⟨⟨by decide +kernel, by decide +kernel⟩, List.mem_of_getElem? (i := 1608) (by decide +kernel), List.mem_of_getElem? (i := 1629) (by decide +kernel), List.mem_of_getElem? (i := 1630) (by decide +kernel)⟩
theorem lw_p110 : lw_okq (⟨"ChessHouseModel$Texts", "place", "(II)V"⟩, 40) := ⟨⟨by decide +kernel, by decide +kernel⟩, List.mem_of_getElem? (i := 1608) (by decide +kernel), List.mem_of_getElem? (i := 1633) (by decide +kernel), List.mem_of_getElem? (i := 1634) (by decide +kernel)⟩
theorem lw_p111 : lw_okq (⟨"ChessHouseModel$Texts", "make", "(I)V"⟩, 40) := ⟨⟨by decide +kernel, by decide +kernel⟩, List.mem_of_getElem? (i := 1608) (by decide +kernel), List.mem_of_getElem? (i := 1637) (by decide +kernel), List.mem_of_getElem? (i := 1638) (by decide +kernel)⟩
def lw_privs_7 : List (MethodName × Nat) := [(⟨"ChessHouse$Endings", "seed", "()V"⟩, 10), (⟨"ChessHouse$Endings", "hits", "(III)Z"⟩, 10), (⟨"ChessHouse$Endings", "isLost", "(III)Z"⟩, 10), (⟨"ChessHouse$Endings", "mark", "(II)V"⟩, 10), (⟨"ChessHouse$Endings", "distanceAt", "(IIIII)I"⟩, 10), (⟨"ChessHouse$Endings", "bringIn", "(I)V"⟩, 10), (⟨"ChessHouse$Endings", "blackBefore", "(IIII)V"⟩, 10), (⟨"ChessHouse$Endings", "whiteBefore", "(IIII)V"⟩, 10), (⟨"ChessHouse$Endings", "manBefore", "(IIII)V"⟩, 10), (⟨"ChessHouse$Endings", "distanceOf", "(LChessHouse$Board;I)I"⟩, 10), (⟨"ChessHouseModel$Texts", "clearGame", "(I)V"⟩, 40), (⟨"ChessHouseModel$Texts", "clearNode", "(I)V"⟩, 40), (⟨"ChessHouseModel$Texts", "usual", "(I)V"⟩, 40), (⟨"ChessHouseModel$Texts", "start", "(I)V"⟩, 40), (⟨"ChessHouseModel$Texts", "place", "(II)V"⟩, 40), (⟨"ChessHouseModel$Texts", "make", "(I)V"⟩, 40)]
theorem lw_r7 : ∀ q ∈ lw_privs_7, lw_okq q := List.forall_mem_cons.mpr ⟨lw_p96, List.forall_mem_cons.mpr ⟨lw_p97, List.forall_mem_cons.mpr ⟨lw_p98, List.forall_mem_cons.mpr ⟨lw_p99, List.forall_mem_cons.mpr ⟨lw_p100, List.forall_mem_cons.mpr ⟨lw_p101, List.forall_mem_cons.mpr ⟨lw_p102, List.forall_mem_cons.mpr ⟨lw_p103, List.forall_mem_cons.mpr ⟨lw_p104, List.forall_mem_cons.mpr ⟨lw_p105, List.forall_mem_cons.mpr ⟨lw_p106, List.forall_mem_cons.mpr ⟨lw_p107, List.forall_mem_cons.mpr ⟨lw_p108, List.forall_mem_cons.mpr ⟨lw_p109, List.forall_mem_cons.mpr ⟨lw_p110, List.forall_mem_cons.mpr ⟨lw_p111, fun _ h => absurd h List.not_mem_nil⟩⟩⟩⟩⟩⟩⟩⟩⟩⟩⟩⟩⟩⟩⟩⟩
theorem lw_p112 : lw_okq (⟨"ChessHouseModel$Texts", "isTaking", "(I)Z"⟩, 40) := ⟨⟨by decide +kernel, by decide +kernel⟩, List.mem_of_getElem? (i := 1608) (by decide +kernel), List.mem_of_getElem? (i := 1644) (by decide +kernel), List.mem_of_getElem? (i := 1645) (by decide +kernel)⟩
theorem lw_p113 : lw_okq (⟨"ChessHouseModel$Texts", "lose", "(I)V"⟩, 40) := ⟨⟨by decide +kernel, by decide +kernel⟩, List.mem_of_getElem? (i := 1608) (by decide +kernel), List.mem_of_getElem? (i := 1648) (by decide +kernel), List.mem_of_getElem? (i := 1649) (by decide +kernel)⟩
theorem lw_p114 : lw_okq (⟨"ChessHouseModel$Texts", "stands", "(II)Z"⟩, 40) := ⟨⟨by decide +kernel, by decide +kernel⟩, List.mem_of_getElem? (i := 1608) (by decide +kernel), List.mem_of_getElem? (i := 1655) (by decide +kernel), List.mem_of_getElem? (i := 1656) (by decide +kernel)⟩
theorem lw_p115 : lw_okq (⟨"ChessHouseModel$Texts", "findMoves", "()V"⟩, 40) := ⟨⟨by decide +kernel, by decide +kernel⟩, List.mem_of_getElem? (i := 1608) (by decide +kernel), List.mem_of_getElem? (i := 1659) (by decide +kernel), List.mem_of_getElem? (i := 1660) (by decide +kernel)⟩
theorem lw_p116 : lw_okq (⟨"ChessHouseModel$Texts", "goes", "(II)Z"⟩, 40) := ⟨⟨by decide +kernel, by decide +kernel⟩, List.mem_of_getElem? (i := 1608) (by decide +kernel), List.mem_of_getElem? (i := 1666) (by decide +kernel), List.mem_of_getElem? (i := 1667) (by decide +kernel)⟩
theorem lw_p117 : lw_okq (⟨"ChessHouseModel$Texts", "pawnGoes", "(II)Z"⟩, 40) := ⟨⟨by decide +kernel, by decide +kernel⟩, List.mem_of_getElem? (i := 1608) (by decide +kernel), List.mem_of_getElem? (i := 1670) (by decide +kernel), List.mem_of_getElem? (i := 1671) (by decide +kernel)⟩
theorem lw_p118 : lw_okq (⟨"ChessHouseModel$Texts", "mayCastle", "(I)Z"⟩, 40) := ⟨⟨by decide +kernel, by decide +kernel⟩, List.mem_of_getElem? (i := 1608) (by decide +kernel), List.mem_of_getElem? (i := 1674) (by decide +kernel), List.mem_of_getElem? (i := 1675) (by decide +kernel)⟩
theorem lw_p119 : lw_okq (⟨"ChessHouseModel$Texts", "isClear", "(II)Z"⟩, 40) := ⟨⟨by decide +kernel, by decide +kernel⟩, List.mem_of_getElem? (i := 1608) (by decide +kernel), List.mem_of_getElem? (i := 1678) (by decide +kernel), List.mem_of_getElem? (i := 1679) (by decide +kernel)⟩
theorem lw_p120 : lw_okq (⟨"ChessHouseModel$Texts", "isAttacked", "(II)Z"⟩, 40) := ⟨⟨by decide +kernel, by decide +kernel⟩, List.mem_of_getElem? (i := 1608) (by decide +kernel), List.mem_of_getElem? (i := 1682) (by decide +kernel), List.mem_of_getElem? (i := 1683) (by decide +kernel)⟩
theorem lw_p121 : lw_okq (⟨"ChessHouseModel$Texts", "met", "(III)I"⟩, 40) := ⟨⟨by decide +kernel, by decide +kernel⟩, List.mem_of_getElem? (i := 1608) (by decide +kernel), List.mem_of_getElem? (i := 1686) (by decide +kernel), List.mem_of_getElem? (i := 1687) (by decide +kernel)⟩
theorem lw_p122 : lw_okq (⟨"ChessHouseModel$Texts", "isSafe", "(I)Z"⟩, 40) := ⟨⟨by decide +kernel, by decide +kernel⟩, List.mem_of_getElem? (i := 1608) (by decide +kernel), List.mem_of_getElem? (i := 1690) (by decide +kernel), List.mem_of_getElem? (i := 1691) (by decide +kernel)⟩
theorem lw_p123 : lw_okq (⟨"ChessHouseModel$Texts", "keep", "()V"⟩, 40) := ⟨⟨by decide +kernel, by decide +kernel⟩, List.mem_of_getElem? (i := 1608) (by decide +kernel), List.mem_of_getElem? (i := 1694) (by decide +kernel), List.mem_of_getElem? (i := 1695) (by decide +kernel)⟩
theorem lw_p124 : lw_okq (⟨"ChessHouseModel$Texts", "isInCheck", "(I)Z"⟩, 40) := ⟨⟨by decide +kernel, by decide +kernel⟩, List.mem_of_getElem? (i := 1608) (by decide +kernel), List.mem_of_getElem? (i := 1698) (by decide +kernel), List.mem_of_getElem? (i := 1699) (by decide +kernel)⟩
theorem lw_p125 : lw_okq (⟨"ChessHouseModel$Texts", "kingOf", "(I)I"⟩, 40) := ⟨⟨by decide +kernel, by decide +kernel⟩, List.mem_of_getElem? (i := 1608) (by decide +kernel), List.mem_of_getElem? (i := 1702) (by decide +kernel), List.mem_of_getElem? (i := 1703) (by decide +kernel)⟩
theorem lw_p126 : lw_okq (⟨"ChessHouseModel$Texts", "bringBack", "()V"⟩, 40) := ⟨⟨by decide +kernel, by decide +kernel⟩, List.mem_of_getElem? (i := 1608) (by decide +kernel), List.mem_of_getElem? (i := 1706) (by decide +kernel), List.mem_of_getElem? (i := 1707) (by decide +kernel)⟩
theorem lw_p127 : lw_okq (⟨"ChessHouseModel", "lay", "(I)V"⟩, 19) := ⟨⟨by decide +kernel, by decide +kernel⟩, List.mem_of_getElem? (i := 1601) (by decide +kernel), List.mem_of_getElem? (i := 2068) (by decide +kernel), List.mem_of_getElem? (i := 2069) (by decide +kernel)⟩
def lw_privs_8 : List (MethodName × Nat) := [(⟨"ChessHouseModel$Texts", "isTaking", "(I)Z"⟩, 40), (⟨"ChessHouseModel$Texts", "lose", "(I)V"⟩, 40), (⟨"ChessHouseModel$Texts", "stands", "(II)Z"⟩, 40), (⟨"ChessHouseModel$Texts", "findMoves", "()V"⟩, 40), (⟨"ChessHouseModel$Texts", "goes", "(II)Z"⟩, 40), (⟨"ChessHouseModel$Texts", "pawnGoes", "(II)Z"⟩, 40), (⟨"ChessHouseModel$Texts", "mayCastle", "(I)Z"⟩, 40), (⟨"ChessHouseModel$Texts", "isClear", "(II)Z"⟩, 40), (⟨"ChessHouseModel$Texts", "isAttacked", "(II)Z"⟩, 40), (⟨"ChessHouseModel$Texts", "met", "(III)I"⟩, 40), (⟨"ChessHouseModel$Texts", "isSafe", "(I)Z"⟩, 40), (⟨"ChessHouseModel$Texts", "keep", "()V"⟩, 40), (⟨"ChessHouseModel$Texts", "isInCheck", "(I)Z"⟩, 40), (⟨"ChessHouseModel$Texts", "kingOf", "(I)I"⟩, 40), (⟨"ChessHouseModel$Texts", "bringBack", "()V"⟩, 40), (⟨"ChessHouseModel", "lay", "(I)V"⟩, 19)]
theorem lw_r8 : ∀ q ∈ lw_privs_8, lw_okq q := List.forall_mem_cons.mpr ⟨lw_p112, List.forall_mem_cons.mpr ⟨lw_p113, List.forall_mem_cons.mpr ⟨lw_p114, List.forall_mem_cons.mpr ⟨lw_p115, List.forall_mem_cons.mpr ⟨lw_p116, List.forall_mem_cons.mpr ⟨lw_p117, List.forall_mem_cons.mpr ⟨lw_p118, List.forall_mem_cons.mpr ⟨lw_p119, List.forall_mem_cons.mpr ⟨lw_p120, List.forall_mem_cons.mpr ⟨lw_p121, List.forall_mem_cons.mpr ⟨lw_p122, List.forall_mem_cons.mpr ⟨lw_p123, List.forall_mem_cons.mpr ⟨lw_p124, List.forall_mem_cons.mpr ⟨lw_p125, List.forall_mem_cons.mpr ⟨lw_p126, List.forall_mem_cons.mpr ⟨lw_p127, fun _ h => absurd h List.not_mem_nil⟩⟩⟩⟩⟩⟩⟩⟩⟩⟩⟩⟩⟩⟩⟩⟩
theorem lw_p128 : lw_okq (⟨"ChessHouseModel", "takeLine", "()V"⟩, 19) := ⟨⟨by decide +kernel, by decide +kernel⟩, List.mem_of_getElem? (i := 1601) (by decide +kernel), List.mem_of_getElem? (i := 2076) (by decide +kernel), List.mem_of_getElem? (i := 2077) (by decide +kernel)⟩
theorem lw_p129 : lw_okq (⟨"ChessHouseModel", "command", "()V"⟩, 19) := ⟨⟨by decide +kernel, by decide +kernel⟩, List.mem_of_getElem? (i := 1601) (by decide +kernel), List.mem_of_getElem? (i := 2080) (by decide +kernel), List.mem_of_getElem? (i := 2081) (by decide +kernel)⟩
theorem lw_p130 : lw_okq (⟨"ChessHouseModel", "isOfText", "()Z"⟩, 19) := ⟨⟨by decide +kernel, by decide +kernel⟩, List.mem_of_getElem? (i := 1601) (by decide +kernel), List.mem_of_getElem? (i := 2084) (by decide +kernel), List.mem_of_getElem? (i := 2085) (by decide +kernel)⟩
theorem lw_p131 : lw_okq (⟨"ChessHouseModel", "fault", "(I)V"⟩, 19) := ⟨⟨by decide +kernel, by decide +kernel⟩, List.mem_of_getElem? (i := 1601) (by decide +kernel), List.mem_of_getElem? (i := 2091) (by decide +kernel), List.mem_of_getElem? (i := 2092) (by decide +kernel)⟩
theorem lw_p132 : lw_okq (⟨"ChessHouseModel", "fault", "(III)V"⟩, 19) := ⟨⟨by decide +kernel, by decide +kernel⟩, List.mem_of_getElem? (i := 1601) (by decide +kernel), List.mem_of_getElem? (i := 2095) (by decide +kernel), List.mem_of_getElem? (i := 2096) (by decide +kernel)⟩
theorem lw_p133 : lw_okq (⟨"ChessHouseModel", "put", "(C)V"⟩, 19) := ⟨⟨by decide +kernel, by decide +kernel⟩, List.mem_of_getElem? (i := 1601) (by decide +kernel), List.mem_of_getElem? (i := 2099) (by decide +kernel), List.mem_of_getElem? (i := 2100) (by decide +kernel)⟩
theorem lw_p134 : lw_okq (⟨"ChessHouseModel", "say", "(J)V"⟩, 19) := ⟨⟨by decide +kernel, by decide +kernel⟩, List.mem_of_getElem? (i := 1601) (by decide +kernel), List.mem_of_getElem? (i := 2103) (by decide +kernel), List.mem_of_getElem? (i := 2104) (by decide +kernel)⟩
theorem lw_p135 : lw_okq (⟨"ChessHouseModel", "putNumber", "(J)V"⟩, 19) := ⟨⟨by decide +kernel, by decide +kernel⟩, List.mem_of_getElem? (i := 1601) (by decide +kernel), List.mem_of_getElem? (i := 2107) (by decide +kernel), List.mem_of_getElem? (i := 2108) (by decide +kernel)⟩
theorem lw_p136 : lw_okq (⟨"ChessHouseModel", "done", "()V"⟩, 19) := ⟨⟨by decide +kernel, by decide +kernel⟩, List.mem_of_getElem? (i := 1601) (by decide +kernel), List.mem_of_getElem? (i := 2112) (by decide +kernel), List.mem_of_getElem? (i := 2113) (by decide +kernel)⟩
theorem lw_p137 : lw_okq (⟨"ChessHouseModel", "isRow", "(Ljava/lang/String;II)Z"⟩, 19) := ⟨⟨by decide +kernel, by decide +kernel⟩, List.mem_of_getElem? (i := 1601) (by decide +kernel), List.mem_of_getElem? (i := 2117) (by decide +kernel), List.mem_of_getElem? (i := 2118) (by decide +kernel)⟩
theorem lw_p138 : lw_okq (⟨"ChessHouseModel", "set", "(I)V"⟩, 19) := ⟨⟨by decide +kernel, by decide +kernel⟩, List.mem_of_getElem? (i := 1601) (by decide +kernel), List.mem_of_getElem? (i := 2123) (by decide +kernel), List.mem_of_getElem? (i := 2124) (by decide +kernel)⟩
theorem lw_p139 : lw_okq (⟨"ChessHouseModel$Board", "fault", "()I"⟩, 37) := ⟨⟨by decide +kernel, by decide +kernel⟩, List.mem_of_getElem? (i := 1863) (by decide +kernel), List.mem_of_getElem? (i := 2127) (by decide +kernel), List.mem_of_getElem? (i := 2128) (by decide +kernel)⟩
theorem lw_p140 : lw_okq (⟨"ChessHouseModel$Board", "readMen", "()I"⟩, 37) := ⟨⟨by decide +kernel, by decide +kernel⟩, List.mem_of_getElem? (i := 1863) (by decide +kernel), List.mem_of_getElem? (i := 2131) (by decide +kernel), List.mem_of_getElem? (i := 2132) (by decide +kernel)⟩
theorem lw_p141 : lw_okq (⟨"ChessHouseModel$Board", "sign", "(I)C"⟩, 37) := ⟨⟨by decide +kernel, by decide +kernel⟩, List.mem_of_getElem? (i := 1863) (by decide +kernel), List.mem_of_getElem? (i := 2135) (by decide +kernel), List.mem_of_getElem? (i := 2136) (by decide +kernel)⟩
theorem lw_p142 : lw_okq (⟨"ChessHouseModel$Board", "readRest", "(I)Z"⟩, 37) := ⟨⟨by decide +kernel, by decide +kernel⟩, List.mem_of_getElem? (i := 1863) (by decide +kernel), List.mem_of_getElem? (i := 2148) (by decide +kernel), List.mem_of_getElem? (i := 2149) (by decide +kernel)⟩
theorem lw_p143 : lw_okq (⟨"ChessHouseModel$Board", "numberAt", "(I)I"⟩, 37) := ⟨⟨by decide +kernel, by decide +kernel⟩, List.mem_of_getElem? (i := 1863) (by decide +kernel), List.mem_of_getElem? (i := 2155) (by decide +kernel), List.mem_of_getElem? (i := 2156) (by decide +kernel)⟩
def lw_privs_9 : List (MethodName × Nat) := [(⟨"ChessHouseModel", "takeLine", "()V"⟩, 19), (⟨"ChessHouseModel", "command", "()V"⟩, 19), (⟨"ChessHouseModel", "isOfText", "()Z"⟩, 19), (⟨"ChessHouseModel", "fault", "(I)V"⟩, 19), (⟨"ChessHouseModel", "fault", "(III)V"⟩, 19), (⟨"ChessHouseModel", "put", "(C)V"⟩, 19), (⟨"ChessHouseModel", "say", "(J)V"⟩, 19), (⟨"ChessHouseModel", "putNumber", "(J)V"⟩, 19), (⟨"ChessHouseModel", "done", "()V"⟩, 19), (⟨"ChessHouseModel", "isRow", "(Ljava/lang/String;II)Z"⟩, 19), (⟨"ChessHouseModel", "set", "(I)V"⟩, 19), (⟨"ChessHouseModel$Board", "fault", "()I"⟩, 37), (⟨"ChessHouseModel$Board", "readMen", "()I"⟩, 37), (⟨"ChessHouseModel$Board", "sign", "(I)C"⟩, 37), (⟨"ChessHouseModel$Board", "readRest", "(I)Z"⟩, 37), (⟨"ChessHouseModel$Board", "numberAt", "(I)I"⟩, 37)]
theorem lw_r9 : ∀ q ∈ lw_privs_9, lw_okq q := List.forall_mem_cons.mpr ⟨lw_p128, List.forall_mem_cons.mpr ⟨lw_p129, List.forall_mem_cons.mpr ⟨lw_p130, List.forall_mem_cons.mpr ⟨lw_p131, List.forall_mem_cons.mpr ⟨lw_p132, List.forall_mem_cons.mpr ⟨lw_p133, List.forall_mem_cons.mpr ⟨lw_p134, List.forall_mem_cons.mpr ⟨lw_p135, List.forall_mem_cons.mpr ⟨lw_p136, List.forall_mem_cons.mpr ⟨lw_p137, List.forall_mem_cons.mpr ⟨lw_p138, List.forall_mem_cons.mpr ⟨lw_p139, List.forall_mem_cons.mpr ⟨lw_p140, List.forall_mem_cons.mpr ⟨lw_p141, List.forall_mem_cons.mpr ⟨lw_p142, List.forall_mem_cons.mpr ⟨lw_p143, fun _ h => absurd h List.not_mem_nil⟩⟩⟩⟩⟩⟩⟩⟩⟩⟩⟩⟩⟩⟩⟩⟩
theorem lw_p144 : lw_okq (⟨"ChessHouseModel$Board", "countOf", "(I)I"⟩, 37) := ⟨⟨by decide +kernel, by decide +kernel⟩, List.mem_of_getElem? (i := 1863) (by decide +kernel), List.mem_of_getElem? (i := 2162) (by decide +kernel), List.mem_of_getElem? (i := 2163) (by decide +kernel)⟩
theorem lw_p145 : lw_okq (⟨"ChessHouseModel$Board", "hasPawnAtEnd", "()Z"⟩, 37) := ⟨⟨by decide +kernel, by decide +kernel⟩, List.mem_of_getElem? (i := 1863) (by decide +kernel), List.mem_of_getElem? (i := 2166) (by decide +kernel), List.mem_of_getElem? (i := 2167) (by decide +kernel)⟩
theorem lw_p146 : lw_okq (⟨"ChessHouseModel$Board", "inCheck", "(I)Z"⟩, 37) := ⟨⟨by decide +kernel, by decide +kernel⟩, List.mem_of_getElem? (i := 1863) (by decide +kernel), List.mem_of_getElem? (i := 2170) (by decide +kernel), List.mem_of_getElem? (i := 2171) (by decide +kernel)⟩
theorem lw_p147 : lw_okq (⟨"ChessHouseModel$Board", "kingOf", "(I)I"⟩, 37) := ⟨⟨by decide +kernel, by decide +kernel⟩, List.mem_of_getElem? (i := 1863) (by decide +kernel), List.mem_of_getElem? (i := 2174) (by decide +kernel), List.mem_of_getElem? (i := 2175) (by decide +kernel)⟩
theorem lw_p148 : lw_okq (⟨"ChessHouseModel$Board", "isAttacked", "(II)Z"⟩, 37) := ⟨⟨by decide +kernel, by decide +kernel⟩, List.mem_of_getElem? (i := 1863) (by decide +kernel), List.mem_of_getElem? (i := 2178) (by decide +kernel), List.mem_of_getElem? (i := 2179) (by decide +kernel)⟩
theorem lw_p149 : lw_okq (⟨"ChessHouseModel$Board", "hasMan", "(II)Z"⟩, 37) := ⟨⟨by decide +kernel, by decide +kernel⟩, List.mem_of_getElem? (i := 1863) (by decide +kernel), List.mem_of_getElem? (i := 2185) (by decide +kernel), List.mem_of_getElem? (i := 2186) (by decide +kernel)⟩
theorem lw_p150 : lw_okq (⟨"ChessHouseModel$Board", "firstMan", "(III)I"⟩, 37) := ⟨⟨by decide +kernel, by decide +kernel⟩, List.mem_of_getElem? (i := 1863) (by decide +kernel), List.mem_of_getElem? (i := 2189) (by decide +kernel), List.mem_of_getElem? (i := 2190) (by decide +kernel)⟩
theorem lw_p151 : lw_okq (⟨"ChessHouseModel$Board", "isRightWrong", "()Z"⟩, 37) := ⟨⟨by decide +kernel, by decide +kernel⟩, List.mem_of_getElem? (i := 1863) (by decide +kernel), List.mem_of_getElem? (i := 2193) (by decide +kernel), List.mem_of_getElem? (i := 2194) (by decide +kernel)⟩
theorem lw_p152 : lw_okq (⟨"ChessHouseModel$Board", "isPassedWrong", "()Z"⟩, 37) := ⟨⟨by decide +kernel, by decide +kernel⟩, List.mem_of_getElem? (i := 1863) (by decide +kernel), List.mem_of_getElem? (i := 2197) (by decide +kernel), List.mem_of_getElem? (i := 2198) (by decide +kernel)⟩
theorem lw_p153 : lw_okq (⟨"ChessHouseModel", "lookAtBoard", "()V"⟩, 19) := ⟨⟨by decide +kernel, by decide +kernel⟩, List.mem_of_getElem? (i := 1601) (by decide +kernel), List.mem_of_getElem? (i := 2202) (by decide +kernel), List.mem_of_getElem? (i := 2203) (by decide +kernel)⟩
theorem lw_p154 : lw_okq (⟨"ChessHouseModel", "goTo", "(I)V"⟩, 19) := ⟨⟨by decide +kernel, by decide +kernel⟩, List.mem_of_getElem? (i := 1601) (by decide +kernel), List.mem_of_getElem? (i := 2208) (by decide +kernel), List.mem_of_getElem? (i := 2209) (by decide +kernel)⟩
theorem lw_p155 : lw_okq (⟨"ChessHouseModel", "nothing", "()V"⟩, 19) := ⟨⟨by decide +kernel, by decide +kernel⟩, List.mem_of_getElem? (i := 1601) (by decide +kernel), List.mem_of_getElem? (i := 2213) (by decide +kernel), List.mem_of_getElem? (i := 2214) (by decide +kernel)⟩
theorem lw_p156 : lw_okq (⟨"ChessHouseModel", "begin", "()V"⟩, 19) := ⟨⟨by decide +kernel, by decide +kernel⟩, List.mem_of_getElem? (i := 1601) (by decide +kernel), List.mem_of_getElem? (i := 2217) (by decide +kernel), List.mem_of_getElem? (i := 2218) (by decide +kernel)⟩
theorem lw_p157 : lw_okq (⟨"ChessHouseModel", "remark", "(I)V"⟩, 19) := ⟨⟨by decide +kernel, by decide +kernel⟩, List.mem_of_getElem? (i := 1601) (by decide +kernel), List.mem_of_getElem? (i := 2222) (by decide +kernel), List.mem_of_getElem? (i := 2223) (by decide +kernel)⟩
theorem lw_p158 : lw_okq (⟨"ChessHouseModel", "answer", "(J)V"⟩, 19) := ⟨⟨by decide +kernel, by decide +kernel⟩, List.mem_of_getElem? (i := 1601) (by decide +kernel), List.mem_of_getElem? (i := 2226) (by decide +kernel), List.mem_of_getElem? (i := 2227) (by decide +kernel)⟩
theorem lw_p159 : lw_okq (⟨"ChessHouseModel", "tag", "(I)V"⟩, 19) := ⟨⟨by decide +kernel, by decide +kernel⟩, List.mem_of_getElem? (i := 1601) (by decide +kernel), List.mem_of_getElem? (i := 2231) (by decide +kernel), List.mem_of_getElem? (i := 2232) (by decide +kernel)⟩
def lw_privs_10 : List (MethodName × Nat) := [(⟨"ChessHouseModel$Board", "countOf", "(I)I"⟩, 37), (⟨"ChessHouseModel$Board", "hasPawnAtEnd", "()Z"⟩, 37), (⟨"ChessHouseModel$Board", "inCheck", "(I)Z"⟩, 37), (⟨"ChessHouseModel$Board", "kingOf", "(I)I"⟩, 37), (⟨"ChessHouseModel$Board", "isAttacked", "(II)Z"⟩, 37), (⟨"ChessHouseModel$Board", "hasMan", "(II)Z"⟩, 37), (⟨"ChessHouseModel$Board", "firstMan", "(III)I"⟩, 37), (⟨"ChessHouseModel$Board", "isRightWrong", "()Z"⟩, 37), (⟨"ChessHouseModel$Board", "isPassedWrong", "()Z"⟩, 37), (⟨"ChessHouseModel", "lookAtBoard", "()V"⟩, 19), (⟨"ChessHouseModel", "goTo", "(I)V"⟩, 19), (⟨"ChessHouseModel", "nothing", "()V"⟩, 19), (⟨"ChessHouseModel", "begin", "()V"⟩, 19), (⟨"ChessHouseModel", "remark", "(I)V"⟩, 19), (⟨"ChessHouseModel", "answer", "(J)V"⟩, 19), (⟨"ChessHouseModel", "tag", "(I)V"⟩, 19)]
theorem lw_r10 : ∀ q ∈ lw_privs_10, lw_okq q := List.forall_mem_cons.mpr ⟨lw_p144, List.forall_mem_cons.mpr ⟨lw_p145, List.forall_mem_cons.mpr ⟨lw_p146, List.forall_mem_cons.mpr ⟨lw_p147, List.forall_mem_cons.mpr ⟨lw_p148, List.forall_mem_cons.mpr ⟨lw_p149, List.forall_mem_cons.mpr ⟨lw_p150, List.forall_mem_cons.mpr ⟨lw_p151, List.forall_mem_cons.mpr ⟨lw_p152, List.forall_mem_cons.mpr ⟨lw_p153, List.forall_mem_cons.mpr ⟨lw_p154, List.forall_mem_cons.mpr ⟨lw_p155, List.forall_mem_cons.mpr ⟨lw_p156, List.forall_mem_cons.mpr ⟨lw_p157, List.forall_mem_cons.mpr ⟨lw_p158, List.forall_mem_cons.mpr ⟨lw_p159, fun _ h => absurd h List.not_mem_nil⟩⟩⟩⟩⟩⟩⟩⟩⟩⟩⟩⟩⟩⟩⟩⟩
theorem lw_p160 : lw_okq (⟨"ChessHouseModel", "tagAt", "(II)I"⟩, 19) := ⟨⟨by decide +kernel, by decide +kernel⟩, List.mem_of_getElem? (i := 1601) (by decide +kernel), List.mem_of_getElem? (i := 2238) (by decide +kernel), List.mem_of_getElem? (i := 2239) (by decide +kernel)⟩
theorem lw_p161 : lw_okq (⟨"ChessHouseModel", "split", "()V"⟩, 19) := ⟨⟨by decide +kernel, by decide +kernel⟩, List.mem_of_getElem? (i := 1601) (by decide +kernel), List.mem_of_getElem? (i := 2243) (by decide +kernel), List.mem_of_getElem? (i := 2244) (by decide +kernel)⟩
theorem lw_p162 : lw_okq (⟨"ChessHouseModel", "tree", "()Z"⟩, 19) := ⟨⟨by decide +kernel, by decide +kernel⟩, List.mem_of_getElem? (i := 1601) (by decide +kernel), List.mem_of_getElem? (i := 2247) (by decide +kernel), List.mem_of_getElem? (i := 2248) (by decide +kernel)⟩
theorem lw_p163 : lw_okq (⟨"ChessHouseModel", "isWord", "(ILjava/lang/String;)Z"⟩, 19) := ⟨⟨by decide +kernel, by decide +kernel⟩, List.mem_of_getElem? (i := 1601) (by decide +kernel), List.mem_of_getElem? (i := 2252) (by decide +kernel), List.mem_of_getElem? (i := 2253) (by decide +kernel)⟩
theorem lw_p164 : lw_okq (⟨"ChessHouseModel", "readGame", "()V"⟩, 19) := ⟨⟨by decide +kernel, by decide +kernel⟩, List.mem_of_getElem? (i := 1601) (by decide +kernel), List.mem_of_getElem? (i := 2258) (by decide +kernel), List.mem_of_getElem? (i := 2259) (by decide +kernel)⟩
theorem lw_p165 : lw_okq (⟨"ChessHouseModel$Texts", "readGame", "(I)I"⟩, 40) := ⟨⟨by decide +kernel, by decide +kernel⟩, List.mem_of_getElem? (i := 1608) (by decide +kernel), List.mem_of_getElem? (i := 2266) (by decide +kernel), List.mem_of_getElem? (i := 2267) (by decide +kernel)⟩
theorem lw_p166 : lw_okq (⟨"ChessHouseModel$Texts", "blanks", "()V"⟩, 40) := ⟨⟨by decide +kernel, by decide +kernel⟩, List.mem_of_getElem? (i := 1608) (by decide +kernel), List.mem_of_getElem? (i := 2270) (by decide +kernel), List.mem_of_getElem? (i := 2271) (by decide +kernel)⟩
theorem lw_p167 : lw_okq (⟨"ChessHouseModel$Texts", "look", "()C"⟩, 40) := ⟨⟨by decide +kernel, by decide +kernel⟩, List.mem_of_getElem? (i := 1608) (by decide +kernel), List.mem_of_getElem? (i := 2274) (by decide +kernel), List.mem_of_getElem? (i := 2275) (by decide +kernel)⟩
theorem lw_p168 : lw_okq (⟨"ChessHouseModel$Texts", "readTag", "(I)I"⟩, 40) := ⟨⟨by decide +kernel, by decide +kernel⟩, List.mem_of_getElem? (i := 1608) (by decide +kernel), List.mem_of_getElem? (i := 2278) (by decide +kernel), List.mem_of_getElem? (i := 2279) (by decide +kernel)⟩
theorem lw_p169 : lw_okq (⟨"ChessHouseModel$Texts", "isNameThere", "(II)Z"⟩, 40) := ⟨⟨by decide +kernel, by decide +kernel⟩, List.mem_of_getElem? (i := 1608) (by decide +kernel), List.mem_of_getElem? (i := 2292) (by decide +kernel), List.mem_of_getElem? (i := 2293) (by decide +kernel)⟩
theorem lw_p170 : lw_okq (⟨"ChessHouseModel$Texts", "isTag", "(III)Z"⟩, 40) := ⟨⟨by decide +kernel, by decide +kernel⟩, List.mem_of_getElem? (i := 1608) (by decide +kernel), List.mem_of_getElem? (i := 2296) (by decide +kernel), List.mem_of_getElem? (i := 2297) (by decide +kernel)⟩
theorem lw_p171 : lw_okq (⟨"ChessHouseModel$Texts", "readPosition", "(II)Z"⟩, 40) := ⟨⟨by decide +kernel, by decide +kernel⟩, List.mem_of_getElem? (i := 1608) (by decide +kernel), List.mem_of_getElem? (i := 2300) (by decide +kernel), List.mem_of_getElem? (i := 2301) (by decide +kernel)⟩
theorem lw_p172 : lw_okq (⟨"ChessHouseModel$Texts", "readRank", "(I)Z"⟩, 40) := ⟨⟨by decide +kernel, by decide +kernel⟩, List.mem_of_getElem? (i := 1608) (by decide +kernel), List.mem_of_getElem? (i := 2304) (by decide +kernel), List.mem_of_getElem? (i := 2305) (by decide +kernel)⟩
theorem lw_p173 : lw_okq (⟨"ChessHouseModel$Texts", "sign", "()C"⟩, 40) := ⟨⟨by decide +kernel, by decide +kernel⟩, List.mem_of_getElem? (i := 1608) (by decide +kernel), List.mem_of_getElem? (i := 2308) (by decide +kernel), List.mem_of_getElem? (i := 2309) (by decide +kernel)⟩
theorem lw_p174 : lw_okq (⟨"ChessHouseModel$Texts", "pass", "(C)Z"⟩, 40) := ⟨⟨by decide +kernel, by decide +kernel⟩, List.mem_of_getElem? (i := 1608) (by decide +kernel), List.mem_of_getElem? (i := 2315) (by decide +kernel), List.mem_of_getElem? (i := 2316) (by decide +kernel)⟩
theorem lw_p175 : lw_okq (⟨"ChessHouseModel$Texts", "readRights", "()Z"⟩, 40) := ⟨⟨by decide +kernel, by decide +kernel⟩, List.mem_of_getElem? (i := 1608) (by decide +kernel), List.mem_of_getElem? (i := 2319) (by decide +kernel), List.mem_of_getElem? (i := 2320) (by decide +kernel)⟩
def lw_privs_11 : List (MethodName × Nat) := [(⟨"ChessHouseModel", "tagAt", "(II)I"⟩, 19), (⟨"ChessHouseModel", "split", "()V"⟩, 19), (⟨"ChessHouseModel", "tree", "()Z"⟩, 19), (⟨"ChessHouseModel", "isWord", "(ILjava/lang/String;)Z"⟩, 19), (⟨"ChessHouseModel", "readGame", "()V"⟩, 19), (⟨"ChessHouseModel$Texts", "readGame", "(I)I"⟩, 40), (⟨"ChessHouseModel$Texts", "blanks", "()V"⟩, 40), (⟨"ChessHouseModel$Texts", "look", "()C"⟩, 40), (⟨"ChessHouseModel$Texts", "readTag", "(I)I"⟩, 40), (⟨"ChessHouseModel$Texts", "isNameThere", "(II)Z"⟩, 40), (⟨"ChessHouseModel$Texts", "isTag", "(III)Z"⟩, 40), (⟨"ChessHouseModel$Texts", "readPosition", "(II)Z"⟩, 40), (⟨"ChessHouseModel$Texts", "readRank", "(I)Z"⟩, 40), (⟨"ChessHouseModel$Texts", "sign", "()C"⟩, 40), (⟨"ChessHouseModel$Texts", "pass", "(C)Z"⟩, 40), (⟨"ChessHouseModel$Texts", "readRights", "()Z"⟩, 40)]
theorem lw_r11 : ∀ q ∈ lw_privs_11, lw_okq q := List.forall_mem_cons.mpr ⟨lw_p160, List.forall_mem_cons.mpr ⟨lw_p161, List.forall_mem_cons.mpr ⟨lw_p162, List.forall_mem_cons.mpr ⟨lw_p163, List.forall_mem_cons.mpr ⟨lw_p164, List.forall_mem_cons.mpr ⟨lw_p165, List.forall_mem_cons.mpr ⟨lw_p166, List.forall_mem_cons.mpr ⟨lw_p167, List.forall_mem_cons.mpr ⟨lw_p168, List.forall_mem_cons.mpr ⟨lw_p169, List.forall_mem_cons.mpr ⟨lw_p170, List.forall_mem_cons.mpr ⟨lw_p171, List.forall_mem_cons.mpr ⟨lw_p172, List.forall_mem_cons.mpr ⟨lw_p173, List.forall_mem_cons.mpr ⟨lw_p174, List.forall_mem_cons.mpr ⟨lw_p175, fun _ h => absurd h List.not_mem_nil⟩⟩⟩⟩⟩⟩⟩⟩⟩⟩⟩⟩⟩⟩⟩⟩
theorem lw_p176 : lw_okq (⟨"ChessHouseModel$Texts", "readPassed", "()Z"⟩, 40) := ⟨⟨by decide +kernel, by decide +kernel⟩, List.mem_of_getElem? (i := 1608) (by decide +kernel), List.mem_of_getElem? (i := 2323) (by decide +kernel), List.mem_of_getElem? (i := 2324) (by decide +kernel)⟩
theorem lw_p177 : lw_okq (⟨"ChessHouseModel$Texts", "readNumber", "()I"⟩, 40) := ⟨⟨by decide +kernel, by decide +kernel⟩, List.mem_of_getElem? (i := 1608) (by decide +kernel), List.mem_of_getElem? (i := 2327) (by decide +kernel), List.mem_of_getElem? (i := 2328) (by decide +kernel)⟩
theorem lw_p178 : lw_okq (⟨"ChessHouseModel$Texts", "mayStand", "()Z"⟩, 40) := ⟨⟨by decide +kernel, by decide +kernel⟩, List.mem_of_getElem? (i := 1608) (by decide +kernel), List.mem_of_getElem? (i := 2331) (by decide +kernel), List.mem_of_getElem? (i := 2332) (by decide +kernel)⟩
theorem lw_p179 : lw_okq (⟨"ChessHouseModel$Texts", "countOf", "(I)I"⟩, 40) := ⟨⟨by decide +kernel, by decide +kernel⟩, List.mem_of_getElem? (i := 1608) (by decide +kernel), List.mem_of_getElem? (i := 2335) (by decide +kernel), List.mem_of_getElem? (i := 2336) (by decide +kernel)⟩
theorem lw_p180 : lw_okq (⟨"ChessHouseModel$Texts", "readRemarks", "(II)I"⟩, 40) := ⟨⟨by decide +kernel, by decide +kernel⟩, List.mem_of_getElem? (i := 1608) (by decide +kernel), List.mem_of_getElem? (i := 2339) (by decide +kernel), List.mem_of_getElem? (i := 2340) (by decide +kernel)⟩
theorem lw_p181 : lw_okq (⟨"ChessHouseModel$Texts", "readLine", "(III)I"⟩, 40) := ⟨⟨by decide +kernel, by decide +kernel⟩, List.mem_of_getElem? (i := 1608) (by decide +kernel), List.mem_of_getElem? (i := 2343) (by decide +kernel), List.mem_of_getElem? (i := 2344) (by decide +kernel)⟩
theorem lw_p182 : lw_okq (⟨"ChessHouseModel$Texts", "resultHere", "()I"⟩, 40) := ⟨⟨by decide +kernel, by decide +kernel⟩, List.mem_of_getElem? (i := 1608) (by decide +kernel), List.mem_of_getElem? (i := 2347) (by decide +kernel), List.mem_of_getElem? (i := 2348) (by decide +kernel)⟩
theorem lw_p183 : lw_okq (⟨"ChessHouseModel$Texts", "goesOnWith", "(CCC)Z"⟩, 40) := ⟨⟨by decide +kernel, by decide +kernel⟩, List.mem_of_getElem? (i := 1608) (by decide +kernel), List.mem_of_getElem? (i := 2351) (by decide +kernel), List.mem_of_getElem? (i := 2352) (by decide +kernel)⟩
theorem lw_p184 : lw_okq (⟨"ChessHouseModel$Texts", "readMoveNumber", "()I"⟩, 40) := ⟨⟨by decide +kernel, by decide +kernel⟩, List.mem_of_getElem? (i := 1608) (by decide +kernel), List.mem_of_getElem? (i := 2355) (by decide +kernel), List.mem_of_getElem? (i := 2356) (by decide +kernel)⟩
theorem lw_p185 : lw_okq (⟨"ChessHouseModel$Texts", "readMove", "(II)I"⟩, 40) := ⟨⟨by decide +kernel, by decide +kernel⟩, List.mem_of_getElem? (i := 1608) (by decide +kernel), List.mem_of_getElem? (i := 2359) (by decide +kernel), List.mem_of_getElem? (i := 2360) (by decide +kernel)⟩
theorem lw_p186 : lw_okq (⟨"ChessHouseModel$Texts", "understood", "(II)I"⟩, 40) := ⟨⟨by decide +kernel, by decide +kernel⟩, List.mem_of_getElem? (i := 1608) (by decide +kernel), List.mem_of_getElem? (i := 2363) (by decide +kernel), List.mem_of_getElem? (i := 2364) (by decide +kernel)⟩
theorem lw_p187 : lw_okq (⟨"ChessHouseModel$Texts", "fits", "(IIIZ)Z"⟩, 40) := ⟨⟨by decide +kernel, by decide +kernel⟩, List.mem_of_getElem? (i := 1608) (by decide +kernel), List.mem_of_getElem? (i := 2367) (by decide +kernel), List.mem_of_getElem? (i := 2368) (by decide +kernel)⟩
theorem lw_p188 : lw_okq (⟨"ChessHouseModel$Texts", "isCastling", "(I)Z"⟩, 40) := ⟨⟨by decide +kernel, by decide +kernel⟩, List.mem_of_getElem? (i := 1608) (by decide +kernel), List.mem_of_getElem? (i := 2371) (by decide +kernel), List.mem_of_getElem? (i := 2372) (by decide +kernel)⟩
theorem lw_p189 : lw_okq (⟨"ChessHouseModel$Texts", "spellMove", "(IIZ)V"⟩, 40) := ⟨⟨by decide +kernel, by decide +kernel⟩, List.mem_of_getElem? (i := 1608) (by decide +kernel), List.mem_of_getElem? (i := 2375) (by decide +kernel), List.mem_of_getElem? (i := 2376) (by decide +kernel)⟩
theorem lw_p190 : lw_okq (⟨"ChessHouseModel$Texts", "spell", "(C)V"⟩, 40) := ⟨⟨by decide +kernel, by decide +kernel⟩, List.mem_of_getElem? (i := 1608) (by decide +kernel), List.mem_of_getElem? (i := 2379) (by decide +kernel), List.mem_of_getElem? (i := 2380) (by decide +kernel)⟩
theorem lw_p191 : lw_okq (⟨"ChessHouseModel$Texts", "spellSquare", "(I)V"⟩, 40) := ⟨⟨by decide +kernel, by decide +kernel⟩, List.mem_of_getElem? (i := 1608) (by decide +kernel), List.mem_of_getElem? (i := 2386) (by decide +kernel), List.mem_of_getElem? (i := 2387) (by decide +kernel)⟩
def lw_privs_12 : List (MethodName × Nat) := [(⟨"ChessHouseModel$Texts", "readPassed", "()Z"⟩, 40), (⟨"ChessHouseModel$Texts", "readNumber", "()I"⟩, 40), (⟨"ChessHouseModel$Texts", "mayStand", "()Z"⟩, 40), (⟨"ChessHouseModel$Texts", "countOf", "(I)I"⟩, 40), (⟨"ChessHouseModel$Texts", "readRemarks", "(II)I"⟩, 40), (⟨"ChessHouseModel$Texts", "readLine", "(III)I"⟩, 40), (⟨"ChessHouseModel$Texts", "resultHere", "()I"⟩, 40), (⟨"ChessHouseModel$Texts", "goesOnWith", "(CCC)Z"⟩, 40), (⟨"ChessHouseModel$Texts", "readMoveNumber", "()I"⟩, 40), (⟨"ChessHouseModel$Texts", "readMove", "(II)I"⟩, 40), (⟨"ChessHouseModel$Texts", "understood", "(II)I"⟩, 40), (⟨"ChessHouseModel$Texts", "fits", "(IIIZ)Z"⟩, 40), (⟨"ChessHouseModel$Texts", "isCastling", "(I)Z"⟩, 40), (⟨"ChessHouseModel$Texts", "spellMove", "(IIZ)V"⟩, 40), (⟨"ChessHouseModel$Texts", "spell", "(C)V"⟩, 40), (⟨"ChessHouseModel$Texts", "spellSquare", "(I)V"⟩, 40)]
theorem lw_r12 : ∀ q ∈ lw_privs_12, lw_okq q := List.forall_mem_cons.mpr ⟨lw_p176, List.forall_mem_cons.mpr ⟨lw_p177, List.forall_mem_cons.mpr ⟨lw_p178, List.forall_mem_cons.mpr ⟨lw_p179, List.forall_mem_cons.mpr ⟨lw_p180, List.forall_mem_cons.mpr ⟨lw_p181, List.forall_mem_cons.mpr ⟨lw_p182, List.forall_mem_cons.mpr ⟨lw_p183, List.forall_mem_cons.mpr ⟨lw_p184, List.forall_mem_cons.mpr ⟨lw_p185, List.forall_mem_cons.mpr ⟨lw_p186, List.forall_mem_cons.mpr ⟨lw_p187, List.forall_mem_cons.mpr ⟨lw_p188, List.forall_mem_cons.mpr ⟨lw_p189, List.forall_mem_cons.mpr ⟨lw_p190, List.forall_mem_cons.mpr ⟨lw_p191, fun _ h => absurd h List.not_mem_nil⟩⟩⟩⟩⟩⟩⟩⟩⟩⟩⟩⟩⟩⟩⟩⟩
theorem lw_p192 : lw_okq (⟨"ChessHouseModel$Texts", "isSpelled", "(IIZ)Z"⟩, 40) := ⟨⟨by decide +kernel, by decide +kernel⟩, List.mem_of_getElem? (i := 1608) (by decide +kernel), List.mem_of_getElem? (i := 2390) (by decide +kernel), List.mem_of_getElem? (i := 2391) (by decide +kernel)⟩
theorem lw_p193 : lw_okq (⟨"ChessHouseModel$Texts", "behind", "(I)C"⟩, 40) := ⟨⟨by decide +kernel, by decide +kernel⟩, List.mem_of_getElem? (i := 1608) (by decide +kernel), List.mem_of_getElem? (i := 2394) (by decide +kernel), List.mem_of_getElem? (i := 2395) (by decide +kernel)⟩
theorem lw_p194 : lw_okq (⟨"ChessHouseModel$Texts", "isSafeOnce", "(I)Z"⟩, 40) := ⟨⟨by decide +kernel, by decide +kernel⟩, List.mem_of_getElem? (i := 1608) (by decide +kernel), List.mem_of_getElem? (i := 2398) (by decide +kernel), List.mem_of_getElem? (i := 2399) (by decide +kernel)⟩
theorem lw_p195 : lw_okq (⟨"ChessHouseModel$Texts", "childWith", "(III)I"⟩, 40) := ⟨⟨by decide +kernel, by decide +kernel⟩, List.mem_of_getElem? (i := 1608) (by decide +kernel), List.mem_of_getElem? (i := 2402) (by decide +kernel), List.mem_of_getElem? (i := 2403) (by decide +kernel)⟩
theorem lw_p196 : lw_okq (⟨"ChessHouseModel$Texts", "append", "(III)I"⟩, 40) := ⟨⟨by decide +kernel, by decide +kernel⟩, List.mem_of_getElem? (i := 1608) (by decide +kernel), List.mem_of_getElem? (i := 2406) (by decide +kernel), List.mem_of_getElem? (i := 2407) (by decide +kernel)⟩
theorem lw_p197 : lw_okq (⟨"ChessHouseModel$Texts", "readMarks", "(II)I"⟩, 40) := ⟨⟨by decide +kernel, by decide +kernel⟩, List.mem_of_getElem? (i := 1608) (by decide +kernel), List.mem_of_getElem? (i := 2410) (by decide +kernel), List.mem_of_getElem? (i := 2411) (by decide +kernel)⟩
theorem lw_p198 : lw_okq (⟨"ChessHouseModel$Texts", "addMarkTo", "(III)V"⟩, 40) := ⟨⟨by decide +kernel, by decide +kernel⟩, List.mem_of_getElem? (i := 1608) (by decide +kernel), List.mem_of_getElem? (i := 2414) (by decide +kernel), List.mem_of_getElem? (i := 2415) (by decide +kernel)⟩
theorem lw_p199 : lw_okq (⟨"ChessHouseModel$Texts", "isResultValue", "(III)Z"⟩, 40) := ⟨⟨by decide +kernel, by decide +kernel⟩, List.mem_of_getElem? (i := 1608) (by decide +kernel), List.mem_of_getElem? (i := 2418) (by decide +kernel), List.mem_of_getElem? (i := 2419) (by decide +kernel)⟩
theorem lw_p200 : lw_okq (⟨"ChessHouseModel", "writeGame", "()V"⟩, 19) := ⟨⟨by decide +kernel, by decide +kernel⟩, List.mem_of_getElem? (i := 1601) (by decide +kernel), List.mem_of_getElem? (i := 2430) (by decide +kernel), List.mem_of_getElem? (i := 2431) (by decide +kernel)⟩
theorem lw_p201 : lw_okq (⟨"ChessHouseModel$Texts", "ink", "(C)V"⟩, 40) := ⟨⟨by decide +kernel, by decide +kernel⟩, List.mem_of_getElem? (i := 1608) (by decide +kernel), List.mem_of_getElem? (i := 2438) (by decide +kernel), List.mem_of_getElem? (i := 2439) (by decide +kernel)⟩
theorem lw_p202 : lw_okq (⟨"ChessHouseModel$Texts", "sayRemark", "(I)V"⟩, 40) := ⟨⟨by decide +kernel, by decide +kernel⟩, List.mem_of_getElem? (i := 1608) (by decide +kernel), List.mem_of_getElem? (i := 2442) (by decide +kernel), List.mem_of_getElem? (i := 2443) (by decide +kernel)⟩
theorem lw_p203 : lw_okq (⟨"ChessHouseModel$Texts", "sayLine", "(IZ)V"⟩, 40) := ⟨⟨by decide +kernel, by decide +kernel⟩, List.mem_of_getElem? (i := 1608) (by decide +kernel), List.mem_of_getElem? (i := 2446) (by decide +kernel), List.mem_of_getElem? (i := 2447) (by decide +kernel)⟩
theorem lw_p204 : lw_okq (⟨"ChessHouseModel$Texts", "sayMove", "(IZ)V"⟩, 40) := ⟨⟨by decide +kernel, by decide +kernel⟩, List.mem_of_getElem? (i := 1608) (by decide +kernel), List.mem_of_getElem? (i := 2450) (by decide +kernel), List.mem_of_getElem? (i := 2451) (by decide +kernel)⟩
theorem lw_p205 : lw_okq (⟨"ChessHouseModel$Texts", "sayNumber", "(I)V"⟩, 40) := ⟨⟨by decide +kernel, by decide +kernel⟩, List.mem_of_getElem? (i := 1608) (by decide +kernel), List.mem_of_getElem? (i := 2454) (by decide +kernel), List.mem_of_getElem? (i := 2455) (by decide +kernel)⟩
theorem lw_p206 : lw_okq (⟨"ChessHouseModel$Texts", "spellWhole", "(I)V"⟩, 40) := ⟨⟨by decide +kernel, by decide +kernel⟩, List.mem_of_getElem? (i := 1608) (by decide +kernel), List.mem_of_getElem? (i := 2458) (by decide +kernel), List.mem_of_getElem? (i := 2459) (by decide +kernel)⟩
theorem lw_p207 : lw_okq (⟨"ChessHouseModel$Texts", "apartOf", "(I)I"⟩, 40) := ⟨⟨by decide +kernel, by decide +kernel⟩, List.mem_of_getElem? (i := 1608) (by decide +kernel), List.mem_of_getElem? (i := 2462) (by decide +kernel), List.mem_of_getElem? (i := 2463) (by decide +kernel)⟩
def lw_privs_13 : List (MethodName × Nat) := [(⟨"ChessHouseModel$Texts", "isSpelled", "(IIZ)Z"⟩, 40), (⟨"ChessHouseModel$Texts", "behind", "(I)C"⟩, 40), (⟨"ChessHouseModel$Texts", "isSafeOnce", "(I)Z"⟩, 40), (⟨"ChessHouseModel$Texts", "childWith", "(III)I"⟩, 40), (⟨"ChessHouseModel$Texts", "append", "(III)I"⟩, 40), (⟨"ChessHouseModel$Texts", "readMarks", "(II)I"⟩, 40), (⟨"ChessHouseModel$Texts", "addMarkTo", "(III)V"⟩, 40), (⟨"ChessHouseModel$Texts", "isResultValue", "(III)Z"⟩, 40), (⟨"ChessHouseModel", "writeGame", "()V"⟩, 19), (⟨"ChessHouseModel$Texts", "ink", "(C)V"⟩, 40), (⟨"ChessHouseModel$Texts", "sayRemark", "(I)V"⟩, 40), (⟨"ChessHouseModel$Texts", "sayLine", "(IZ)V"⟩, 40), (⟨"ChessHouseModel$Texts", "sayMove", "(IZ)V"⟩, 40), (⟨"ChessHouseModel$Texts", "sayNumber", "(I)V"⟩, 40), (⟨"ChessHouseModel$Texts", "spellWhole", "(I)V"⟩, 40), (⟨"ChessHouseModel$Texts", "apartOf", "(I)I"⟩, 40)]
theorem lw_r13 : ∀ q ∈ lw_privs_13, lw_okq q := List.forall_mem_cons.mpr ⟨lw_p192, List.forall_mem_cons.mpr ⟨lw_p193, List.forall_mem_cons.mpr ⟨lw_p194, List.forall_mem_cons.mpr ⟨lw_p195, List.forall_mem_cons.mpr ⟨lw_p196, List.forall_mem_cons.mpr ⟨lw_p197, List.forall_mem_cons.mpr ⟨lw_p198, List.forall_mem_cons.mpr ⟨lw_p199, List.forall_mem_cons.mpr ⟨lw_p200, List.forall_mem_cons.mpr ⟨lw_p201, List.forall_mem_cons.mpr ⟨lw_p202, List.forall_mem_cons.mpr ⟨lw_p203, List.forall_mem_cons.mpr ⟨lw_p204, List.forall_mem_cons.mpr ⟨lw_p205, List.forall_mem_cons.mpr ⟨lw_p206, List.forall_mem_cons.mpr ⟨lw_p207, fun _ h => absurd h List.not_mem_nil⟩⟩⟩⟩⟩⟩⟩⟩⟩⟩⟩⟩⟩⟩⟩⟩
theorem lw_p208 : lw_okq (⟨"ChessHouseModel", "others", "()V"⟩, 19) := ⟨⟨by decide +kernel, by decide +kernel⟩, List.mem_of_getElem? (i := 1601) (by decide +kernel), List.mem_of_getElem? (i := 2467) (by decide +kernel), List.mem_of_getElem? (i := 2468) (by decide +kernel)⟩
theorem lw_p209 : lw_okq (⟨"ChessHouseModel", "saySigns", "(I)V"⟩, 19) := ⟨⟨by decide +kernel, by decide +kernel⟩, List.mem_of_getElem? (i := 1601) (by decide +kernel), List.mem_of_getElem? (i := 2471) (by decide +kernel), List.mem_of_getElem? (i := 2472) (by decide +kernel)⟩
theorem lw_p210 : lw_okq (⟨"ChessHouseModel", "play", "()V"⟩, 19) := ⟨⟨by decide +kernel, by decide +kernel⟩, List.mem_of_getElem? (i := 1601) (by decide +kernel), List.mem_of_getElem? (i := 2477) (by decide +kernel), List.mem_of_getElem? (i := 2478) (by decide +kernel)⟩
theorem lw_p211 : lw_okq (⟨"ChessHouseModel", "meant", "(I)I"⟩, 19) := ⟨⟨by decide +kernel, by decide +kernel⟩, List.mem_of_getElem? (i := 1601) (by decide +kernel), List.mem_of_getElem? (i := 2481) (by decide +kernel), List.mem_of_getElem? (i := 2482) (by decide +kernel)⟩
theorem lw_p212 : lw_okq (⟨"ChessHouseModel$Texts", "isLegal", "(I)Z"⟩, 40) := ⟨⟨by decide +kernel, by decide +kernel⟩, List.mem_of_getElem? (i := 1608) (by decide +kernel), List.mem_of_getElem? (i := 2490) (by decide +kernel), List.mem_of_getElem? (i := 2491) (by decide +kernel)⟩
theorem lw_p213 : lw_okq (⟨"ChessHouseModel$Texts", "deepOf", "(II)I"⟩, 40) := ⟨⟨by decide +kernel, by decide +kernel⟩, List.mem_of_getElem? (i := 1608) (by decide +kernel), List.mem_of_getElem? (i := 2494) (by decide +kernel), List.mem_of_getElem? (i := 2495) (by decide +kernel)⟩
theorem lw_p214 : lw_okq (⟨"ChessHouseModel$Texts", "isFirst", "(II)Z"⟩, 40) := ⟨⟨by decide +kernel, by decide +kernel⟩, List.mem_of_getElem? (i := 1608) (by decide +kernel), List.mem_of_getElem? (i := 2498) (by decide +kernel), List.mem_of_getElem? (i := 2499) (by decide +kernel)⟩
theorem lw_p215 : lw_okq (⟨"ChessHouseModel", "number", "(III)I"⟩, 19) := ⟨⟨by decide +kernel, by decide +kernel⟩, List.mem_of_getElem? (i := 1601) (by decide +kernel), List.mem_of_getElem? (i := 2503) (by decide +kernel), List.mem_of_getElem? (i := 2504) (by decide +kernel)⟩
theorem lw_p216 : lw_okq (⟨"ChessHouseModel", "back", "(I)V"⟩, 19) := ⟨⟨by decide +kernel, by decide +kernel⟩, List.mem_of_getElem? (i := 1601) (by decide +kernel), List.mem_of_getElem? (i := 2507) (by decide +kernel), List.mem_of_getElem? (i := 2508) (by decide +kernel)⟩
theorem lw_p217 : lw_okq (⟨"ChessHouseModel$Texts", "isNode", "(I)Z"⟩, 40) := ⟨⟨by decide +kernel, by decide +kernel⟩, List.mem_of_getElem? (i := 1608) (by decide +kernel), List.mem_of_getElem? (i := 2512) (by decide +kernel), List.mem_of_getElem? (i := 2513) (by decide +kernel)⟩
theorem lw_p218 : lw_okq (⟨"ChessHouseModel", "mark", "(I)V"⟩, 19) := ⟨⟨by decide +kernel, by decide +kernel⟩, List.mem_of_getElem? (i := 1601) (by decide +kernel), List.mem_of_getElem? (i := 2517) (by decide +kernel), List.mem_of_getElem? (i := 2518) (by decide +kernel)⟩
theorem lw_p219 : lw_okq (⟨"ChessHouseModel", "lead", "()V"⟩, 19) := ⟨⟨by decide +kernel, by decide +kernel⟩, List.mem_of_getElem? (i := 1601) (by decide +kernel), List.mem_of_getElem? (i := 2526) (by decide +kernel), List.mem_of_getElem? (i := 2527) (by decide +kernel)⟩
theorem lw_p220 : lw_okq (⟨"ChessHouseModel$Texts", "isBehind", "(II)Z"⟩, 40) := ⟨⟨by decide +kernel, by decide +kernel⟩, List.mem_of_getElem? (i := 1608) (by decide +kernel), List.mem_of_getElem? (i := 2534) (by decide +kernel), List.mem_of_getElem? (i := 2535) (by decide +kernel)⟩
theorem lw_p221 : lw_okq (⟨"ChessHouseModel", "endGame", "()Z"⟩, 19) := ⟨⟨by decide +kernel, by decide +kernel⟩, List.mem_of_getElem? (i := 1601) (by decide +kernel), List.mem_of_getElem? (i := 2539) (by decide +kernel), List.mem_of_getElem? (i := 2540) (by decide +kernel)⟩
theorem lw_p222 : lw_okq (⟨"ChessHouseModel", "asked", "()Z"⟩, 19) := ⟨⟨by decide +kernel, by decide +kernel⟩, List.mem_of_getElem? (i := 1601) (by decide +kernel), List.mem_of_getElem? (i := 2547) (by decide +kernel), List.mem_of_getElem? (i := 2548) (by decide +kernel)⟩
theorem lw_p223 : lw_okq (⟨"ChessHouseModel", "tellBoard", "()V"⟩, 19) := ⟨⟨by decide +kernel, by decide +kernel⟩, List.mem_of_getElem? (i := 1601) (by decide +kernel), List.mem_of_getElem? (i := 2552) (by decide +kernel), List.mem_of_getElem? (i := 2553) (by decide +kernel)⟩
def lw_privs_14 : List (MethodName × Nat) := [(⟨"ChessHouseModel", "others", "()V"⟩, 19), (⟨"ChessHouseModel", "saySigns", "(I)V"⟩, 19), (⟨"ChessHouseModel", "play", "()V"⟩, 19), (⟨"ChessHouseModel", "meant", "(I)I"⟩, 19), (⟨"ChessHouseModel$Texts", "isLegal", "(I)Z"⟩, 40), (⟨"ChessHouseModel$Texts", "deepOf", "(II)I"⟩, 40), (⟨"ChessHouseModel$Texts", "isFirst", "(II)Z"⟩, 40), (⟨"ChessHouseModel", "number", "(III)I"⟩, 19), (⟨"ChessHouseModel", "back", "(I)V"⟩, 19), (⟨"ChessHouseModel$Texts", "isNode", "(I)Z"⟩, 40), (⟨"ChessHouseModel", "mark", "(I)V"⟩, 19), (⟨"ChessHouseModel", "lead", "()V"⟩, 19), (⟨"ChessHouseModel$Texts", "isBehind", "(II)Z"⟩, 40), (⟨"ChessHouseModel", "endGame", "()Z"⟩, 19), (⟨"ChessHouseModel", "asked", "()Z"⟩, 19), (⟨"ChessHouseModel", "tellBoard", "()V"⟩, 19)]
theorem lw_r14 : ∀ q ∈ lw_privs_14, lw_okq q := List.forall_mem_cons.mpr ⟨lw_p208, List.forall_mem_cons.mpr ⟨lw_p209, List.forall_mem_cons.mpr ⟨lw_p210, List.forall_mem_cons.mpr ⟨lw_p211, List.forall_mem_cons.mpr ⟨lw_p212, List.forall_mem_cons.mpr ⟨lw_p213, List.forall_mem_cons.mpr ⟨lw_p214, List.forall_mem_cons.mpr ⟨lw_p215, List.forall_mem_cons.mpr ⟨lw_p216, List.forall_mem_cons.mpr ⟨lw_p217, List.forall_mem_cons.mpr ⟨lw_p218, List.forall_mem_cons.mpr ⟨lw_p219, List.forall_mem_cons.mpr ⟨lw_p220, List.forall_mem_cons.mpr ⟨lw_p221, List.forall_mem_cons.mpr ⟨lw_p222, List.forall_mem_cons.mpr ⟨lw_p223, fun _ h => absurd h List.not_mem_nil⟩⟩⟩⟩⟩⟩⟩⟩⟩⟩⟩⟩⟩⟩⟩⟩
theorem lw_p224 : lw_okq (⟨"ChessHouseModel$Board", "enter", "(I)V"⟩, 37) := ⟨⟨by decide +kernel, by decide +kernel⟩, List.mem_of_getElem? (i := 1863) (by decide +kernel), List.mem_of_getElem? (i := 2556) (by decide +kernel), List.mem_of_getElem? (i := 2557) (by decide +kernel)⟩
theorem lw_p225 : lw_okq (⟨"ChessHouseModel$Board", "make", "(II)V"⟩, 37) := ⟨⟨by decide +kernel, by decide +kernel⟩, List.mem_of_getElem? (i := 1863) (by decide +kernel), List.mem_of_getElem? (i := 2560) (by decide +kernel), List.mem_of_getElem? (i := 2561) (by decide +kernel)⟩
theorem lw_p226 : lw_okq (⟨"ChessHouseModel$Board", "castleRook", "(IIZ)V"⟩, 37) := ⟨⟨by decide +kernel, by decide +kernel⟩, List.mem_of_getElem? (i := 1863) (by decide +kernel), List.mem_of_getElem? (i := 2564) (by decide +kernel), List.mem_of_getElem? (i := 2565) (by decide +kernel)⟩
theorem lw_p227 : lw_okq (⟨"ChessHouseModel$Board", "write", "([C)V"⟩, 37) := ⟨⟨by decide +kernel, by decide +kernel⟩, List.mem_of_getElem? (i := 1863) (by decide +kernel), List.mem_of_getElem? (i := 2571) (by decide +kernel), List.mem_of_getElem? (i := 2572) (by decide +kernel)⟩
theorem lw_p228 : lw_okq (⟨"ChessHouseModel$Board", "say", "(C)V"⟩, 37) := ⟨⟨by decide +kernel, by decide +kernel⟩, List.mem_of_getElem? (i := 1863) (by decide +kernel), List.mem_of_getElem? (i := 2575) (by decide +kernel), List.mem_of_getElem? (i := 2576) (by decide +kernel)⟩
theorem lw_p229 : lw_okq (⟨"ChessHouseModel$Board", "sayNumber", "(I)V"⟩, 37) := ⟨⟨by decide +kernel, by decide +kernel⟩, List.mem_of_getElem? (i := 1863) (by decide +kernel), List.mem_of_getElem? (i := 2579) (by decide +kernel), List.mem_of_getElem? (i := 2580) (by decide +kernel)⟩
theorem lw_p230 : lw_okq (⟨"ChessHouseModel", "state", "()V"⟩, 19) := ⟨⟨by decide +kernel, by decide +kernel⟩, List.mem_of_getElem? (i := 1601) (by decide +kernel), List.mem_of_getElem? (i := 2585) (by decide +kernel), List.mem_of_getElem? (i := 2586) (by decide +kernel)⟩
theorem lw_p231 : lw_okq (⟨"ChessHouseModel$Board", "state", "()I"⟩, 37) := ⟨⟨by decide +kernel, by decide +kernel⟩, List.mem_of_getElem? (i := 1863) (by decide +kernel), List.mem_of_getElem? (i := 2589) (by decide +kernel), List.mem_of_getElem? (i := 2590) (by decide +kernel)⟩
theorem lw_p232 : lw_okq (⟨"ChessHouseModel$Board", "list", "(I)I"⟩, 37) := ⟨⟨by decide +kernel, by decide +kernel⟩, List.mem_of_getElem? (i := 1863) (by decide +kernel), List.mem_of_getElem? (i := 2593) (by decide +kernel), List.mem_of_getElem? (i := 2594) (by decide +kernel)⟩
theorem lw_p233 : lw_okq (⟨"ChessHouseModel$Board", "isOf", "(II)Z"⟩, 37) := ⟨⟨by decide +kernel, by decide +kernel⟩, List.mem_of_getElem? (i := 1863) (by decide +kernel), List.mem_of_getElem? (i := 2597) (by decide +kernel), List.mem_of_getElem? (i := 2598) (by decide +kernel)⟩
theorem lw_p234 : lw_okq (⟨"ChessHouseModel$Board", "goals", "(I)J"⟩, 37) := ⟨⟨by decide +kernel, by decide +kernel⟩, List.mem_of_getElem? (i := 1863) (by decide +kernel), List.mem_of_getElem? (i := 2601) (by decide +kernel), List.mem_of_getElem? (i := 2602) (by decide +kernel)⟩
theorem lw_p235 : lw_okq (⟨"ChessHouseModel$Board", "pawnGoals", "(I)J"⟩, 37) := ⟨⟨by decide +kernel, by decide +kernel⟩, List.mem_of_getElem? (i := 1863) (by decide +kernel), List.mem_of_getElem? (i := 2605) (by decide +kernel), List.mem_of_getElem? (i := 2606) (by decide +kernel)⟩
theorem lw_p236 : lw_okq (⟨"ChessHouseModel$Board", "reach", "(I)J"⟩, 37) := ⟨⟨by decide +kernel, by decide +kernel⟩, List.mem_of_getElem? (i := 1863) (by decide +kernel), List.mem_of_getElem? (i := 2612) (by decide +kernel), List.mem_of_getElem? (i := 2613) (by decide +kernel)⟩
theorem lw_p237 : lw_okq (⟨"ChessHouseModel$Board", "walk", "(III)J"⟩, 37) := ⟨⟨by decide +kernel, by decide +kernel⟩, List.mem_of_getElem? (i := 1863) (by decide +kernel), List.mem_of_getElem? (i := 2616) (by decide +kernel), List.mem_of_getElem? (i := 2617) (by decide +kernel)⟩
theorem lw_p238 : lw_okq (⟨"ChessHouseModel$Board", "mayCastle", "(Z)Z"⟩, 37) := ⟨⟨by decide +kernel, by decide +kernel⟩, List.mem_of_getElem? (i := 1863) (by decide +kernel), List.mem_of_getElem? (i := 2620) (by decide +kernel), List.mem_of_getElem? (i := 2621) (by decide +kernel)⟩
theorem lw_p239 : lw_okq (⟨"ChessHouseModel$Board", "isLegal", "(I)Z"⟩, 37) := ⟨⟨by decide +kernel, by decide +kernel⟩, List.mem_of_getElem? (i := 1863) (by decide +kernel), List.mem_of_getElem? (i := 2624) (by decide +kernel), List.mem_of_getElem? (i := 2625) (by decide +kernel)⟩
def lw_privs_15 : List (MethodName × Nat) := [(⟨"ChessHouseModel$Board", "enter", "(I)V"⟩, 37), (⟨"ChessHouseModel$Board", "make", "(II)V"⟩, 37), (⟨"ChessHouseModel$Board", "castleRook", "(IIZ)V"⟩, 37), (⟨"ChessHouseModel$Board", "write", "([C)V"⟩, 37), (⟨"ChessHouseModel$Board", "say", "(C)V"⟩, 37), (⟨"ChessHouseModel$Board", "sayNumber", "(I)V"⟩, 37), (⟨"ChessHouseModel", "state", "()V"⟩, 19), (⟨"ChessHouseModel$Board", "state", "()I"⟩, 37), (⟨"ChessHouseModel$Board", "list", "(I)I"⟩, 37), (⟨"ChessHouseModel$Board", "isOf", "(II)Z"⟩, 37), (⟨"ChessHouseModel$Board", "goals", "(I)J"⟩, 37), (⟨"ChessHouseModel$Board", "pawnGoals", "(I)J"⟩, 37), (⟨"ChessHouseModel$Board", "reach", "(I)J"⟩, 37), (⟨"ChessHouseModel$Board", "walk", "(III)J"⟩, 37), (⟨"ChessHouseModel$Board", "mayCastle", "(Z)Z"⟩, 37), (⟨"ChessHouseModel$Board", "isLegal", "(I)Z"⟩, 37)]
theorem lw_r15 : ∀ q ∈ lw_privs_15, lw_okq q := List.forall_mem_cons.mpr ⟨lw_p224, List.forall_mem_cons.mpr ⟨lw_p225, List.forall_mem_cons.mpr ⟨lw_p226, List.forall_mem_cons.mpr ⟨lw_p227, List.forall_mem_cons.mpr ⟨lw_p228, List.forall_mem_cons.mpr ⟨lw_p229, List.forall_mem_cons.mpr ⟨lw_p230, List.forall_mem_cons.mpr ⟨lw_p231, List.forall_mem_cons.mpr ⟨lw_p232, List.forall_mem_cons.mpr ⟨lw_p233, List.forall_mem_cons.mpr ⟨lw_p234, List.forall_mem_cons.mpr ⟨lw_p235, List.forall_mem_cons.mpr ⟨lw_p236, List.forall_mem_cons.mpr ⟨lw_p237, List.forall_mem_cons.mpr ⟨lw_p238, List.forall_mem_cons.mpr ⟨lw_p239, fun _ h => absurd h List.not_mem_nil⟩⟩⟩⟩⟩⟩⟩⟩⟩⟩⟩⟩⟩⟩⟩⟩
theorem lw_p240 : lw_okq (⟨"ChessHouseModel$Board", "takeBack", "(II)V"⟩, 37) := ⟨⟨by decide +kernel, by decide +kernel⟩, List.mem_of_getElem? (i := 1863) (by decide +kernel), List.mem_of_getElem? (i := 2629) (by decide +kernel), List.mem_of_getElem? (i := 2630) (by decide +kernel)⟩
theorem lw_p241 : lw_okq (⟨"ChessHouseModel$Board", "isTooLittle", "()Z"⟩, 37) := ⟨⟨by decide +kernel, by decide +kernel⟩, List.mem_of_getElem? (i := 1863) (by decide +kernel), List.mem_of_getElem? (i := 2633) (by decide +kernel), List.mem_of_getElem? (i := 2634) (by decide +kernel)⟩
theorem lw_p242 : lw_okq (⟨"ChessHouseModel$Board", "occurrence", "()I"⟩, 37) := ⟨⟨by decide +kernel, by decide +kernel⟩, List.mem_of_getElem? (i := 1863) (by decide +kernel), List.mem_of_getElem? (i := 2637) (by decide +kernel), List.mem_of_getElem? (i := 2638) (by decide +kernel)⟩
theorem lw_p243 : lw_okq (⟨"ChessHouseModel$Board", "areMenSame", "(I)Z"⟩, 37) := ⟨⟨by decide +kernel, by decide +kernel⟩, List.mem_of_getElem? (i := 1863) (by decide +kernel), List.mem_of_getElem? (i := 2641) (by decide +kernel), List.mem_of_getElem? (i := 2642) (by decide +kernel)⟩
theorem lw_p244 : lw_okq (⟨"ChessHouseModel$Board", "mayTakeOn", "(I)Z"⟩, 37) := ⟨⟨by decide +kernel, by decide +kernel⟩, List.mem_of_getElem? (i := 1863) (by decide +kernel), List.mem_of_getElem? (i := 2645) (by decide +kernel), List.mem_of_getElem? (i := 2646) (by decide +kernel)⟩
theorem lw_p245 : lw_okq (⟨"ChessHouseModel", "isTooMuch", "(IJ)Z"⟩, 19) := ⟨⟨by decide +kernel, by decide +kernel⟩, List.mem_of_getElem? (i := 1601) (by decide +kernel), List.mem_of_getElem? (i := 2652) (by decide +kernel), List.mem_of_getElem? (i := 2653) (by decide +kernel)⟩
theorem lw_p246 : lw_okq (⟨"ChessHouseModel", "forceOf", "(I)I"⟩, 19) := ⟨⟨by decide +kernel, by decide +kernel⟩, List.mem_of_getElem? (i := 1601) (by decide +kernel), List.mem_of_getElem? (i := 2656) (by decide +kernel), List.mem_of_getElem? (i := 2657) (by decide +kernel)⟩
theorem lw_p247 : lw_okq (⟨"ChessHouseModel$Board", "ways", "(II)J"⟩, 37) := ⟨⟨by decide +kernel, by decide +kernel⟩, List.mem_of_getElem? (i := 1863) (by decide +kernel), List.mem_of_getElem? (i := 2660) (by decide +kernel), List.mem_of_getElem? (i := 2661) (by decide +kernel)⟩
theorem lw_p248 : lw_okq (⟨"ChessHouseModel$Board", "sightOf", "()I"⟩, 37) := ⟨⟨by decide +kernel, by decide +kernel⟩, List.mem_of_getElem? (i := 1863) (by decide +kernel), List.mem_of_getElem? (i := 2666) (by decide +kernel), List.mem_of_getElem? (i := 2667) (by decide +kernel)⟩
theorem lw_p249 : lw_okq (⟨"ChessHouseModel$Board", "worth", "(I)I"⟩, 37) := ⟨⟨by decide +kernel, by decide +kernel⟩, List.mem_of_getElem? (i := 1863) (by decide +kernel), List.mem_of_getElem? (i := 2670) (by decide +kernel), List.mem_of_getElem? (i := 2671) (by decide +kernel)⟩
theorem lw_p250 : lw_okq (⟨"ChessHouseModel$Board", "hasQueen", "(I)Z"⟩, 37) := ⟨⟨by decide +kernel, by decide +kernel⟩, List.mem_of_getElem? (i := 1863) (by decide +kernel), List.mem_of_getElem? (i := 2674) (by decide +kernel), List.mem_of_getElem? (i := 2675) (by decide +kernel)⟩
theorem lw_p251 : lw_okq (⟨"ChessHouseModel", "think", "(IZ)V"⟩, 19) := ⟨⟨by decide +kernel, by decide +kernel⟩, List.mem_of_getElem? (i := 1601) (by decide +kernel), List.mem_of_getElem? (i := 2683) (by decide +kernel), List.mem_of_getElem? (i := 2684) (by decide +kernel)⟩
theorem lw_p252 : lw_okq (⟨"ChessHouseModel$Board", "think", "(IZ)V"⟩, 37) := ⟨⟨by decide +kernel, by decide +kernel⟩, List.mem_of_getElem? (i := 1863) (by decide +kernel), List.mem_of_getElem? (i := 2688) (by decide +kernel), List.mem_of_getElem? (i := 2689) (by decide +kernel)⟩
theorem lw_p253 : lw_okq (⟨"ChessHouseModel$Board", "valueOfMove", "(III)I"⟩, 37) := ⟨⟨by decide +kernel, by decide +kernel⟩, List.mem_of_getElem? (i := 1863) (by decide +kernel), List.mem_of_getElem? (i := 2693) (by decide +kernel), List.mem_of_getElem? (i := 2694) (by decide +kernel)⟩
theorem lw_p254 : lw_okq (⟨"ChessHouseModel$Board", "valueOf", "(II)I"⟩, 37) := ⟨⟨by decide +kernel, by decide +kernel⟩, List.mem_of_getElem? (i := 1863) (by decide +kernel), List.mem_of_getElem? (i := 2697) (by decide +kernel), List.mem_of_getElem? (i := 2698) (by decide +kernel)⟩
theorem lw_p255 : lw_okq (⟨"ChessHouseModel$Board", "atEnd", "(I)I"⟩, 37) := ⟨⟨by decide +kernel, by decide +kernel⟩, List.mem_of_getElem? (i := 1863) (by decide +kernel), List.mem_of_getElem? (i := 2701) (by decide +kernel), List.mem_of_getElem? (i := 2702) (by decide +kernel)⟩
def lw_privs_16 : List (MethodName × Nat) := [(⟨"ChessHouseModel$Board", "takeBack", "(II)V"⟩, 37), (⟨"ChessHouseModel$Board", "isTooLittle", "()Z"⟩, 37), (⟨"ChessHouseModel$Board", "occurrence", "()I"⟩, 37), (⟨"ChessHouseModel$Board", "areMenSame", "(I)Z"⟩, 37), (⟨"ChessHouseModel$Board", "mayTakeOn", "(I)Z"⟩, 37), (⟨"ChessHouseModel", "isTooMuch", "(IJ)Z"⟩, 19), (⟨"ChessHouseModel", "forceOf", "(I)I"⟩, 19), (⟨"ChessHouseModel$Board", "ways", "(II)J"⟩, 37), (⟨"ChessHouseModel$Board", "sightOf", "()I"⟩, 37), (⟨"ChessHouseModel$Board", "worth", "(I)I"⟩, 37), (⟨"ChessHouseModel$Board", "hasQueen", "(I)Z"⟩, 37), (⟨"ChessHouseModel", "think", "(IZ)V"⟩, 19), (⟨"ChessHouseModel$Board", "think", "(IZ)V"⟩, 37), (⟨"ChessHouseModel$Board", "valueOfMove", "(III)I"⟩, 37), (⟨"ChessHouseModel$Board", "valueOf", "(II)I"⟩, 37), (⟨"ChessHouseModel$Board", "atEnd", "(I)I"⟩, 37)]
theorem lw_r16 : ∀ q ∈ lw_privs_16, lw_okq q := List.forall_mem_cons.mpr ⟨lw_p240, List.forall_mem_cons.mpr ⟨lw_p241, List.forall_mem_cons.mpr ⟨lw_p242, List.forall_mem_cons.mpr ⟨lw_p243, List.forall_mem_cons.mpr ⟨lw_p244, List.forall_mem_cons.mpr ⟨lw_p245, List.forall_mem_cons.mpr ⟨lw_p246, List.forall_mem_cons.mpr ⟨lw_p247, List.forall_mem_cons.mpr ⟨lw_p248, List.forall_mem_cons.mpr ⟨lw_p249, List.forall_mem_cons.mpr ⟨lw_p250, List.forall_mem_cons.mpr ⟨lw_p251, List.forall_mem_cons.mpr ⟨lw_p252, List.forall_mem_cons.mpr ⟨lw_p253, List.forall_mem_cons.mpr ⟨lw_p254, List.forall_mem_cons.mpr ⟨lw_p255, fun _ h => absurd h List.not_mem_nil⟩⟩⟩⟩⟩⟩⟩⟩⟩⟩⟩⟩⟩⟩⟩⟩
theorem lw_p256 : lw_okq (⟨"ChessHouseModel$Board", "stoodTwice", "(I)Z"⟩, 37) := ⟨⟨by decide +kernel, by decide +kernel⟩, List.mem_of_getElem? (i := 1863) (by decide +kernel), List.mem_of_getElem? (i := 2705) (by decide +kernel), List.mem_of_getElem? (i := 2706) (by decide +kernel)⟩
theorem lw_p257 : lw_okq (⟨"ChessHouseModel$Board", "calmOf", "(II)I"⟩, 37) := ⟨⟨by decide +kernel, by decide +kernel⟩, List.mem_of_getElem? (i := 1863) (by decide +kernel), List.mem_of_getElem? (i := 2709) (by decide +kernel), List.mem_of_getElem? (i := 2710) (by decide +kernel)⟩
theorem lw_p258 : lw_okq (⟨"ChessHouseModel$Board", "findLine", "()V"⟩, 37) := ⟨⟨by decide +kernel, by decide +kernel⟩, List.mem_of_getElem? (i := 1863) (by decide +kernel), List.mem_of_getElem? (i := 2715) (by decide +kernel), List.mem_of_getElem? (i := 2716) (by decide +kernel)⟩
theorem lw_p259 : lw_okq (⟨"ChessHouseModel$Board", "isSettled", "(II)Z"⟩, 37) := ⟨⟨by decide +kernel, by decide +kernel⟩, List.mem_of_getElem? (i := 1863) (by decide +kernel), List.mem_of_getElem? (i := 2719) (by decide +kernel), List.mem_of_getElem? (i := 2720) (by decide +kernel)⟩
theorem lw_p260 : lw_okq (⟨"ChessHouseModel$Board", "bestOf", "(II)I"⟩, 37) := ⟨⟨by decide +kernel, by decide +kernel⟩, List.mem_of_getElem? (i := 1863) (by decide +kernel), List.mem_of_getElem? (i := 2723) (by decide +kernel), List.mem_of_getElem? (i := 2724) (by decide +kernel)⟩
theorem lw_p261 : lw_okq (⟨"ChessHouseModel", "sayLine", "([II)V"⟩, 19) := ⟨⟨by decide +kernel, by decide +kernel⟩, List.mem_of_getElem? (i := 1601) (by decide +kernel), List.mem_of_getElem? (i := 2727) (by decide +kernel), List.mem_of_getElem? (i := 2728) (by decide +kernel)⟩
theorem lw_p262 : lw_okq (⟨"ChessHouseModel", "test", "(II)V"⟩, 19) := ⟨⟨by decide +kernel, by decide +kernel⟩, List.mem_of_getElem? (i := 1601) (by decide +kernel), List.mem_of_getElem? (i := 2735) (by decide +kernel), List.mem_of_getElem? (i := 2736) (by decide +kernel)⟩
theorem lw_p263 : lw_okq (⟨"ChessHouseModel", "ends", "()V"⟩, 19) := ⟨⟨by decide +kernel, by decide +kernel⟩, List.mem_of_getElem? (i := 1601) (by decide +kernel), List.mem_of_getElem? (i := 2742) (by decide +kernel), List.mem_of_getElem? (i := 2743) (by decide +kernel)⟩
theorem lw_p264 : lw_okq (⟨"ChessHouseModel$Ends", "isPosition", "(IIIII)Z"⟩, 14) := ⟨⟨by decide +kernel, by decide +kernel⟩, List.mem_of_getElem? (i := 2746) (by decide +kernel), List.mem_of_getElem? (i := 2801) (by decide +kernel), List.mem_of_getElem? (i := 2802) (by decide +kernel)⟩
theorem lw_p265 : lw_okq (⟨"ChessHouseModel$Ends", "isSquare", "(I)Z"⟩, 14) := ⟨⟨by decide +kernel, by decide +kernel⟩, List.mem_of_getElem? (i := 2746) (by decide +kernel), List.mem_of_getElem? (i := 2805) (by decide +kernel), List.mem_of_getElem? (i := 2806) (by decide +kernel)⟩
theorem lw_p266 : lw_okq (⟨"ChessHouseModel$Ends", "attacks", "(IIIII)Z"⟩, 14) := ⟨⟨by decide +kernel, by decide +kernel⟩, List.mem_of_getElem? (i := 2746) (by decide +kernel), List.mem_of_getElem? (i := 2815) (by decide +kernel), List.mem_of_getElem? (i := 2816) (by decide +kernel)⟩
theorem lw_p267 : lw_okq (⟨"ChessHouseModel$Ends", "step", "(III)I"⟩, 14) := ⟨⟨by decide +kernel, by decide +kernel⟩, List.mem_of_getElem? (i := 2746) (by decide +kernel), List.mem_of_getElem? (i := 2822) (by decide +kernel), List.mem_of_getElem? (i := 2823) (by decide +kernel)⟩
theorem lw_p268 : lw_okq (⟨"ChessHouseModel$Ends", "distanceOf", "(IIIII)I"⟩, 14) := ⟨⟨by decide +kernel, by decide +kernel⟩, List.mem_of_getElem? (i := 2746) (by decide +kernel), List.mem_of_getElem? (i := 2830) (by decide +kernel), List.mem_of_getElem? (i := 2831) (by decide +kernel)⟩
theorem lw_p269 : lw_okq (⟨"ChessHouseModel$Ends", "build", "(I)V"⟩, 14) := ⟨⟨by decide +kernel, by decide +kernel⟩, List.mem_of_getElem? (i := 2746) (by decide +kernel), List.mem_of_getElem? (i := 2834) (by decide +kernel), List.mem_of_getElem? (i := 2835) (by decide +kernel)⟩
theorem lw_p270 : lw_okq (⟨"ChessHouseModel$Ends", "build2", "(I)V"⟩, 14) := ⟨⟨by decide +kernel, by decide +kernel⟩, List.mem_of_getElem? (i := 2746) (by decide +kernel), List.mem_of_getElem? (i := 2838) (by decide +kernel), List.mem_of_getElem? (i := 2839) (by decide +kernel)⟩
theorem lw_p271 : lw_okq (⟨"ChessHouseModel$Ends", "passAll", "(II)V"⟩, 14) := ⟨⟨by decide +kernel, by decide +kernel⟩, List.mem_of_getElem? (i := 2746) (by decide +kernel), List.mem_of_getElem? (i := 2842) (by decide +kernel), List.mem_of_getElem? (i := 2843) (by decide +kernel)⟩
def lw_privs_17 : List (MethodName × Nat) := [(⟨"ChessHouseModel$Board", "stoodTwice", "(I)Z"⟩, 37), (⟨"ChessHouseModel$Board", "calmOf", "(II)I"⟩, 37), (⟨"ChessHouseModel$Board", "findLine", "()V"⟩, 37), (⟨"ChessHouseModel$Board", "isSettled", "(II)Z"⟩, 37), (⟨"ChessHouseModel$Board", "bestOf", "(II)I"⟩, 37), (⟨"ChessHouseModel", "sayLine", "([II)V"⟩, 19), (⟨"ChessHouseModel", "test", "(II)V"⟩, 19), (⟨"ChessHouseModel", "ends", "()V"⟩, 19), (⟨"ChessHouseModel$Ends", "isPosition", "(IIIII)Z"⟩, 14), (⟨"ChessHouseModel$Ends", "isSquare", "(I)Z"⟩, 14), (⟨"ChessHouseModel$Ends", "attacks", "(IIIII)Z"⟩, 14), (⟨"ChessHouseModel$Ends", "step", "(III)I"⟩, 14), (⟨"ChessHouseModel$Ends", "distanceOf", "(IIIII)I"⟩, 14), (⟨"ChessHouseModel$Ends", "build", "(I)V"⟩, 14), (⟨"ChessHouseModel$Ends", "build2", "(I)V"⟩, 14), (⟨"ChessHouseModel$Ends", "passAll", "(II)V"⟩, 14)]
theorem lw_r17 : ∀ q ∈ lw_privs_17, lw_okq q := List.forall_mem_cons.mpr ⟨lw_p256, List.forall_mem_cons.mpr ⟨lw_p257, List.forall_mem_cons.mpr ⟨lw_p258, List.forall_mem_cons.mpr ⟨lw_p259, List.forall_mem_cons.mpr ⟨lw_p260, List.forall_mem_cons.mpr ⟨lw_p261, List.forall_mem_cons.mpr ⟨lw_p262, List.forall_mem_cons.mpr ⟨lw_p263, List.forall_mem_cons.mpr ⟨lw_p264, List.forall_mem_cons.mpr ⟨lw_p265, List.forall_mem_cons.mpr ⟨lw_p266, List.forall_mem_cons.mpr ⟨lw_p267, List.forall_mem_cons.mpr ⟨lw_p268, List.forall_mem_cons.mpr ⟨lw_p269, List.forall_mem_cons.mpr ⟨lw_p270, List.forall_mem_cons.mpr ⟨lw_p271, fun _ h => absurd h List.not_mem_nil⟩⟩⟩⟩⟩⟩⟩⟩⟩⟩⟩⟩⟩⟩⟩⟩
theorem lw_p272 : lw_okq (⟨"ChessHouseModel$Ends", "pass", "(II)Z"⟩, 14) := ⟨⟨by decide +kernel, by decide +kernel⟩, List.mem_of_getElem? (i := 2746) (by decide +kernel), List.mem_of_getElem? (i := 2846) (by decide +kernel), List.mem_of_getElem? (i := 2847) (by decide +kernel)⟩
theorem lw_p273 : lw_okq (⟨"ChessHouseModel$Ends", "known", "(IIIII)I"⟩, 14) := ⟨⟨by decide +kernel, by decide +kernel⟩, List.mem_of_getElem? (i := 2746) (by decide +kernel), List.mem_of_getElem? (i := 2850) (by decide +kernel), List.mem_of_getElem? (i := 2851) (by decide +kernel)⟩
theorem lw_p274 : lw_okq (⟨"ChessHouseModel$Ends", "isLost", "(IIIIZ)Z"⟩, 14) := ⟨⟨by decide +kernel, by decide +kernel⟩, List.mem_of_getElem? (i := 2746) (by decide +kernel), List.mem_of_getElem? (i := 2859) (by decide +kernel), List.mem_of_getElem? (i := 2860) (by decide +kernel)⟩
theorem lw_p275 : lw_okq (⟨"ChessHouseModel$Ends", "mayGo", "(IIII)Z"⟩, 14) := ⟨⟨by decide +kernel, by decide +kernel⟩, List.mem_of_getElem? (i := 2746) (by decide +kernel), List.mem_of_getElem? (i := 2863) (by decide +kernel), List.mem_of_getElem? (i := 2864) (by decide +kernel)⟩
theorem lw_p276 : lw_okq (⟨"ChessHouseModel$Ends", "kingReaches", "(IIIII)Z"⟩, 14) := ⟨⟨by decide +kernel, by decide +kernel⟩, List.mem_of_getElem? (i := 2746) (by decide +kernel), List.mem_of_getElem? (i := 2867) (by decide +kernel), List.mem_of_getElem? (i := 2868) (by decide +kernel)⟩
theorem lw_p277 : lw_okq (⟨"ChessHouseModel$Ends", "reaches", "(IIIII)Z"⟩, 14) := ⟨⟨by decide +kernel, by decide +kernel⟩, List.mem_of_getElem? (i := 2746) (by decide +kernel), List.mem_of_getElem? (i := 2871) (by decide +kernel), List.mem_of_getElem? (i := 2872) (by decide +kernel)⟩
theorem lw_p278 : lw_okq (⟨"ChessHouseModel$Ends", "manReaches", "(IIIII)Z"⟩, 14) := ⟨⟨by decide +kernel, by decide +kernel⟩, List.mem_of_getElem? (i := 2746) (by decide +kernel), List.mem_of_getElem? (i := 2875) (by decide +kernel), List.mem_of_getElem? (i := 2876) (by decide +kernel)⟩
theorem lw_p279 : lw_okq (⟨"ChessHouseModel$Ends", "note", "(IIIIII)V"⟩, 14) := ⟨⟨by decide +kernel, by decide +kernel⟩, List.mem_of_getElem? (i := 2746) (by decide +kernel), List.mem_of_getElem? (i := 2879) (by decide +kernel), List.mem_of_getElem? (i := 2880) (by decide +kernel)⟩
theorem lw_p280 : lw_okq (⟨"ChessHouseModel", "sayChar", "(C)V"⟩, 19) := ⟨⟨by decide +kernel, by decide +kernel⟩, List.mem_of_getElem? (i := 1601) (by decide +kernel), List.mem_of_getElem? (i := 2883) (by decide +kernel), List.mem_of_getElem? (i := 2884) (by decide +kernel)⟩
theorem lw_p281 : lw_okq (⟨"ChessHouseModel$Ends", "findMoves", "()V"⟩, 14) := ⟨⟨by decide +kernel, by decide +kernel⟩, List.mem_of_getElem? (i := 2746) (by decide +kernel), List.mem_of_getElem? (i := 2891) (by decide +kernel), List.mem_of_getElem? (i := 2892) (by decide +kernel)⟩
theorem lw_p282 : lw_okq (⟨"ChessHouseModel$Ends", "kingGoes", "(I)Z"⟩, 14) := ⟨⟨by decide +kernel, by decide +kernel⟩, List.mem_of_getElem? (i := 2746) (by decide +kernel), List.mem_of_getElem? (i := 2895) (by decide +kernel), List.mem_of_getElem? (i := 2896) (by decide +kernel)⟩
theorem lw_p283 : lw_okq (⟨"ChessHouseModel$Ends", "add", "(I)V"⟩, 14) := ⟨⟨by decide +kernel, by decide +kernel⟩, List.mem_of_getElem? (i := 2746) (by decide +kernel), List.mem_of_getElem? (i := 2899) (by decide +kernel), List.mem_of_getElem? (i := 2900) (by decide +kernel)⟩
theorem lw_p284 : lw_okq (⟨"ChessHouseModel$Ends", "manGoes", "(I)Z"⟩, 14) := ⟨⟨by decide +kernel, by decide +kernel⟩, List.mem_of_getElem? (i := 2746) (by decide +kernel), List.mem_of_getElem? (i := 2903) (by decide +kernel), List.mem_of_getElem? (i := 2904) (by decide +kernel)⟩
theorem lw_p285 : lw_okq (⟨"ChessHouseModel$Ends", "bestOf", "()I"⟩, 14) := ⟨⟨by decide +kernel, by decide +kernel⟩, List.mem_of_getElem? (i := 2746) (by decide +kernel), List.mem_of_getElem? (i := 2911) (by decide +kernel), List.mem_of_getElem? (i := 2912) (by decide +kernel)⟩
theorem lw_p286 : lw_okq (⟨"ChessHouseModel$Ends", "behind", "(I)I"⟩, 14) := ⟨⟨by decide +kernel, by decide +kernel⟩, List.mem_of_getElem? (i := 2746) (by decide +kernel), List.mem_of_getElem? (i := 2915) (by decide +kernel), List.mem_of_getElem? (i := 2916) (by decide +kernel)⟩
theorem lw_p287 : lw_okq (⟨"ChessHouseModel", "solved", "()Z"⟩, 19) := ⟨⟨by decide +kernel, by decide +kernel⟩, List.mem_of_getElem? (i := 1601) (by decide +kernel), List.mem_of_getElem? (i := 2919) (by decide +kernel), List.mem_of_getElem? (i := 2920) (by decide +kernel)⟩
def lw_privs_18 : List (MethodName × Nat) := [(⟨"ChessHouseModel$Ends", "pass", "(II)Z"⟩, 14), (⟨"ChessHouseModel$Ends", "known", "(IIIII)I"⟩, 14), (⟨"ChessHouseModel$Ends", "isLost", "(IIIIZ)Z"⟩, 14), (⟨"ChessHouseModel$Ends", "mayGo", "(IIII)Z"⟩, 14), (⟨"ChessHouseModel$Ends", "kingReaches", "(IIIII)Z"⟩, 14), (⟨"ChessHouseModel$Ends", "reaches", "(IIIII)Z"⟩, 14), (⟨"ChessHouseModel$Ends", "manReaches", "(IIIII)Z"⟩, 14), (⟨"ChessHouseModel$Ends", "note", "(IIIIII)V"⟩, 14), (⟨"ChessHouseModel", "sayChar", "(C)V"⟩, 19), (⟨"ChessHouseModel$Ends", "findMoves", "()V"⟩, 14), (⟨"ChessHouseModel$Ends", "kingGoes", "(I)Z"⟩, 14), (⟨"ChessHouseModel$Ends", "add", "(I)V"⟩, 14), (⟨"ChessHouseModel$Ends", "manGoes", "(I)Z"⟩, 14), (⟨"ChessHouseModel$Ends", "bestOf", "()I"⟩, 14), (⟨"ChessHouseModel$Ends", "behind", "(I)I"⟩, 14), (⟨"ChessHouseModel", "solved", "()Z"⟩, 19)]
theorem lw_r18 : ∀ q ∈ lw_privs_18, lw_okq q := List.forall_mem_cons.mpr ⟨lw_p272, List.forall_mem_cons.mpr ⟨lw_p273, List.forall_mem_cons.mpr ⟨lw_p274, List.forall_mem_cons.mpr ⟨lw_p275, List.forall_mem_cons.mpr ⟨lw_p276, List.forall_mem_cons.mpr ⟨lw_p277, List.forall_mem_cons.mpr ⟨lw_p278, List.forall_mem_cons.mpr ⟨lw_p279, List.forall_mem_cons.mpr ⟨lw_p280, List.forall_mem_cons.mpr ⟨lw_p281, List.forall_mem_cons.mpr ⟨lw_p282, List.forall_mem_cons.mpr ⟨lw_p283, List.forall_mem_cons.mpr ⟨lw_p284, List.forall_mem_cons.mpr ⟨lw_p285, List.forall_mem_cons.mpr ⟨lw_p286, List.forall_mem_cons.mpr ⟨lw_p287, fun _ h => absurd h List.not_mem_nil⟩⟩⟩⟩⟩⟩⟩⟩⟩⟩⟩⟩⟩⟩⟩⟩
theorem lw_p288 : lw_okq (⟨"ChessHouseModel", "choice", "(ILjava/lang/String;Ljava/lang/String;)I"⟩, 19) := ⟨⟨by decide +kernel, by decide +kernel⟩, List.mem_of_getElem? (i := 1601) (by decide +kernel), List.mem_of_getElem? (i := 2926) (by decide +kernel), List.mem_of_getElem? (i := 2927) (by decide +kernel)⟩
theorem lw_p289 : lw_okq (⟨"ChessHouseModel", "keys", "(III)V"⟩, 19) := ⟨⟨by decide +kernel, by decide +kernel⟩, List.mem_of_getElem? (i := 1601) (by decide +kernel), List.mem_of_getElem? (i := 2932) (by decide +kernel), List.mem_of_getElem? (i := 2933) (by decide +kernel)⟩
theorem lw_p290 : lw_okq (⟨"ChessHouseModel$Board", "findKeys", "(III)V"⟩, 37) := ⟨⟨by decide +kernel, by decide +kernel⟩, List.mem_of_getElem? (i := 1863) (by decide +kernel), List.mem_of_getElem? (i := 2939) (by decide +kernel), List.mem_of_getElem? (i := 2940) (by decide +kernel)⟩
theorem lw_p291 : lw_okq (⟨"ChessHouseModel$Board", "solves", "(IIIII)Z"⟩, 37) := ⟨⟨by decide +kernel, by decide +kernel⟩, List.mem_of_getElem? (i := 1863) (by decide +kernel), List.mem_of_getElem? (i := 2943) (by decide +kernel), List.mem_of_getElem? (i := 2944) (by decide +kernel)⟩
theorem lw_p292 : lw_okq (⟨"ChessHouseModel$Board", "isBeaten", "(II)Z"⟩, 37) := ⟨⟨by decide +kernel, by decide +kernel⟩, List.mem_of_getElem? (i := 1863) (by decide +kernel), List.mem_of_getElem? (i := 2947) (by decide +kernel), List.mem_of_getElem? (i := 2948) (by decide +kernel)⟩
theorem lw_p293 : lw_okq (⟨"ChessHouseModel$Board", "isAnswered", "(IIIII)Z"⟩, 37) := ⟨⟨by decide +kernel, by decide +kernel⟩, List.mem_of_getElem? (i := 1863) (by decide +kernel), List.mem_of_getElem? (i := 2951) (by decide +kernel), List.mem_of_getElem? (i := 2952) (by decide +kernel)⟩
theorem lw_p294 : lw_okq (⟨"ChessHouseModel$Board", "isSolved", "(IIII)Z"⟩, 37) := ⟨⟨by decide +kernel, by decide +kernel⟩, List.mem_of_getElem? (i := 1863) (by decide +kernel), List.mem_of_getElem? (i := 2955) (by decide +kernel), List.mem_of_getElem? (i := 2956) (by decide +kernel)⟩
theorem lw_p295 : lw_okq (⟨"ChessHouseModel", "least", "(III)V"⟩, 19) := ⟨⟨by decide +kernel, by decide +kernel⟩, List.mem_of_getElem? (i := 1601) (by decide +kernel), List.mem_of_getElem? (i := 2960) (by decide +kernel), List.mem_of_getElem? (i := 2961) (by decide +kernel)⟩
theorem lw_p296 : lw_okq (⟨"ChessHouseModel", "refute", "(III)V"⟩, 19) := ⟨⟨by decide +kernel, by decide +kernel⟩, List.mem_of_getElem? (i := 1601) (by decide +kernel), List.mem_of_getElem? (i := 2966) (by decide +kernel), List.mem_of_getElem? (i := 2967) (by decide +kernel)⟩
theorem lw_p297 : lw_okq (⟨"ChessHouseModel$Board", "refutation", "(IIII)I"⟩, 37) := ⟨⟨by decide +kernel, by decide +kernel⟩, List.mem_of_getElem? (i := 1863) (by decide +kernel), List.mem_of_getElem? (i := 2970) (by decide +kernel), List.mem_of_getElem? (i := 2971) (by decide +kernel)⟩
theorem lw_p298 : lw_okq (⟨"ChessHouseModel", "help", "(III)I"⟩, 19) := ⟨⟨by decide +kernel, by decide +kernel⟩, List.mem_of_getElem? (i := 1601) (by decide +kernel), List.mem_of_getElem? (i := 2975) (by decide +kernel), List.mem_of_getElem? (i := 2976) (by decide +kernel)⟩
theorem lw_p299 : lw_okq (⟨"ChessHouseModel$Board", "countLines", "(III)I"⟩, 37) := ⟨⟨by decide +kernel, by decide +kernel⟩, List.mem_of_getElem? (i := 1863) (by decide +kernel), List.mem_of_getElem? (i := 2979) (by decide +kernel), List.mem_of_getElem? (i := 2980) (by decide +kernel)⟩
theorem lw_p300 : lw_okq (⟨"ChessHouseModel", "helpLine", "(III)V"⟩, 19) := ⟨⟨by decide +kernel, by decide +kernel⟩, List.mem_of_getElem? (i := 1601) (by decide +kernel), List.mem_of_getElem? (i := 2985) (by decide +kernel), List.mem_of_getElem? (i := 2986) (by decide +kernel)⟩
def lw_privs_19 : List (MethodName × Nat) := [(⟨"ChessHouseModel", "choice", "(ILjava/lang/String;Ljava/lang/String;)I"⟩, 19), (⟨"ChessHouseModel", "keys", "(III)V"⟩, 19), (⟨"ChessHouseModel$Board", "findKeys", "(III)V"⟩, 37), (⟨"ChessHouseModel$Board", "solves", "(IIIII)Z"⟩, 37), (⟨"ChessHouseModel$Board", "isBeaten", "(II)Z"⟩, 37), (⟨"ChessHouseModel$Board", "isAnswered", "(IIIII)Z"⟩, 37), (⟨"ChessHouseModel$Board", "isSolved", "(IIII)Z"⟩, 37), (⟨"ChessHouseModel", "least", "(III)V"⟩, 19), (⟨"ChessHouseModel", "refute", "(III)V"⟩, 19), (⟨"ChessHouseModel$Board", "refutation", "(IIII)I"⟩, 37), (⟨"ChessHouseModel", "help", "(III)I"⟩, 19), (⟨"ChessHouseModel$Board", "countLines", "(III)I"⟩, 37), (⟨"ChessHouseModel", "helpLine", "(III)V"⟩, 19)]
theorem lw_r19 : ∀ q ∈ lw_privs_19, lw_okq q := List.forall_mem_cons.mpr ⟨lw_p288, List.forall_mem_cons.mpr ⟨lw_p289, List.forall_mem_cons.mpr ⟨lw_p290, List.forall_mem_cons.mpr ⟨lw_p291, List.forall_mem_cons.mpr ⟨lw_p292, List.forall_mem_cons.mpr ⟨lw_p293, List.forall_mem_cons.mpr ⟨lw_p294, List.forall_mem_cons.mpr ⟨lw_p295, List.forall_mem_cons.mpr ⟨lw_p296, List.forall_mem_cons.mpr ⟨lw_p297, List.forall_mem_cons.mpr ⟨lw_p298, List.forall_mem_cons.mpr ⟨lw_p299, List.forall_mem_cons.mpr ⟨lw_p300, fun _ h => absurd h List.not_mem_nil⟩⟩⟩⟩⟩⟩⟩⟩⟩⟩⟩⟩⟩
def lw_privs : List (MethodName × Nat) := lw_privs_1 ++ (lw_privs_2 ++ (lw_privs_3 ++ (lw_privs_4 ++ (lw_privs_5 ++ (lw_privs_6 ++ (lw_privs_7 ++ (lw_privs_8 ++ (lw_privs_9 ++ (lw_privs_10 ++ (lw_privs_11 ++ (lw_privs_12 ++ (lw_privs_13 ++ (lw_privs_14 ++ (lw_privs_15 ++ (lw_privs_16 ++ (lw_privs_17 ++ (lw_privs_18 ++ (lw_privs_19))))))))))))))))))
def lw_tbl : List Cond := k2_sels lw_privs ++ tables_1
theorem lw_privs_ok : ∀ q ∈ lw_privs, lw_okq q := by
  show ∀ q ∈ lw_privs_1 ++ (lw_privs_2 ++ (lw_privs_3 ++ (lw_privs_4 ++ (lw_privs_5 ++ (lw_privs_6 ++ (lw_privs_7 ++ (lw_privs_8 ++ (lw_privs_9 ++ (lw_privs_10 ++ (lw_privs_11 ++ (lw_privs_12 ++ (lw_privs_13 ++ (lw_privs_14 ++ (lw_privs_15 ++ (lw_privs_16 ++ (lw_privs_17 ++ (lw_privs_18 ++ (lw_privs_19)))))))))))))))))), lw_okq q
  exact List.forall_mem_append.mpr ⟨lw_r1, List.forall_mem_append.mpr ⟨lw_r2, List.forall_mem_append.mpr ⟨lw_r3, List.forall_mem_append.mpr ⟨lw_r4, List.forall_mem_append.mpr ⟨lw_r5, List.forall_mem_append.mpr ⟨lw_r6, List.forall_mem_append.mpr ⟨lw_r7, List.forall_mem_append.mpr ⟨lw_r8, List.forall_mem_append.mpr ⟨lw_r9, List.forall_mem_append.mpr ⟨lw_r10, List.forall_mem_append.mpr ⟨lw_r11, List.forall_mem_append.mpr ⟨lw_r12, List.forall_mem_append.mpr ⟨lw_r13, List.forall_mem_append.mpr ⟨lw_r14, List.forall_mem_append.mpr ⟨lw_r15, List.forall_mem_append.mpr ⟨lw_r16, List.forall_mem_append.mpr ⟨lw_r17, List.forall_mem_append.mpr ⟨lw_r18, lw_r19⟩⟩⟩⟩⟩⟩⟩⟩⟩⟩⟩⟩⟩⟩⟩⟩⟩⟩
-- ===== end of PART A; then your names; then what follows =====
end
section
/-! THE J KIT: the machine over pictures. A method runs over ONE picture of all cells that the claim has made (places 0 .. n-1 above a base B): no frame rule is wanted. -/
abbrev jv : Type := Int32 ⊕ (Int64 ⊕ Option (Nat ⊕ Nat))
abbrev jcell : Type := (FieldType × vp_A) ⊕ (Nat × List jv)
abbrev jE : Type := va_G × (FieldType → ClassId) × (Nat → Nat) × Nat
abbrev jTb : Type := Nat → Option (String × String × String × FieldType × Nat × (Nat → Int32))
/-- a picture's value as the machine has it -/
def jc (E : jE) (v : jv) : Value := match v with
  | .inl x => .int x
  | .inr (.inl x) => .long x
  | .inr (.inr none) => .null
  | .inr (.inr (some (.inl k))) => .ref (E.2.2.2 + k)
  | .inr (.inr (some (.inr j))) => .ref (E.2.2.1 j)
def je (E : jE) (x : jcell) : va_E := match x with
  | .inl a => .inl (E.2.1 a.1, a.2)
  | .inr o => .inr (o.1, o.2.map (jc E))
/-- the element types of the arrays that pictures hold -/
def jtys : List FieldType := [.int, .byte, .char, .long, .boolean]
/-- what is known of a cell: an array of another type stands for a cell of which nothing is known -/
def jkn (x : jcell) : Prop := match x with
  | .inl a => a.1 ∈ jtys
  | .inr _ => True
def jW (E : jE) (cl : List vw_C) (σ : Nat → jcell) (n : Nat) (H : Heap) : Prop :=
  H.size = E.2.2.2 + n ∧ ∀ k, k < n → jkn (σ k) → va_at E.1 cl (E.2.2.2 + k, je E (σ k)) H
def jA (E : jE) : Nat → Prop := fun q => E.2.2.2 ≤ q
def jup (σ : Nat → jcell) (k : Nat) (x : jcell) : Nat → jcell := fun j => if j = k then x else σ j
theorem jup_s {σ : Nat → jcell} {k : Nat} {x : jcell} : jup σ k x k = x := if_pos rfl
theorem jup_n {σ : Nat → jcell} {k j : Nat} {x : jcell} (h : j ≠ k) : jup σ k x j = σ j := if_neg h
def jtyl (E : jE) : List (ClassId × FieldType) := jtys.map (fun t => (E.2.1 t, t))
/-- constant tables: a static field holds an array that never changes -/
def jSt (E : jE) (tb : jTb) (U : State) : Prop := ∀ (j : Nat) (x : String × String × String × FieldType × Nat × (Nat → Int32)), tb j = some x →
  va_Z x.1 x.2.1 x.2.2.1 (.ref (E.2.2.1 j)) (jA E) U U.heap ∧ va_T x.2.2.2.1 (E.2.2.1 j) x.2.2.2.2.1 (fun i => .int (x.2.2.2.2.2 i)) (jA E) U U.heap
/-- the words that every reader may carry, and those of nest mates -/
def jgood (w : Jvm.Cond) : Bool := (w.onTables && w.keeps) || (match w with
  | .arrayClass _ => true
  | _ => false)
def jnest (w : Jvm.Cond) : Bool := match w with
  | .fieldLinkNest .. => true
  | .methodLinkNest .. => true
  | _ => false
def jTA (Ts : List Jvm.Cond) : List Jvm.Cond := Ts.filter jgood
def jNW (Ts : List Jvm.Cond) : List Jvm.Cond := Ts.filter jnest
theorem jTA_in {Ts : List Jvm.Cond} {wi : Nat} {w : Jvm.Cond} (h : Ts[wi]? = some w) (hg : jgood w = true) : w ∈ jTA Ts := List.mem_filter.mpr ⟨List.mem_of_getElem? h, hg⟩
def jK (E : jE) (cl : List vw_C) (tb : jTb) (Ts : List Jvm.Cond) (U : State) : Prop := va_K E.1 cl (jtyl E) U ∧ jSt E tb U ∧ E.2.2.2 ≤ U.heap.size ∧ ∀ w ∈ jNW Ts, va_Nw w U
/-! locals -/
def jcat (v : jv) : Nat := match v with
  | .inr (.inl _) => 2
  | _ => 1
def jlv (E : jE) (ls : Array Slot) (nL : Nat) (lv : List (Option jv)) : Prop := ls.size = nL ∧ lv_wf ls ∧ ∀ (i : Nat) (v : jv), lv[i]? = some (some v) → ls[i]? = some (.val (jc E v))
def jpr (E : jE) : Nat → List (Option jv) → List (Nat × Value)
  | _, [] => []
  | i, none :: r => jpr E (i + 1) r
  | i, some v :: r => (i, jc E v) :: jpr E (i + 1) r
def jkill (lv : List (Option jv)) (i : Nat) : List (Option jv) := match i with
  | 0 => lv
  | j + 1 => match lv[j]? with
    | some (some (.inr (.inl _))) => lv.set j none
    | _ => lv
def jset1 (lv : List (Option jv)) (i : Nat) (v : jv) : List (Option jv) := (jkill lv i).set i (some v)
def jset2 (lv : List (Option jv)) (i : Nat) (v : jv) : List (Option jv) := ((jkill lv i).set i (some v)).set (i + 1) none
/-! one instruction over a picture -/
abbrev jN : Type := Nat → List (Option jv) → List jv → (Nat → jcell) → Prop
/-- what an instruction carries besides: two numbers (kind of object and field; the jump's goal), the place of its word, an int, a long -/
abbrev jP : Type := Nat × Nat × Nat × Int32 × Int64
abbrev jI : Type := Instr × Nat × jP
def j1 (st : List jv) (f : Int32 → List jv → Prop) : Prop := match st with
  | .inl x :: r => f x r
  | _ => False
def j2 (st : List jv) (f : Int32 → Int32 → List jv → Prop) : Prop := match st with
  | .inl y :: .inl x :: r => f x y r
  | _ => False
def jl1 (st : List jv) (f : Int64 → List jv → Prop) : Prop := match st with
  | .inr (.inl x) :: r => f x r
  | _ => False
def jl2 (st : List jv) (f : Int64 → Int64 → List jv → Prop) : Prop := match st with
  | .inr (.inl y) :: .inr (.inl x) :: r => f x y r
  | _ => False
def jli (st : List jv) (f : Int64 → Int32 → List jv → Prop) : Prop := match st with
  | .inl y :: .inr (.inl x) :: r => f x y r
  | _ => False
def ja1 (st : List jv) (f : Option (Nat ⊕ Nat) → List jv → Prop) : Prop := match st with
  | .inr (.inr a) :: r => f a r
  | _ => False
def jldi (lv : List (Option jv)) (i : Nat) (f : Int32 → Prop) : Prop := match lv[i]? with
  | some (some (.inl x)) => f x
  | _ => False
def jldl (lv : List (Option jv)) (i : Nat) (f : Int64 → Prop) : Prop := match lv[i]? with
  | some (some (.inr (.inl x))) => f x
  | _ => False
def jlda (lv : List (Option jv)) (i : Nat) (f : Option (Nat ⊕ Nat) → Prop) : Prop := match lv[i]? with
  | some (some (.inr (.inr a))) => f a
  | _ => False
def jbr (c : Jvm.ClassFile.Cond) (x y : Int32) (A B : Prop) : Prop := match c with
  | .eq => (x = y → A) ∧ (¬ x = y → B)
  | .ne => (¬ x = y → A) ∧ (x = y → B)
  | .lt => (x < y → A) ∧ (¬ x < y → B)
  | .ge => (y ≤ x → A) ∧ (¬ y ≤ x → B)
  | .gt => (y < x → A) ∧ (¬ y < x → B)
  | .le => (x ≤ y → A) ∧ (¬ x ≤ y → B)
/-- an array of ints, bytes, chars or booleans is read -/
def jald (tb : jTb) (σ : Nat → jcell) (n : Nat) (ty : FieldType) (st : List jv) (f : Int32 → List jv → Prop) : Prop := match st with
  | .inl i :: .inr (.inr (some (.inl a))) :: r => a < n ∧ (match σ a with
    | .inl (t, len, .inl g) => t = ty ∧ vp_in i len ∧ f (g i.toNatClampNeg) r
    | _ => False)
  | .inl i :: .inr (.inr (some (.inr j))) :: r => (match tb j with
    | some (_, _, _, t, len, g) => t = ty ∧ vp_in i len ∧ f (g i.toNatClampNeg) r
    | none => False)
  | _ => False
def jast (σ : Nat → jcell) (n : Nat) (ty : FieldType) (st : List jv) (f : (Nat → jcell) → List jv → Prop) : Prop := match st with
  | .inl x :: .inl i :: .inr (.inr (some (.inl a))) :: r => a < n ∧ (match σ a with
    | .inl (t, len, .inl g) => t = ty ∧ vp_in i len ∧ f (jup σ a (.inl (t, len, .inl (upd g i.toNatClampNeg (vp_nar ty x))))) r
    | _ => False)
  | _ => False
def jlald (σ : Nat → jcell) (n : Nat) (st : List jv) (f : Int64 → List jv → Prop) : Prop := match st with
  | .inl i :: .inr (.inr (some (.inl a))) :: r => a < n ∧ (match σ a with
    | .inl (t, len, .inr (.inl g)) => t = .long ∧ vp_in i len ∧ f (g i.toNatClampNeg) r
    | _ => False)
  | _ => False
def jlast (σ : Nat → jcell) (n : Nat) (st : List jv) (f : (Nat → jcell) → List jv → Prop) : Prop := match st with
  | .inr (.inl x) :: .inl i :: .inr (.inr (some (.inl a))) :: r => a < n ∧ (match σ a with
    | .inl (t, len, .inr (.inl g)) => t = .long ∧ vp_in i len ∧ f (jup σ a (.inl (t, len, .inr (.inl (vp_updL g i.toNatClampNeg x))))) r
    | _ => False)
  | _ => False
def jalen (tb : jTb) (σ : Nat → jcell) (n : Nat) (st : List jv) (f : Int32 → List jv → Prop) : Prop := match st with
  | .inr (.inr (some (.inl a))) :: r => a < n ∧ (match σ a with
    | .inl (t, len, _) => t ∈ jtys ∧ f (Int32.ofNat len) r
    | _ => False)
  | .inr (.inr (some (.inr j))) :: r => (match tb j with
    | some (_, _, _, _, len, _) => f (Int32.ofNat len) r
    | none => False)
  | _ => False
def jget (σ : Nat → jcell) (n ci k : Nat) (st : List jv) (f : jv → List jv → Prop) : Prop := match st with
  | .inr (.inr (some (.inl a))) :: r => a < n ∧ (match σ a with
    | .inr (c, fs) => c = ci ∧ (match fs[k]? with
      | some v => f v r
      | none => False)
    | _ => False)
  | _ => False
/-- what may be stored in a field: 0 an int, 1 a boolean, 2 a long, 3 a reference -/
def jfit (kd : Nat) (v : jv) : Prop := match kd, v with
  | 0, .inl _ => True
  | 1, .inl x => x = 0 ∨ x = 1
  | 2, .inr (.inl _) => True
  | 3, .inr (.inr _) => True
  | _, _ => False
def jput (σ : Nat → jcell) (n ci k kd : Nat) (st : List jv) (f : (Nat → jcell) → List jv → Prop) : Prop := match st with
  | v :: .inr (.inr (some (.inl a))) :: r => a < n ∧ (match σ a with
    | .inr (c, fs) => c = ci ∧ k < fs.length ∧ jfit kd v ∧ f (jup σ a (.inr (c, fs.set k v))) r
    | _ => False)
  | _ => False
def jdup (st : List jv) (f : jv → List jv → Prop) : Prop := match st with
  | v :: r => jcat v = 1 ∧ f v r
  | _ => False
def jdupx (st : List jv) (f : jv → jv → List jv → Prop) : Prop := match st with
  | v :: w :: r => jcat v = 1 ∧ jcat w = 1 ∧ f v w r
  | _ => False
def jdupx2 (st : List jv) (f : jv → jv → jv → List jv → Prop) : Prop := match st with
  | v :: w :: z :: r => jcat v = 1 ∧ jcat w = 1 ∧ jcat z = 1 ∧ f v w z r
  | _ => False
def jdup2 (st : List jv) (f : List jv → Prop) : Prop := match st with
  | .inr (.inl x) :: r => f (.inr (.inl x) :: .inr (.inl x) :: r)
  | v :: w :: r => jcat v = 1 ∧ jcat w = 1 ∧ f (v :: w :: v :: w :: r)
  | _ => False
def jstep (tb : jTb) (n : Nat) (I : Instr) (ln : Nat) (py : jP) (pc : Nat) (lv : List (Option jv)) (st : List jv) (σ : Nat → jcell) (nx lf : jN) : Prop := match I with
  | .aconst_null => nx (pc + ln) lv (.inr (.inr none) :: st) σ
  | .iconst _ => nx (pc + ln) lv (.inl py.2.2.2.1 :: st) σ
  | .bipush _ => nx (pc + ln) lv (.inl py.2.2.2.1 :: st) σ
  | .sipush _ => nx (pc + ln) lv (.inl py.2.2.2.1 :: st) σ
  | .ldc _ => nx (pc + ln) lv (.inl py.2.2.2.1 :: st) σ
  | .lconst _ => nx (pc + ln) lv (.inr (.inl py.2.2.2.2) :: st) σ
  | .ldc2_w _ => nx (pc + ln) lv (.inr (.inl py.2.2.2.2) :: st) σ
  | .iload_n _ => jldi lv py.1 fun x => nx (pc + ln) lv (.inl x :: st) σ
  | .iload k => jldi lv k fun x => nx (pc + ln) lv (.inl x :: st) σ
  | .lload_n _ => jldl lv py.1 fun x => nx (pc + ln) lv (.inr (.inl x) :: st) σ
  | .lload k => jldl lv k fun x => nx (pc + ln) lv (.inr (.inl x) :: st) σ
  | .aload_n _ => jlda lv py.1 fun x => nx (pc + ln) lv (.inr (.inr x) :: st) σ
  | .aload k => jlda lv k fun x => nx (pc + ln) lv (.inr (.inr x) :: st) σ
  | .istore_n _ => j1 st fun x r => nx (pc + ln) (jset1 lv py.1 (.inl x)) r σ
  | .istore k => j1 st fun x r => nx (pc + ln) (jset1 lv k (.inl x)) r σ
  | .lstore_n _ => jl1 st fun x r => nx (pc + ln) (jset2 lv py.1 (.inr (.inl x))) r σ
  | .lstore k => jl1 st fun x r => nx (pc + ln) (jset2 lv k (.inr (.inl x))) r σ
  | .astore_n _ => ja1 st fun x r => nx (pc + ln) (jset1 lv py.1 (.inr (.inr x))) r σ
  | .astore k => ja1 st fun x r => nx (pc + ln) (jset1 lv k (.inr (.inr x))) r σ
  | .iinc k _ => jldi lv k fun x => nx (pc + ln) (jset1 lv k (.inl (x + py.2.2.2.1))) st σ
  | .iadd => j2 st fun x y r => nx (pc + ln) lv (.inl (x + y) :: r) σ
  | .isub => j2 st fun x y r => nx (pc + ln) lv (.inl (x - y) :: r) σ
  | .imul => j2 st fun x y r => nx (pc + ln) lv (.inl (x * y) :: r) σ
  | .iand => j2 st fun x y r => nx (pc + ln) lv (.inl (x &&& y) :: r) σ
  | .ior => j2 st fun x y r => nx (pc + ln) lv (.inl (x ||| y) :: r) σ
  | .ixor => j2 st fun x y r => nx (pc + ln) lv (.inl (x ^^^ y) :: r) σ
  | .idiv => j2 st fun x y r => ¬ y = 0 ∧ nx (pc + ln) lv (.inl (x / y) :: r) σ
  | .irem => j2 st fun x y r => ¬ y = 0 ∧ nx (pc + ln) lv (.inl (x - x / y * y) :: r) σ
  | .ishl => j2 st fun x y r => nx (pc + ln) lv (.inl (x <<< (y &&& 31)) :: r) σ
  | .ishr => j2 st fun x y r => nx (pc + ln) lv (.inl (x >>> (y &&& 31)) :: r) σ
  | .iushr => j2 st fun x y r => nx (pc + ln) lv (.inl (x.toUInt32 >>> (y.toUInt32 &&& Int32.toUInt32 31)).toInt32 :: r) σ
  | .ineg => j1 st fun x r => nx (pc + ln) lv (.inl (-x) :: r) σ
  | .ladd => jl2 st fun x y r => nx (pc + ln) lv (.inr (.inl (x + y)) :: r) σ
  | .lsub => jl2 st fun x y r => nx (pc + ln) lv (.inr (.inl (x - y)) :: r) σ
  | .lmul => jl2 st fun x y r => nx (pc + ln) lv (.inr (.inl (x * y)) :: r) σ
  | .land => jl2 st fun x y r => nx (pc + ln) lv (.inr (.inl (x &&& y)) :: r) σ
  | .lor => jl2 st fun x y r => nx (pc + ln) lv (.inr (.inl (x ||| y)) :: r) σ
  | .lxor => jl2 st fun x y r => nx (pc + ln) lv (.inr (.inl (x ^^^ y)) :: r) σ
  | .ldiv => jl2 st fun x y r => ¬ y = 0 ∧ nx (pc + ln) lv (.inr (.inl (x / y)) :: r) σ
  | .lrem => jl2 st fun x y r => ¬ y = 0 ∧ nx (pc + ln) lv (.inr (.inl (x - x / y * y)) :: r) σ
  | .lneg => jl1 st fun x r => nx (pc + ln) lv (.inr (.inl (-x)) :: r) σ
  | .lshl => jli st fun x y r => nx (pc + ln) lv (.inr (.inl (x <<< (y.toInt64 &&& 63))) :: r) σ
  | .lshr => jli st fun x y r => nx (pc + ln) lv (.inr (.inl (x >>> (y.toInt64 &&& 63))) :: r) σ
  | .lushr => jli st fun x y r => nx (pc + ln) lv (.inr (.inl (x.toUInt64 >>> (y.toInt64.toUInt64 &&& Int64.toUInt64 63)).toInt64) :: r) σ
  | .lcmp => jl2 st fun x y r => nx (pc + ln) lv (.inl (lg_cmp x y) :: r) σ
  | .i2l => j1 st fun x r => nx (pc + ln) lv (.inr (.inl x.toInt64) :: r) σ
  | .l2i => jl1 st fun x r => nx (pc + ln) lv (.inl x.toInt32 :: r) σ
  | .i2b => j1 st fun x r => nx (pc + ln) lv (.inl x.toInt8.toInt32 :: r) σ
  | .i2c => j1 st fun x r => nx (pc + ln) lv (.inl (x.toUInt32 % 65536).toInt32 :: r) σ
  | .dup => jdup st fun v r => nx (pc + ln) lv (v :: v :: r) σ
  | .pop => jdup st fun _ r => nx (pc + ln) lv r σ
  | .dup_x1 => jdupx st fun v w r => nx (pc + ln) lv (v :: w :: v :: r) σ
  | .dup_x2 => jdupx2 st fun v w z r => nx (pc + ln) lv (v :: w :: z :: v :: r) σ
  | .dup2 => jdup2 st fun r => nx (pc + ln) lv r σ
  | .ifCond c _ => j1 st fun x r => jbr c x 0 (lf py.1 lv r σ) (nx (pc + ln) lv r σ)
  | .if_icmp c _ => j2 st fun x y r => jbr c x y (lf py.1 lv r σ) (nx (pc + ln) lv r σ)
  | .ifnull _ => ja1 st fun a r => (a = none → lf py.1 lv r σ) ∧ (¬ a = none → nx (pc + ln) lv r σ)
  | .ifnonnull _ => ja1 st fun a r => (¬ a = none → lf py.1 lv r σ) ∧ (a = none → nx (pc + ln) lv r σ)
  | .goto _ => lf py.1 lv st σ
  | .iaload => jald tb σ n .int st fun x r => nx (pc + ln) lv (.inl x :: r) σ
  | .caload => jald tb σ n .char st fun x r => nx (pc + ln) lv (.inl x :: r) σ
  | .baload => jald tb σ n (if py.1 = 0 then .byte else .boolean) st fun x r => nx (pc + ln) lv (.inl x :: r) σ
  | .laload => jlald σ n st fun x r => nx (pc + ln) lv (.inr (.inl x) :: r) σ
  | .iastore => jast σ n .int st fun σ' r => nx (pc + ln) lv r σ'
  | .castore => jast σ n .char st fun σ' r => nx (pc + ln) lv r σ'
  | .bastore => jast σ n (if py.1 = 0 then .byte else .boolean) st fun σ' r => nx (pc + ln) lv r σ'
  | .lastore => jlast σ n st fun σ' r => nx (pc + ln) lv r σ'
  | .arraylength => jalen tb σ n st fun x r => nx (pc + ln) lv (.inl x :: r) σ
  | .getfield _ => jget σ n py.1 py.2.1 st fun v r => nx (pc + ln) lv (v :: r) σ
  | .putfield _ => jput σ n py.1 py.2.1 py.2.2.2.1.toNatClampNeg st fun σ' r => nx (pc + ln) lv r σ'
  | .getstatic _ => nx (pc + ln) lv (.inr (.inr (some (.inr py.1))) :: st) σ
  | _ => False
def jrun (tb : jTb) (n : Nat) : List jI → Nat → List (Option jv) → List jv → (Nat → jcell) → jN → Prop
  | [], pc, lv, st, σ, K => K pc lv st σ
  | i :: r, pc, lv, st, σ, K => jstep tb n i.1 i.2.1 i.2.2 pc lv st σ (fun a b c d => jrun tb n r a b c d K) K
end
section
/-! the static check of an instruction: what it decodes to, its word in the tables -/
def jkd (t : Option FieldType) : Nat := match t with
  | some .int => 0
  | some .boolean => 1
  | some .long => 2
  | some (.object _) => 3
  | some (.array _) => 3
  | _ => 9
/-- the word of a field's link: its own, or that of a nest mate's private field -/
def jlk (Ts : List Jvm.Cond) (wi : Nat) (own : String) (i : Nat) (ref nm ds : String) : Bool := match Ts[wi]? with
  | some (Jvm.Cond.fieldLink a b c e f) => decide (a = own) && decide (b = i) && decide (c = ref) && decide (e = nm) && decide (f = ds)
  | some (Jvm.Cond.fieldLinkNest a b c e f _) => decide (a = own) && decide (b = i) && decide (c = ref) && decide (e = nm) && decide (f = ds)
  | _ => false
theorem jlk_or {Ts : List Jvm.Cond} {wi : Nat} {own : String} {i : Nat} {ref nm ds : String} (h : jlk Ts wi own i ref nm ds = true) : Jvm.Cond.fieldLink own i ref nm ds ∈ jTA Ts ∨ ∃ host, Jvm.Cond.fieldLinkNest own i ref nm ds host ∈ jNW Ts := by
  unfold jlk at h
  split at h
  next hw =>
    simp only [Bool.and_eq_true, decide_eq_true_eq] at h
    obtain ⟨⟨⟨⟨rfl, rfl⟩, rfl⟩, rfl⟩, rfl⟩ := h
    exact Or.inl (jTA_in hw rfl)
  next hw =>
    simp only [Bool.and_eq_true, decide_eq_true_eq] at h
    obtain ⟨⟨⟨⟨rfl, rfl⟩, rfl⟩, rfl⟩, rfl⟩ := h
    exact Or.inr ⟨_, List.mem_filter.mpr ⟨List.mem_of_getElem? hw, rfl⟩⟩
  next => cases h
def jokF (own : String) (Ts : List Jvm.Cond) (cl : List vw_C) (i : Nat) (py : jP) : Bool := match cl[py.1]? with
  | some q => decide (py.2.1 < q.2.2) && jlk Ts py.2.2.1 own i (q.2.1 py.2.1).1 (q.2.1 py.2.1).2.1 (q.2.1 py.2.1).2.2.1
  | none => false
def jokW (own : String) (Ts : List Jvm.Cond) (cl : List vw_C) (ini : Bool) (i : Nat) (py : jP) : Bool := match cl[py.1]? with
  | some q => (!(q.2.1 py.2.1).2.2.2 || (ini && decide ((q.2.1 py.2.1).1 = own) && decide (Ts[py.2.2.1]? = some (Jvm.Cond.fieldLink own i (q.2.1 py.2.1).1 (q.2.1 py.2.1).2.1 (q.2.1 py.2.1).2.2.1)))) && decide (jkd (parseFieldDescriptor (q.2.1 py.2.1).2.2.1) = py.2.2.2.1.toNatClampNeg)
  | none => false
def jokS (own : String) (Ts : List Jvm.Cond) (tb : jTb) (i : Nat) (py : jP) : Bool := match tb py.1 with
  | some q => decide (Ts[py.2.2.1]? = some (Jvm.Cond.fieldLink own i q.1 q.2.1 q.2.2.1))
  | none => false
def jok1 (own : String) (Ts : List Jvm.Cond) (cl : List vw_C) (tb : jTb) (nL : Nat) (ini : Bool) (pc : Nat) (I : Instr) (ln : Nat) (py : jP) : Bool := match I with
  | .iconst i => decide (ln = 1) && decide (Int32.ofInt i = py.2.2.2.1)
  | .bipush i => decide (ln = 2) && decide ((Int8.ofInt i).toInt32 = py.2.2.2.1)
  | .sipush i => decide (ln = 3) && decide ((Int16.ofInt i).toInt32 = py.2.2.2.1)
  | .ldc i => decide (ln = 2) && decide (Ts[py.2.2.1]? = some (Jvm.Cond.constant own i py.2.2.2.1))
  | .lconst i => decide (ln = 1) && decide (Int64.ofNat (i : Nat) = py.2.2.2.2)
  | .ldc2_w i => decide (ln = 3) && decide (Ts[py.2.2.1]? = some (Jvm.Cond.constantLong own i py.2.2.2.2))
  | .iload_n i => decide (ln = 1) && decide (i.val = py.1)
  | .lload_n i => decide (ln = 1) && decide (i.val = py.1)
  | .aload_n i => decide (ln = 1) && decide (i.val = py.1)
  | .iload _ => decide (ln = 2)
  | .lload _ => decide (ln = 2)
  | .aload _ => decide (ln = 2)
  | .istore i => decide (ln = 2) && decide (i < nL)
  | .astore i => decide (ln = 2) && decide (i < nL)
  | .lstore i => decide (ln = 2) && decide (i + 1 < nL)
  | .istore_n i => decide (ln = 1) && decide (i.val < nL) && decide (i.val = py.1)
  | .astore_n i => decide (ln = 1) && decide (i.val < nL) && decide (i.val = py.1)
  | .lstore_n i => decide (ln = 1) && decide (i.val + 1 < nL) && decide (i.val = py.1)
  | .iinc i z => decide (ln = 3) && decide (i < nL) && decide (Int32.ofInt z = py.2.2.2.1)
  | .ifCond _ z => decide (ln = 3) && decide ((pc : Int) + z = (py.1 : Int))
  | .if_icmp _ z => decide (ln = 3) && decide ((pc : Int) + z = (py.1 : Int))
  | .ifnull z => decide (ln = 3) && decide ((pc : Int) + z = (py.1 : Int))
  | .ifnonnull z => decide (ln = 3) && decide ((pc : Int) + z = (py.1 : Int))
  | .goto z => decide (ln = 3) && decide ((pc : Int) + z = (py.1 : Int))
  | .getfield i => decide (ln = 3) && jokF own Ts cl i py
  | .putfield i => decide (ln = 3) && jokF own Ts cl i py && jokW own Ts cl ini i py
  | .getstatic i => decide (ln = 3) && jokS own Ts tb i py
  | .invokevirtual _ => true
  | .invokespecial _ => true
  | .invokestatic _ => true
  | .new _ => true
  | .newarray _ => true
  | .tableswitch _ _ _ _ => true
  | .lookupswitch _ _ => true
  | .ldc_w _ => true
  | .checkcast _ => true
  | .if_acmp _ _ => true
  | _ => decide (ln = 1)
def jok (own : String) (Ts : List Jvm.Cond) (cl : List vw_C) (tb : jTb) (nL : Nat) (ini : Bool) (cc : ByteArray) (pc : Nat) (x : jI) : Bool := decide (decode cc pc = .ok (x.1, x.2.1)) && jok1 own Ts cl tb nL ini pc x.1 x.2.1 x.2.2
def jokL (own : String) (Ts : List Jvm.Cond) (cl : List vw_C) (tb : jTb) (nL : Nat) (ini : Bool) (cc : ByteArray) : Nat → List jI → Bool
  | _, [] => true
  | pc, x :: r => jok own Ts cl tb nL ini cc pc x && jokL own Ts cl tb nL ini cc (pc + x.2.1) r
theorem jokL_app {own : String} {Ts : List Jvm.Cond} {cl : List vw_C} {tb : jTb} {nL : Nat} {ini : Bool} {cc : ByteArray} : ∀ (a b : List jI) (pc : Nat), jokL own Ts cl tb nL ini cc pc (a ++ b) = true → jokL own Ts cl tb nL ini cc pc a = true ∧ jokL own Ts cl tb nL ini cc (pc + (a.map (fun x => x.2.1)).sum) b = true
  | [], b, pc, h => ⟨rfl, by simpa using h⟩
  | x :: a, b, pc, h => by
    rw [List.cons_append] at h
    unfold jokL at h
    rw [Bool.and_eq_true] at h
    have h2 := jokL_app a b (pc + x.2.1) h.2
    refine ⟨?_, ?_⟩
    · unfold jokL
      rw [Bool.and_eq_true]
      exact ⟨h.1, h2.1⟩
    · rw [List.map_cons, List.sum_cons, ← Nat.add_assoc]
      exact h2.2
/-- a part of a checked row is checked -/
theorem jok_sub {own : String} {Ts : List Jvm.Cond} {cl : List vw_C} {tb : jTb} {nL : Nat} {ini : Bool} {cc : ByteArray} {pc : Nat} {is : List jI} (h : jokL own Ts cl tb nL ini cc pc is = true) (i j : Nat) {pc' : Nat} {mid : List jI} (hm : (is.drop i).take j = mid) (hp : pc + ((is.take i).map (fun x => x.2.1)).sum = pc') : jokL own Ts cl tb nL ini cc pc' mid = true := by
  subst hm; subst hp
  rw [← List.take_append_drop i is] at h
  have h2 := (jokL_app _ _ _ h).2
  rw [← List.take_append_drop j (is.drop i)] at h2
  exact (jokL_app _ _ _ h2).1
/-! the judgement -/
abbrev jM : Type := Program × Launch × Env × Room × State × MethodId × Array Value × List Frame × Method × Code
def jX (E : jE) (own : String) (Ts : List Jvm.Cond) (cl : List vw_C) (tb : jTb) (nL : Nat) (ini : Bool) (cc : ByteArray) (M : jM) : Prop :=
  M.1.tables.exec = Jvm.exec ∧ M.2.2.2.2.2.2.2.2.2.code = cc ∧ M.2.2.2.2.2.2.2.2.2.maxLocals = nL ∧ M.2.2.2.2.1.vm.findClass own = some M.2.2.2.2.2.1.cls ∧ (∀ w ∈ jTA Ts, w.before M.2.2.2.2.2.2.1 M.2.2.2.2.1 = true) ∧ jK E cl tb Ts M.2.2.2.2.1 ∧ M.2.2.2.2.2.2.2.2.1.locks = false ∧ (ini = true → M.2.2.2.2.2.2.2.2.1.name = "<init>")
def jJ (E : jE) (cl : List vw_C) (nL : Nat) (M : jM) (Q : State → Prop) (n cells slots : Nat) : jN := fun pc lv st σ => ∀ (H : Heap) (locs : List Loc) (ls : Array Slot), jW E cl σ n H → va_S (jA E) M.2.2.2.2.1.heap H locs → jlv E ls nL lv →
  W M.1 M.2.1 M.2.2.1 M.2.2.2.1 M.2.2.2.2.1 M.2.2.2.2.2.1 M.2.2.2.2.2.2.1 M.2.2.2.2.2.2.2.1 M.2.2.2.2.2.2.2.2.1 M.2.2.2.2.2.2.2.2.2 H locs cells slots Q (F0 M.2.2.2.2.2.1 pc ls (st.map (jc E)))
/-- what the tables give, once for all methods -/
def jCl (Ts : List Jvm.Cond) (cl : List vw_C) : Prop := ∀ (ci : Nat) (q : vw_C), cl[ci]? = some q → (∀ w ∈ u_ws q.1 q.2.1 q.2.2, w ∈ jTA Ts) ∧ (∃ ty : Nat → FieldType, ∀ k, k < q.2.2 → parseFieldDescriptor (q.2.1 k).2.2.1 = some (ty k)) ∧ ∀ a, a < q.2.2 → ∀ b, b < q.2.2 → a ≠ b → (q.2.1 a).2.1 ≠ (q.2.1 b).2.1
theorem jc_cat (E : jE) (v : jv) : (jc E v).category = jcat v := by
  rcases v with x | x | _ | k | j <;> rfl
theorem jpr_mem {E : jE} : ∀ (lv : List (Option jv)) (i : Nat) (q : Nat × Value), q ∈ jpr E i lv → ∃ (j : Nat) (v : jv), lv[j]? = some (some v) ∧ q = (i + j, jc E v)
  | [], _, _, h => by cases h
  | none :: r, i, q, h => by
    obtain ⟨j, v, h1, h2⟩ := jpr_mem r (i + 1) q h
    exact ⟨j + 1, v, by simpa using h1, by rw [h2]; congr 1; omega⟩
  | some v :: r, i, q, h => by
    rcases List.mem_cons.mp h with h | h
    · exact ⟨0, v, rfl, h⟩
    · obtain ⟨j, v, h1, h2⟩ := jpr_mem r (i + 1) q h
      exact ⟨j + 1, v, by simpa using h1, by rw [h2]; congr 1; omega⟩
theorem jpr_in {E : jE} : ∀ (lv : List (Option jv)) (i j : Nat) (v : jv), lv[j]? = some (some v) → (i + j, jc E v) ∈ jpr E i lv
  | [], _, _, _, h => by simp at h
  | x :: r, i, 0, v, h => by
    have hx : x = some v := by simpa using h
    subst hx
    exact List.mem_cons_self
  | x :: r, i, j + 1, v, h => by
    have h1 := jpr_in (E := E) r (i + 1) j v (by simpa using h)
    rw [show i + 1 + j = i + (j + 1) by omega] at h1
    cases x with
    | none => exact h1
    | some y => exact List.mem_cons_of_mem _ h1
theorem jlv_has {E : jE} {ls : Array Slot} {nL : Nat} {lv : List (Option jv)} (h : jlv E ls nL lv) : lv_has ls nL (jpr E 0 lv) := by
  refine ⟨h.1, h.2.1, fun q hq => ?_⟩
  obtain ⟨j, v, h1, h2⟩ := jpr_mem lv 0 q hq
  rw [h2]
  show ls[0 + j]? = _
  rw [Nat.zero_add]
  exact h.2.2 j v h1
theorem jkill_at {lv : List (Option jv)} {i j : Nat} {v : jv} (h : (jkill lv i)[j]? = some (some v)) : lv[j]? = some (some v) ∧ ¬ (j + 1 = i ∧ jcat v = 2) := by
  cases i with
  | zero => exact ⟨h, fun q => by omega⟩
  | succ k =>
    dsimp only [jkill] at h
    split at h
    next x hx =>
      by_cases hjk : j = k
      · subst hjk
        rw [List.getElem?_set_self (by exact (List.getElem?_eq_some_iff.mp hx).1)] at h
        cases h
      · rw [List.getElem?_set_ne (fun q => hjk q.symm)] at h
        exact ⟨h, fun q => hjk (by omega)⟩
    next hx =>
      refine ⟨h, fun q => ?_⟩
      have hjk : j = k := by omega
      subst hjk
      rcases v with x | x | a
      · cases q.2
      · exact hx x h
      · cases q.2
theorem jlv_st1 {E : jE} {ls : Array Slot} {nL : Nat} {lv : List (Option jv)} (h : jlv E ls nL lv) {i : Nat} (hi : i < nL) {v : jv} (hc : jcat v = 1) : ∃ ls', storeLocals ls i (jc E v) = some ls' ∧ jlv E ls' nL (jset1 lv i v) := by
  obtain ⟨ls', h1, h2⟩ := lv_store1 (i := i) (v := jc E v) (jlv_has h) hi (by rw [jc_cat]; exact hc)
  refine ⟨ls', h1, h2.1, h2.2.1, fun j w hj => ?_⟩
  by_cases hji : j = i
  · subst hji
    unfold jset1 at hj
    have hl : j < (jkill lv j).length := by
      have := (List.getElem?_eq_some_iff.mp hj).1
      simpa using this
    rw [List.getElem?_set_self hl] at hj
    cases hj
    exact h2.2.2 (j, jc E v) List.mem_cons_self
  · unfold jset1 at hj
    rw [List.getElem?_set_ne (fun q => hji q.symm)] at hj
    obtain ⟨h3, h4⟩ := jkill_at hj
    refine h2.2.2 (j, jc E w) (List.mem_cons_of_mem _ (List.mem_filter.mpr ⟨?_, ?_⟩))
    · have := jpr_in (E := E) lv 0 j w h3
      rwa [Nat.zero_add] at this
    · simp only [jc_cat]
      simp [hji]
      omega
theorem jlv_st2 {E : jE} {ls : Array Slot} {nL : Nat} {lv : List (Option jv)} (h : jlv E ls nL lv) {i : Nat} (hi : i + 1 < nL) {v : jv} (hc : jcat v = 2) : ∃ ls', storeLocals ls i (jc E v) = some ls' ∧ jlv E ls' nL (jset2 lv i v) := by
  obtain ⟨ls', h1, h2⟩ := lv_store2 (i := i) (v := jc E v) (jlv_has h) hi (by rw [jc_cat]; exact hc)
  refine ⟨ls', h1, h2.1, h2.2.1, fun j w hj => ?_⟩
  unfold jset2 at hj
  by_cases hj1 : j = i + 1
  · subst hj1
    have hl : i + 1 < ((jkill lv i).set i (some v)).length := by
      have := (List.getElem?_eq_some_iff.mp hj).1
      simpa using this
    rw [List.getElem?_set_self hl] at hj
    cases hj
  rw [List.getElem?_set_ne (fun q => hj1 q.symm)] at hj
  by_cases hji : j = i
  · subst hji
    have hl : j < (jkill lv j).length := by
      have := (List.getElem?_eq_some_iff.mp hj).1
      simpa using this
    rw [List.getElem?_set_self hl] at hj
    cases hj
    exact h2.2.2 (j, jc E v) List.mem_cons_self
  · rw [List.getElem?_set_ne (fun q => hji q.symm)] at hj
    obtain ⟨h3, h4⟩ := jkill_at hj
    refine h2.2.2 (j, jc E w) (List.mem_cons_of_mem _ (List.mem_filter.mpr ⟨?_, ?_⟩))
    · have := jpr_in (E := E) lv 0 j w h3
      rwa [Nat.zero_add] at this
    · simp only [jc_cat]
      simp [hji, hj1]
      omega
theorem jW_set {E : jE} {cl : List vw_C} {σ : Nat → jcell} {n a : Nat} {x : jcell} {H H1 : Heap} (h : jW E cl σ n H) (z : H1.size = H.size) (oq : ∀ q : Nat, q ≠ E.2.2.2 + a → H1[q]? = H[q]?) (he : va_at E.1 cl (E.2.2.2 + a, je E x) H1) : jW E cl (jup σ a x) n H1 := by
  refine ⟨z.trans h.1, fun k hk hkk => ?_⟩
  by_cases hka : k = a
  · subst hka
    rw [jup_s]
    exact he
  · rw [jup_n hka] at hkk ⊢
    exact (h.2 k hk hkk).kept (oq _ (by show E.2.2.2 + k ≠ _; omega))
theorem jS_put {E : jE} {H0 H H1 : Heap} {locs : List Loc} {a k : Nat} (h : va_S (jA E) H0 H locs) (z : H1.size = H.size) (oq : ∀ q : Nat, q ≠ E.2.2.2 + a → H1[q]? = H[q]?) : va_S (jA E) H0 H1 (locs ++ [⟨E.2.2.2 + a, k⟩]) := h.put z oq (Nat.le_add_right _ _)
theorem jW_one {E : jE} {cl : List vw_C} {σ : Nat → jcell} {n a : Nat} {H : Heap} (h : jW E cl σ n H) (ha : a < n) (hq : jkn (σ a)) : va_P E.1 cl [(E.2.2.2 + a, je E (σ a))] H := by
  intro k q hk
  cases k with
  | zero => cases hk; exact h.2 a ha hq
  | succ k => simp at hk
theorem jty_in {E : jE} {t : FieldType} (h : t ∈ jtys) : ∃ t0 : Nat, (jtyl E)[t0]? = some (E.2.1 t, t) := by
  obtain ⟨i, hi⟩ := List.getElem?_of_mem h
  exact ⟨i, by simp [jtyl, hi]⟩
theorem jfit_n {kd : Nat} {v : jv} {E : jE} {t : Option FieldType} (h : jfit kd v) (hk : jkd t = kd) : ∃ ty, t = some ty ∧ narrow ty (jc E v) = jc E v ∧ fits ty (jc E v) = true := by
  unfold jfit at h
  split at h
  · cases t with
    | none => cases hk
    | some ty => cases ty <;> first | (cases hk; done) | exact ⟨_, rfl, rfl, rfl⟩
  · cases t with
    | none => cases hk
    | some ty => cases ty <;> first | (cases hk; done) | (rcases h with h | h <;> subst h <;> exact ⟨_, rfl, rfl, rfl⟩)
  · cases t with
    | none => cases hk
    | some ty => cases ty <;> first | (cases hk; done) | exact ⟨_, rfl, rfl, rfl⟩
  · next a =>
    cases t with
    | none => cases hk
    | some ty => cases ty <;> first | (cases hk; done) | (rcases a with _ | k | k <;> exact ⟨_, rfl, rfl, rfl⟩)
  · exact h.elim

section JST
variable {E : jE} {own : String} {Ts : List Jvm.Cond} {cl : List vw_C} {tb : jTb} {nL : Nat} {ini : Bool} {cc : ByteArray} {M : jM} {Q : State → Prop} {n cells slots : Nat}

theorem jk_iadd (X : jX E own Ts cl tb nL ini cc M) {pc : Nat} (hd : decode cc pc = .ok (.iadd, 1)) {lv : List (Option jv)} {r : List jv} {σ : Nat → jcell} {x y : Int32} (k : jJ E cl nL M Q n cells slots (pc + 1) lv (.inl (x + y) :: r) σ) : jJ E cl nL M Q n cells slots pc lv (.inl y :: .inl x :: r) σ := by
  obtain ⟨hx, hb, -⟩ := X
  exact fun H locs ls hW hS hL => lv_iadd (x := x) (y := y) hx hb hd (k H locs ls hW hS hL)
theorem jk_isub (X : jX E own Ts cl tb nL ini cc M) {pc : Nat} (hd : decode cc pc = .ok (.isub, 1)) {lv : List (Option jv)} {r : List jv} {σ : Nat → jcell} {x y : Int32} (k : jJ E cl nL M Q n cells slots (pc + 1) lv (.inl (x - y) :: r) σ) : jJ E cl nL M Q n cells slots pc lv (.inl y :: .inl x :: r) σ := by
  obtain ⟨hx, hb, -⟩ := X
  exact fun H locs ls hW hS hL => lv_isub (x := x) (y := y) hx hb hd (k H locs ls hW hS hL)
theorem jk_imul (X : jX E own Ts cl tb nL ini cc M) {pc : Nat} (hd : decode cc pc = .ok (.imul, 1)) {lv : List (Option jv)} {r : List jv} {σ : Nat → jcell} {x y : Int32} (k : jJ E cl nL M Q n cells slots (pc + 1) lv (.inl (x * y) :: r) σ) : jJ E cl nL M Q n cells slots pc lv (.inl y :: .inl x :: r) σ := by
  obtain ⟨hx, hb, -⟩ := X
  exact fun H locs ls hW hS hL => lv_imul (x := x) (y := y) hx hb hd (k H locs ls hW hS hL)
theorem jk_iand (X : jX E own Ts cl tb nL ini cc M) {pc : Nat} (hd : decode cc pc = .ok (.iand, 1)) {lv : List (Option jv)} {r : List jv} {σ : Nat → jcell} {x y : Int32} (k : jJ E cl nL M Q n cells slots (pc + 1) lv (.inl (x &&& y) :: r) σ) : jJ E cl nL M Q n cells slots pc lv (.inl y :: .inl x :: r) σ := by
  obtain ⟨hx, hb, -⟩ := X
  exact fun H locs ls hW hS hL => lv_iand (x := x) (y := y) hx hb hd (k H locs ls hW hS hL)
theorem jk_ior (X : jX E own Ts cl tb nL ini cc M) {pc : Nat} (hd : decode cc pc = .ok (.ior, 1)) {lv : List (Option jv)} {r : List jv} {σ : Nat → jcell} {x y : Int32} (k : jJ E cl nL M Q n cells slots (pc + 1) lv (.inl (x ||| y) :: r) σ) : jJ E cl nL M Q n cells slots pc lv (.inl y :: .inl x :: r) σ := by
  obtain ⟨hx, hb, -⟩ := X
  exact fun H locs ls hW hS hL => lv_ior (x := x) (y := y) hx hb hd (k H locs ls hW hS hL)
theorem jk_ixor (X : jX E own Ts cl tb nL ini cc M) {pc : Nat} (hd : decode cc pc = .ok (.ixor, 1)) {lv : List (Option jv)} {r : List jv} {σ : Nat → jcell} {x y : Int32} (k : jJ E cl nL M Q n cells slots (pc + 1) lv (.inl (x ^^^ y) :: r) σ) : jJ E cl nL M Q n cells slots pc lv (.inl y :: .inl x :: r) σ := by
  obtain ⟨hx, hb, -⟩ := X
  exact fun H locs ls hW hS hL => lv_ixor (x := x) (y := y) hx hb hd (k H locs ls hW hS hL)
theorem jk_ishl (X : jX E own Ts cl tb nL ini cc M) {pc : Nat} (hd : decode cc pc = .ok (.ishl, 1)) {lv : List (Option jv)} {r : List jv} {σ : Nat → jcell} {x y : Int32} (k : jJ E cl nL M Q n cells slots (pc + 1) lv (.inl (x <<< (y &&& 31)) :: r) σ) : jJ E cl nL M Q n cells slots pc lv (.inl y :: .inl x :: r) σ := by
  obtain ⟨hx, hb, -⟩ := X
  exact fun H locs ls hW hS hL => lv_ishl (x := x) (y := y) hx hb hd (k H locs ls hW hS hL)
theorem jk_ishr (X : jX E own Ts cl tb nL ini cc M) {pc : Nat} (hd : decode cc pc = .ok (.ishr, 1)) {lv : List (Option jv)} {r : List jv} {σ : Nat → jcell} {x y : Int32} (k : jJ E cl nL M Q n cells slots (pc + 1) lv (.inl (x >>> (y &&& 31)) :: r) σ) : jJ E cl nL M Q n cells slots pc lv (.inl y :: .inl x :: r) σ := by
  obtain ⟨hx, hb, -⟩ := X
  exact fun H locs ls hW hS hL => lv_ishr (x := x) (y := y) hx hb hd (k H locs ls hW hS hL)
theorem jk_iushr (X : jX E own Ts cl tb nL ini cc M) {pc : Nat} (hd : decode cc pc = .ok (.iushr, 1)) {lv : List (Option jv)} {r : List jv} {σ : Nat → jcell} {x y : Int32} (k : jJ E cl nL M Q n cells slots (pc + 1) lv (.inl (x.toUInt32 >>> (y.toUInt32 &&& Int32.toUInt32 31)).toInt32 :: r) σ) : jJ E cl nL M Q n cells slots pc lv (.inl y :: .inl x :: r) σ := by
  obtain ⟨hx, hb, -⟩ := X
  exact fun H locs ls hW hS hL => lv_iushr (x := x) (y := y) hx hb hd rfl (k H locs ls hW hS hL)
theorem jk_idiv (X : jX E own Ts cl tb nL ini cc M) {pc : Nat} (hd : decode cc pc = .ok (.idiv, 1)) {lv : List (Option jv)} {r : List jv} {σ : Nat → jcell} {x y : Int32} (hne : ¬ y = 0) (k : jJ E cl nL M Q n cells slots (pc + 1) lv (.inl (x / y) :: r) σ) : jJ E cl nL M Q n cells slots pc lv (.inl y :: .inl x :: r) σ := by
  obtain ⟨hx, hb, -⟩ := X
  exact fun H locs ls hW hS hL => lv_idiv (x := x) (y := y) hx hb hd hne (k H locs ls hW hS hL)
theorem jk_irem (X : jX E own Ts cl tb nL ini cc M) {pc : Nat} (hd : decode cc pc = .ok (.irem, 1)) {lv : List (Option jv)} {r : List jv} {σ : Nat → jcell} {x y : Int32} (hne : ¬ y = 0) (k : jJ E cl nL M Q n cells slots (pc + 1) lv (.inl (x - x / y * y) :: r) σ) : jJ E cl nL M Q n cells slots pc lv (.inl y :: .inl x :: r) σ := by
  obtain ⟨hx, hb, -⟩ := X
  exact fun H locs ls hW hS hL => lv_irem (x := x) (y := y) hx hb hd hne (k H locs ls hW hS hL)
theorem jk_ineg (X : jX E own Ts cl tb nL ini cc M) {pc : Nat} (hd : decode cc pc = .ok (.ineg, 1)) {lv : List (Option jv)} {r : List jv} {σ : Nat → jcell} {x : Int32} (k : jJ E cl nL M Q n cells slots (pc + 1) lv (.inl (-x) :: r) σ) : jJ E cl nL M Q n cells slots pc lv (.inl x :: r) σ := by
  obtain ⟨hx, hb, -⟩ := X
  exact fun H locs ls hW hS hL => lv_ineg (x := x) hx hb hd (k H locs ls hW hS hL)
theorem jk_ladd (X : jX E own Ts cl tb nL ini cc M) {pc : Nat} (hd : decode cc pc = .ok (.ladd, 1)) {lv : List (Option jv)} {r : List jv} {σ : Nat → jcell} {x y : Int64} (k : jJ E cl nL M Q n cells slots (pc + 1) lv (.inr (.inl (x + y)) :: r) σ) : jJ E cl nL M Q n cells slots pc lv (.inr (.inl y) :: .inr (.inl x) :: r) σ := by
  obtain ⟨hx, hb, -⟩ := X
  exact fun H locs ls hW hS hL => lv_ladd (x := x) (y := y) hx hb hd (k H locs ls hW hS hL)
theorem jk_lsub (X : jX E own Ts cl tb nL ini cc M) {pc : Nat} (hd : decode cc pc = .ok (.lsub, 1)) {lv : List (Option jv)} {r : List jv} {σ : Nat → jcell} {x y : Int64} (k : jJ E cl nL M Q n cells slots (pc + 1) lv (.inr (.inl (x - y)) :: r) σ) : jJ E cl nL M Q n cells slots pc lv (.inr (.inl y) :: .inr (.inl x) :: r) σ := by
  obtain ⟨hx, hb, -⟩ := X
  exact fun H locs ls hW hS hL => lv_lsub (x := x) (y := y) hx hb hd (k H locs ls hW hS hL)
theorem jk_lmul (X : jX E own Ts cl tb nL ini cc M) {pc : Nat} (hd : decode cc pc = .ok (.lmul, 1)) {lv : List (Option jv)} {r : List jv} {σ : Nat → jcell} {x y : Int64} (k : jJ E cl nL M Q n cells slots (pc + 1) lv (.inr (.inl (x * y)) :: r) σ) : jJ E cl nL M Q n cells slots pc lv (.inr (.inl y) :: .inr (.inl x) :: r) σ := by
  obtain ⟨hx, hb, -⟩ := X
  exact fun H locs ls hW hS hL => lv_lmul (x := x) (y := y) hx hb hd (k H locs ls hW hS hL)
theorem jk_land (X : jX E own Ts cl tb nL ini cc M) {pc : Nat} (hd : decode cc pc = .ok (.land, 1)) {lv : List (Option jv)} {r : List jv} {σ : Nat → jcell} {x y : Int64} (k : jJ E cl nL M Q n cells slots (pc + 1) lv (.inr (.inl (x &&& y)) :: r) σ) : jJ E cl nL M Q n cells slots pc lv (.inr (.inl y) :: .inr (.inl x) :: r) σ := by
  obtain ⟨hx, hb, -⟩ := X
  exact fun H locs ls hW hS hL => lv_land (x := x) (y := y) hx hb hd (k H locs ls hW hS hL)
theorem jk_lor (X : jX E own Ts cl tb nL ini cc M) {pc : Nat} (hd : decode cc pc = .ok (.lor, 1)) {lv : List (Option jv)} {r : List jv} {σ : Nat → jcell} {x y : Int64} (k : jJ E cl nL M Q n cells slots (pc + 1) lv (.inr (.inl (x ||| y)) :: r) σ) : jJ E cl nL M Q n cells slots pc lv (.inr (.inl y) :: .inr (.inl x) :: r) σ := by
  obtain ⟨hx, hb, -⟩ := X
  exact fun H locs ls hW hS hL => lv_lor (x := x) (y := y) hx hb hd (k H locs ls hW hS hL)
theorem jk_lxor (X : jX E own Ts cl tb nL ini cc M) {pc : Nat} (hd : decode cc pc = .ok (.lxor, 1)) {lv : List (Option jv)} {r : List jv} {σ : Nat → jcell} {x y : Int64} (k : jJ E cl nL M Q n cells slots (pc + 1) lv (.inr (.inl (x ^^^ y)) :: r) σ) : jJ E cl nL M Q n cells slots pc lv (.inr (.inl y) :: .inr (.inl x) :: r) σ := by
  obtain ⟨hx, hb, -⟩ := X
  exact fun H locs ls hW hS hL => lv_lxor (x := x) (y := y) hx hb hd (k H locs ls hW hS hL)
theorem jk_ldiv (X : jX E own Ts cl tb nL ini cc M) {pc : Nat} (hd : decode cc pc = .ok (.ldiv, 1)) {lv : List (Option jv)} {r : List jv} {σ : Nat → jcell} {x y : Int64} (hne : ¬ y = 0) (k : jJ E cl nL M Q n cells slots (pc + 1) lv (.inr (.inl (x / y)) :: r) σ) : jJ E cl nL M Q n cells slots pc lv (.inr (.inl y) :: .inr (.inl x) :: r) σ := by
  obtain ⟨hx, hb, -⟩ := X
  exact fun H locs ls hW hS hL => lv_ldiv (x := x) (y := y) hx hb hd hne (k H locs ls hW hS hL)
theorem jk_lrem (X : jX E own Ts cl tb nL ini cc M) {pc : Nat} (hd : decode cc pc = .ok (.lrem, 1)) {lv : List (Option jv)} {r : List jv} {σ : Nat → jcell} {x y : Int64} (hne : ¬ y = 0) (k : jJ E cl nL M Q n cells slots (pc + 1) lv (.inr (.inl (x - x / y * y)) :: r) σ) : jJ E cl nL M Q n cells slots pc lv (.inr (.inl y) :: .inr (.inl x) :: r) σ := by
  obtain ⟨hx, hb, -⟩ := X
  exact fun H locs ls hW hS hL => lv_lrem (x := x) (y := y) hx hb hd hne (k H locs ls hW hS hL)
theorem jk_lneg (X : jX E own Ts cl tb nL ini cc M) {pc : Nat} (hd : decode cc pc = .ok (.lneg, 1)) {lv : List (Option jv)} {r : List jv} {σ : Nat → jcell} {x : Int64} (k : jJ E cl nL M Q n cells slots (pc + 1) lv (.inr (.inl (-x)) :: r) σ) : jJ E cl nL M Q n cells slots pc lv (.inr (.inl x) :: r) σ := by
  obtain ⟨hx, hb, -⟩ := X
  exact fun H locs ls hW hS hL => lv_lneg (x := x) hx hb hd (k H locs ls hW hS hL)
theorem jk_lshl (X : jX E own Ts cl tb nL ini cc M) {pc : Nat} (hd : decode cc pc = .ok (.lshl, 1)) {lv : List (Option jv)} {r : List jv} {σ : Nat → jcell} {x : Int64} {y : Int32} (k : jJ E cl nL M Q n cells slots (pc + 1) lv (.inr (.inl (x <<< (y.toInt64 &&& 63))) :: r) σ) : jJ E cl nL M Q n cells slots pc lv (.inl y :: .inr (.inl x) :: r) σ := by
  obtain ⟨hx, hb, -⟩ := X
  exact fun H locs ls hW hS hL => lv_lshl (x := x) (y := y) hx hb hd rfl (k H locs ls hW hS hL)
theorem jk_lshr (X : jX E own Ts cl tb nL ini cc M) {pc : Nat} (hd : decode cc pc = .ok (.lshr, 1)) {lv : List (Option jv)} {r : List jv} {σ : Nat → jcell} {x : Int64} {y : Int32} (k : jJ E cl nL M Q n cells slots (pc + 1) lv (.inr (.inl (x >>> (y.toInt64 &&& 63))) :: r) σ) : jJ E cl nL M Q n cells slots pc lv (.inl y :: .inr (.inl x) :: r) σ := by
  obtain ⟨hx, hb, -⟩ := X
  exact fun H locs ls hW hS hL => lv_lshr (x := x) (y := y) hx hb hd rfl (k H locs ls hW hS hL)
theorem jk_lushr (X : jX E own Ts cl tb nL ini cc M) {pc : Nat} (hd : decode cc pc = .ok (.lushr, 1)) {lv : List (Option jv)} {r : List jv} {σ : Nat → jcell} {x : Int64} {y : Int32} (k : jJ E cl nL M Q n cells slots (pc + 1) lv (.inr (.inl (x.toUInt64 >>> (y.toInt64.toUInt64 &&& Int64.toUInt64 63)).toInt64) :: r) σ) : jJ E cl nL M Q n cells slots pc lv (.inl y :: .inr (.inl x) :: r) σ := by
  obtain ⟨hx, hb, -⟩ := X
  exact fun H locs ls hW hS hL => lv_lushr (x := x) (y := y) hx hb hd rfl (k H locs ls hW hS hL)
theorem jk_lcmp (X : jX E own Ts cl tb nL ini cc M) {pc : Nat} (hd : decode cc pc = .ok (.lcmp, 1)) {lv : List (Option jv)} {r : List jv} {σ : Nat → jcell} {x y : Int64} (k : jJ E cl nL M Q n cells slots (pc + 1) lv (.inl (lg_cmp x y) :: r) σ) : jJ E cl nL M Q n cells slots pc lv (.inr (.inl y) :: .inr (.inl x) :: r) σ := by
  obtain ⟨hx, hb, -⟩ := X
  exact fun H locs ls hW hS hL => W.lcmp (x := x) (y := y) hx hb hd (k H locs ls hW hS hL)
theorem jk_i2l (X : jX E own Ts cl tb nL ini cc M) {pc : Nat} (hd : decode cc pc = .ok (.i2l, 1)) {lv : List (Option jv)} {r : List jv} {σ : Nat → jcell} {x : Int32} (k : jJ E cl nL M Q n cells slots (pc + 1) lv (.inr (.inl x.toInt64) :: r) σ) : jJ E cl nL M Q n cells slots pc lv (.inl x :: r) σ := by
  obtain ⟨hx, hb, -⟩ := X
  exact fun H locs ls hW hS hL => lv_i2l (x := x) hx hb hd rfl (k H locs ls hW hS hL)
theorem jk_l2i (X : jX E own Ts cl tb nL ini cc M) {pc : Nat} (hd : decode cc pc = .ok (.l2i, 1)) {lv : List (Option jv)} {r : List jv} {σ : Nat → jcell} {x : Int64} (k : jJ E cl nL M Q n cells slots (pc + 1) lv (.inl x.toInt32 :: r) σ) : jJ E cl nL M Q n cells slots pc lv (.inr (.inl x) :: r) σ := by
  obtain ⟨hx, hb, -⟩ := X
  exact fun H locs ls hW hS hL => lv_l2i (x := x) hx hb hd rfl (k H locs ls hW hS hL)
theorem jk_i2b (X : jX E own Ts cl tb nL ini cc M) {pc : Nat} (hd : decode cc pc = .ok (.i2b, 1)) {lv : List (Option jv)} {r : List jv} {σ : Nat → jcell} {x : Int32} (k : jJ E cl nL M Q n cells slots (pc + 1) lv (.inl x.toInt8.toInt32 :: r) σ) : jJ E cl nL M Q n cells slots pc lv (.inl x :: r) σ := by
  obtain ⟨hx, hb, -⟩ := X
  exact fun H locs ls hW hS hL => lv_i2b (x := x) hx hb hd rfl (k H locs ls hW hS hL)
theorem jk_i2c (X : jX E own Ts cl tb nL ini cc M) {pc : Nat} (hd : decode cc pc = .ok (.i2c, 1)) {lv : List (Option jv)} {r : List jv} {σ : Nat → jcell} {x : Int32} (k : jJ E cl nL M Q n cells slots (pc + 1) lv (.inl (x.toUInt32 % 65536).toInt32 :: r) σ) : jJ E cl nL M Q n cells slots pc lv (.inl x :: r) σ := by
  obtain ⟨hx, hb, -⟩ := X
  exact fun H locs ls hW hS hL => lv_i2c (x := x) hx hb hd rfl (k H locs ls hW hS hL)
theorem jk_anull (X : jX E own Ts cl tb nL ini cc M) {pc : Nat} (hd : decode cc pc = .ok (.aconst_null, 1)) {lv : List (Option jv)} {r : List jv} {σ : Nat → jcell} (k : jJ E cl nL M Q n cells slots (pc + 1) lv (.inr (.inr none) :: r) σ) : jJ E cl nL M Q n cells slots pc lv (r) σ := by
  obtain ⟨hx, hb, -⟩ := X
  exact fun H locs ls hW hS hL => lv_null hx hb hd (k H locs ls hW hS hL)
theorem jk_dup (X : jX E own Ts cl tb nL ini cc M) {pc : Nat} (hd : decode cc pc = .ok (.dup, 1)) {lv : List (Option jv)} {r : List jv} {σ : Nat → jcell} {v : jv} (hv : jcat v = 1) (k : jJ E cl nL M Q n cells slots (pc + 1) lv (v :: v :: r) σ) : jJ E cl nL M Q n cells slots pc lv (v :: r) σ := by
  obtain ⟨hx, hb, -⟩ := X
  exact fun H locs ls hW hS hL => lv_dup (va := jc E v) hx hb hd ((jc_cat E v).trans hv) (k H locs ls hW hS hL)
theorem jk_pop (X : jX E own Ts cl tb nL ini cc M) {pc : Nat} (hd : decode cc pc = .ok (.pop, 1)) {lv : List (Option jv)} {r : List jv} {σ : Nat → jcell} {v : jv} (hv : jcat v = 1) (k : jJ E cl nL M Q n cells slots (pc + 1) lv (r) σ) : jJ E cl nL M Q n cells slots pc lv (v :: r) σ := by
  obtain ⟨hx, hb, -⟩ := X
  exact fun H locs ls hW hS hL => lv_pop (va := jc E v) hx hb hd ((jc_cat E v).trans hv) (k H locs ls hW hS hL)
theorem jk_dup_x1 (X : jX E own Ts cl tb nL ini cc M) {pc : Nat} (hd : decode cc pc = .ok (.dup_x1, 1)) {lv : List (Option jv)} {r : List jv} {σ : Nat → jcell} {v w : jv} (hv : jcat v = 1) (hw : jcat w = 1) (k : jJ E cl nL M Q n cells slots (pc + 1) lv (v :: w :: v :: r) σ) : jJ E cl nL M Q n cells slots pc lv (v :: w :: r) σ := by
  obtain ⟨hx, hb, -⟩ := X
  exact fun H locs ls hW hS hL => lv_dup_x1 (va := jc E v) (vb := jc E w) hx hb hd ((jc_cat E v).trans hv) ((jc_cat E w).trans hw) (k H locs ls hW hS hL)
theorem jk_dup_x2 (X : jX E own Ts cl tb nL ini cc M) {pc : Nat} (hd : decode cc pc = .ok (.dup_x2, 1)) {lv : List (Option jv)} {r : List jv} {σ : Nat → jcell} {v w z : jv} (hv : jcat v = 1) (hw : jcat w = 1) (hz : jcat z = 1) (k : jJ E cl nL M Q n cells slots (pc + 1) lv (v :: w :: z :: v :: r) σ) : jJ E cl nL M Q n cells slots pc lv (v :: w :: z :: r) σ := by
  obtain ⟨hx, hb, -⟩ := X
  exact fun H locs ls hW hS hL => lv_dup_x2 (va := jc E v) (vb := jc E w) (vd := jc E z) hx hb hd ((jc_cat E v).trans hv) ((jc_cat E w).trans hw) ((jc_cat E z).trans hz) (k H locs ls hW hS hL)
theorem jk_dup2_11 (X : jX E own Ts cl tb nL ini cc M) {pc : Nat} (hd : decode cc pc = .ok (.dup2, 1)) {lv : List (Option jv)} {r : List jv} {σ : Nat → jcell} {v w : jv} (hv : jcat v = 1) (hw : jcat w = 1) (k : jJ E cl nL M Q n cells slots (pc + 1) lv (v :: w :: v :: w :: r) σ) : jJ E cl nL M Q n cells slots pc lv (v :: w :: r) σ := by
  obtain ⟨hx, hb, -⟩ := X
  exact fun H locs ls hW hS hL => lv_dup2_11 (va := jc E v) (vb := jc E w) hx hb hd ((jc_cat E v).trans hv) ((jc_cat E w).trans hw) (k H locs ls hW hS hL)
theorem jk_dup2_2 (X : jX E own Ts cl tb nL ini cc M) {pc : Nat} (hd : decode cc pc = .ok (.dup2, 1)) {lv : List (Option jv)} {r : List jv} {σ : Nat → jcell} {x : Int64} (k : jJ E cl nL M Q n cells slots (pc + 1) lv (.inr (.inl x) :: .inr (.inl x) :: r) σ) : jJ E cl nL M Q n cells slots pc lv (.inr (.inl x) :: r) σ := by
  obtain ⟨hx, hb, -⟩ := X
  exact fun H locs ls hW hS hL => lv_dup2_2 (va := .long x) hx hb hd rfl (k H locs ls hW hS hL)
theorem jk_iconst (X : jX E own Ts cl tb nL ini cc M) {pc : Nat} {i : Int} {v : Int32} (hd : decode cc pc = .ok (.iconst i, 1)) (hv : Int32.ofInt i = v) {lv : List (Option jv)} {r : List jv} {σ : Nat → jcell} (k : jJ E cl nL M Q n cells slots (pc + 1) lv (.inl v :: r) σ) : jJ E cl nL M Q n cells slots pc lv r σ := by
  obtain ⟨hx, hb, -⟩ := X
  exact fun H locs ls hW hS hL => lv_iconst hx hb hd hv (k H locs ls hW hS hL)
theorem jk_bipush (X : jX E own Ts cl tb nL ini cc M) {pc : Nat} {i : Int} {v : Int32} (hd : decode cc pc = .ok (.bipush i, 2)) (hv : (Int8.ofInt i).toInt32 = v) {lv : List (Option jv)} {r : List jv} {σ : Nat → jcell} (k : jJ E cl nL M Q n cells slots (pc + 2) lv (.inl v :: r) σ) : jJ E cl nL M Q n cells slots pc lv r σ := by
  obtain ⟨hx, hb, -⟩ := X
  exact fun H locs ls hW hS hL => lv_bipush hx hb hd hv (k H locs ls hW hS hL)
theorem jk_sipush (X : jX E own Ts cl tb nL ini cc M) {pc : Nat} {i : Int} {v : Int32} (hd : decode cc pc = .ok (.sipush i, 3)) (hv : (Int16.ofInt i).toInt32 = v) {lv : List (Option jv)} {r : List jv} {σ : Nat → jcell} (k : jJ E cl nL M Q n cells slots (pc + 3) lv (.inl v :: r) σ) : jJ E cl nL M Q n cells slots pc lv r σ := by
  obtain ⟨hx, hb, -⟩ := X
  exact fun H locs ls hW hS hL => lv_sipush hx hb hd hv (k H locs ls hW hS hL)
theorem jk_lconst (X : jX E own Ts cl tb nL ini cc M) {pc : Nat} {i : Fin 2} {v : Int64} (hd : decode cc pc = .ok (.lconst i, 1)) (hv : Int64.ofNat (i : Nat) = v) {lv : List (Option jv)} {r : List jv} {σ : Nat → jcell} (k : jJ E cl nL M Q n cells slots (pc + 1) lv (.inr (.inl v) :: r) σ) : jJ E cl nL M Q n cells slots pc lv r σ := by
  obtain ⟨hx, hb, -⟩ := X
  exact fun H locs ls hW hS hL => lv_lconst hx hb hd hv (k H locs ls hW hS hL)
theorem jk_ldc (X : jX E own Ts cl tb nL ini cc M) {pc i wi : Nat} {v : Int32} (hd : decode cc pc = .ok (.ldc i, 2)) (hw : Ts[wi]? = some (Jvm.Cond.constant own i v)) {lv : List (Option jv)} {r : List jv} {σ : Nat → jcell} (k : jJ E cl nL M Q n cells slots (pc + 2) lv (.inl v :: r) σ) : jJ E cl nL M Q n cells slots pc lv r σ := by
  obtain ⟨hx, hb, -, ho, hts, -⟩ := X
  exact fun H locs ls hW hS hL => lv_ldc hx hb ho (hts _ (jTA_in hw rfl)) hd (k H locs ls hW hS hL)
theorem jk_ldc2 (X : jX E own Ts cl tb nL ini cc M) {pc i wi : Nat} {v : Int64} (hd : decode cc pc = .ok (.ldc2_w i, 3)) (hw : Ts[wi]? = some (Jvm.Cond.constantLong own i v)) {lv : List (Option jv)} {r : List jv} {σ : Nat → jcell} (k : jJ E cl nL M Q n cells slots (pc + 3) lv (.inr (.inl v) :: r) σ) : jJ E cl nL M Q n cells slots pc lv r σ := by
  obtain ⟨hx, hb, -, ho, hts, -⟩ := X
  exact fun H locs ls hW hS hL => lv_ldc2 hx hb ho (hts _ (jTA_in hw rfl)) hd (k H locs ls hW hS hL)
theorem jk_iload_n (X : jX E own Ts cl tb nL ini cc M) {pc : Nat} {i : Fin 4} (hd : decode cc pc = .ok (.iload_n i, 1)) {lv : List (Option jv)} {r : List jv} {σ : Nat → jcell} {x : Int32} (hl : lv[i.val]? = some (some (.inl x))) (k : jJ E cl nL M Q n cells slots (pc + 1) lv (.inl x :: r) σ) : jJ E cl nL M Q n cells slots pc lv r σ := by
  obtain ⟨hx, hb, -⟩ := X
  exact fun H locs ls hW hS hL => lv_iload_n hx hb hd rfl (hL.2.2 _ _ hl) (k H locs ls hW hS hL)
theorem jk_iload (X : jX E own Ts cl tb nL ini cc M) {pc i : Nat} (hd : decode cc pc = .ok (.iload i, 2)) {lv : List (Option jv)} {r : List jv} {σ : Nat → jcell} {x : Int32} (hl : lv[i]? = some (some (.inl x))) (k : jJ E cl nL M Q n cells slots (pc + 2) lv (.inl x :: r) σ) : jJ E cl nL M Q n cells slots pc lv r σ := by
  obtain ⟨hx, hb, -⟩ := X
  exact fun H locs ls hW hS hL => lv_iload hx hb hd (hL.2.2 _ _ hl) (k H locs ls hW hS hL)
theorem jk_lload_n (X : jX E own Ts cl tb nL ini cc M) {pc : Nat} {i : Fin 4} (hd : decode cc pc = .ok (.lload_n i, 1)) {lv : List (Option jv)} {r : List jv} {σ : Nat → jcell} {x : Int64} (hl : lv[i.val]? = some (some (.inr (.inl x)))) (k : jJ E cl nL M Q n cells slots (pc + 1) lv (.inr (.inl x) :: r) σ) : jJ E cl nL M Q n cells slots pc lv r σ := by
  obtain ⟨hx, hb, -⟩ := X
  exact fun H locs ls hW hS hL => lv_lload_n hx hb hd rfl (hL.2.2 _ _ hl) (k H locs ls hW hS hL)
theorem jk_lload (X : jX E own Ts cl tb nL ini cc M) {pc i : Nat} (hd : decode cc pc = .ok (.lload i, 2)) {lv : List (Option jv)} {r : List jv} {σ : Nat → jcell} {x : Int64} (hl : lv[i]? = some (some (.inr (.inl x)))) (k : jJ E cl nL M Q n cells slots (pc + 2) lv (.inr (.inl x) :: r) σ) : jJ E cl nL M Q n cells slots pc lv r σ := by
  obtain ⟨hx, hb, -⟩ := X
  exact fun H locs ls hW hS hL => lv_lload hx hb hd (hL.2.2 _ _ hl) (k H locs ls hW hS hL)
theorem jk_aload_n (X : jX E own Ts cl tb nL ini cc M) {pc : Nat} {i : Fin 4} (hd : decode cc pc = .ok (.aload_n i, 1)) {lv : List (Option jv)} {r : List jv} {σ : Nat → jcell} {x : Option (Nat ⊕ Nat)} (hl : lv[i.val]? = some (some (.inr (.inr x)))) (k : jJ E cl nL M Q n cells slots (pc + 1) lv (.inr (.inr x) :: r) σ) : jJ E cl nL M Q n cells slots pc lv r σ := by
  obtain ⟨hx, hb, -⟩ := X
  rcases x with _ | a | a
  · exact fun H locs ls hW hS hL => lv_aload_nN hx hb hd rfl (hL.2.2 _ _ hl) (k H locs ls hW hS hL)
  · exact fun H locs ls hW hS hL => lv_aload_n hx hb hd rfl (hL.2.2 _ _ hl) (k H locs ls hW hS hL)
  · exact fun H locs ls hW hS hL => lv_aload_n hx hb hd rfl (hL.2.2 _ _ hl) (k H locs ls hW hS hL)
theorem jk_aload (X : jX E own Ts cl tb nL ini cc M) {pc i : Nat} (hd : decode cc pc = .ok (.aload i, 2)) {lv : List (Option jv)} {r : List jv} {σ : Nat → jcell} {x : Option (Nat ⊕ Nat)} (hl : lv[i]? = some (some (.inr (.inr x)))) (k : jJ E cl nL M Q n cells slots (pc + 2) lv (.inr (.inr x) :: r) σ) : jJ E cl nL M Q n cells slots pc lv r σ := by
  obtain ⟨hx, hb, -⟩ := X
  rcases x with _ | a | a
  · exact fun H locs ls hW hS hL => lv_aloadN hx hb hd (hL.2.2 _ _ hl) (k H locs ls hW hS hL)
  · exact fun H locs ls hW hS hL => lv_aload hx hb hd (hL.2.2 _ _ hl) (k H locs ls hW hS hL)
  · exact fun H locs ls hW hS hL => lv_aload hx hb hd (hL.2.2 _ _ hl) (k H locs ls hW hS hL)
theorem jk_istore_n (X : jX E own Ts cl tb nL ini cc M) {pc : Nat} {i : Fin 4} (hd : decode cc pc = .ok (.istore_n i, 1)) (hi : i.val < nL) {lv : List (Option jv)} {r : List jv} {σ : Nat → jcell} {x : Int32} (k : jJ E cl nL M Q n cells slots (pc + 1) (jset1 lv i.val (.inl x)) r σ) : jJ E cl nL M Q n cells slots pc lv (.inl x :: r) σ := by
  obtain ⟨hx, hb, -⟩ := X
  (intro H locs ls hW hS hL
   obtain ⟨ls', e', h'⟩ := jlv_st1 hL hi (v := .inl x) rfl
   intro T hT X
   obtain ⟨t, a1, b1⟩ := k H locs ls' hW hS h' T hT X
   refine ⟨t, ?_, b1⟩
   (simp only [jc] at e'
    jvm_step X.here [X.here.top, ↓top_set X.here.top, hx, hb, hd, e', List.map_cons, jc]
    exact a1))
theorem jk_istore (X : jX E own Ts cl tb nL ini cc M) {pc : Nat} {i : Nat} (hd : decode cc pc = .ok (.istore i, 2)) (hi : i < nL) {lv : List (Option jv)} {r : List jv} {σ : Nat → jcell} {x : Int32} (k : jJ E cl nL M Q n cells slots (pc + 2) (jset1 lv i (.inl x)) r σ) : jJ E cl nL M Q n cells slots pc lv (.inl x :: r) σ := by
  obtain ⟨hx, hb, -⟩ := X
  (intro H locs ls hW hS hL
   obtain ⟨ls', e', h'⟩ := jlv_st1 hL hi (v := .inl x) rfl
   intro T hT X
   obtain ⟨t, a1, b1⟩ := k H locs ls' hW hS h' T hT X
   refine ⟨t, ?_, b1⟩
   (simp only [jc] at e'
    jvm_step X.here [X.here.top, ↓top_set X.here.top, hx, hb, hd, e', List.map_cons, jc]
    exact a1))
theorem jk_lstore_n (X : jX E own Ts cl tb nL ini cc M) {pc : Nat} {i : Fin 4} (hd : decode cc pc = .ok (.lstore_n i, 1)) (hi : i.val + 1 < nL) {lv : List (Option jv)} {r : List jv} {σ : Nat → jcell} {x : Int64} (k : jJ E cl nL M Q n cells slots (pc + 1) (jset2 lv i.val (.inr (.inl x))) r σ) : jJ E cl nL M Q n cells slots pc lv (.inr (.inl x) :: r) σ := by
  obtain ⟨hx, hb, -⟩ := X
  (intro H locs ls hW hS hL
   obtain ⟨ls', e', h'⟩ := jlv_st2 hL hi (v := .inr (.inl x)) rfl
   intro T hT X
   obtain ⟨t, a1, b1⟩ := k H locs ls' hW hS h' T hT X
   refine ⟨t, ?_, b1⟩
   (simp only [jc] at e'
    jvm_step X.here [X.here.top, ↓top_set X.here.top, hx, hb, hd, e', List.map_cons, jc]
    exact a1))
theorem jk_lstore (X : jX E own Ts cl tb nL ini cc M) {pc : Nat} {i : Nat} (hd : decode cc pc = .ok (.lstore i, 2)) (hi : i + 1 < nL) {lv : List (Option jv)} {r : List jv} {σ : Nat → jcell} {x : Int64} (k : jJ E cl nL M Q n cells slots (pc + 2) (jset2 lv i (.inr (.inl x))) r σ) : jJ E cl nL M Q n cells slots pc lv (.inr (.inl x) :: r) σ := by
  obtain ⟨hx, hb, -⟩ := X
  (intro H locs ls hW hS hL
   obtain ⟨ls', e', h'⟩ := jlv_st2 hL hi (v := .inr (.inl x)) rfl
   intro T hT X
   obtain ⟨t, a1, b1⟩ := k H locs ls' hW hS h' T hT X
   refine ⟨t, ?_, b1⟩
   (simp only [jc] at e'
    jvm_step X.here [X.here.top, ↓top_set X.here.top, hx, hb, hd, e', List.map_cons, jc]
    exact a1))
theorem jk_astore_n (X : jX E own Ts cl tb nL ini cc M) {pc : Nat} {i : Fin 4} (hd : decode cc pc = .ok (.astore_n i, 1)) (hi : i.val < nL) {lv : List (Option jv)} {r : List jv} {σ : Nat → jcell} {x : Option (Nat ⊕ Nat)} (k : jJ E cl nL M Q n cells slots (pc + 1) (jset1 lv i.val (.inr (.inr x))) r σ) : jJ E cl nL M Q n cells slots pc lv (.inr (.inr x) :: r) σ := by
  obtain ⟨hx, hb, -⟩ := X
  (intro H locs ls hW hS hL
   obtain ⟨ls', e', h'⟩ := jlv_st1 hL hi (v := .inr (.inr x)) rfl
   intro T hT X
   obtain ⟨t, a1, b1⟩ := k H locs ls' hW hS h' T hT X
   refine ⟨t, ?_, b1⟩
   rcases x with _ | a | a <;>
   (simp only [jc] at e'
    jvm_step X.here [X.here.top, ↓top_set X.here.top, hx, hb, hd, e', Value.isRef, List.map_cons, jc]
    exact a1))
theorem jk_astore (X : jX E own Ts cl tb nL ini cc M) {pc : Nat} {i : Nat} (hd : decode cc pc = .ok (.astore i, 2)) (hi : i < nL) {lv : List (Option jv)} {r : List jv} {σ : Nat → jcell} {x : Option (Nat ⊕ Nat)} (k : jJ E cl nL M Q n cells slots (pc + 2) (jset1 lv i (.inr (.inr x))) r σ) : jJ E cl nL M Q n cells slots pc lv (.inr (.inr x) :: r) σ := by
  obtain ⟨hx, hb, -⟩ := X
  (intro H locs ls hW hS hL
   obtain ⟨ls', e', h'⟩ := jlv_st1 hL hi (v := .inr (.inr x)) rfl
   intro T hT X
   obtain ⟨t, a1, b1⟩ := k H locs ls' hW hS h' T hT X
   refine ⟨t, ?_, b1⟩
   rcases x with _ | a | a <;>
   (simp only [jc] at e'
    jvm_step X.here [X.here.top, ↓top_set X.here.top, hx, hb, hd, e', Value.isRef, List.map_cons, jc]
    exact a1))
theorem jk_iinc (X : jX E own Ts cl tb nL ini cc M) {pc i : Nat} {z : Int} {v : Int32} (hd : decode cc pc = .ok (.iinc i z, 3)) (hi : i < nL) (hv : Int32.ofInt z = v) {lv : List (Option jv)} {r : List jv} {σ : Nat → jcell} {x : Int32} (hl : lv[i]? = some (some (.inl x))) (k : jJ E cl nL M Q n cells slots (pc + 3) (jset1 lv i (.inl (x + v))) r σ) : jJ E cl nL M Q n cells slots pc lv r σ := by
  obtain ⟨hx, hb, -⟩ := X
  subst hv
  intro H locs ls hW hS hL
  have hg := hL.2.2 _ _ hl
  obtain ⟨ls', e', h'⟩ := jlv_st1 hL hi (v := .inl (x + Int32.ofInt z)) rfl
  intro T hT X
  obtain ⟨t, a1, b1⟩ := k H locs ls' hW hS h' T hT X
  refine ⟨t, ?_, b1⟩
  simp only [jc] at e' hg
  jvm_step X.here [X.here.top, ↓top_set X.here.top, hx, hb, hd, hg, e']
  exact a1
theorem jk_if (X : jX E own Ts cl tb nL ini cc M) {pc tg : Nat} {cd : Jvm.ClassFile.Cond} {z : Int} (hd : decode cc pc = .ok (.ifCond cd z, 3)) (ht : (pc : Int) + z = (tg : Int)) {lv : List (Option jv)} {r : List jv} {σ : Nat → jcell} {x : Int32} {A B : Prop} (h : jbr cd x 0 A B) (ka : A → jJ E cl nL M Q n cells slots tg lv r σ) (kb : B → jJ E cl nL M Q n cells slots (pc + 3) lv r σ) : jJ E cl nL M Q n cells slots pc lv (.inl x :: r) σ := by
  obtain ⟨hx, hb, -⟩ := X
  intro H locs ls hW hS hL
  cases cd
  · exact lv_if_eq hx hb hd ht (fun q => ka (h.1 q) H locs ls hW hS hL) (fun q => kb (h.2 q) H locs ls hW hS hL)
  · exact lv_if_ne hx hb hd ht (fun q => ka (h.1 q) H locs ls hW hS hL) (fun q => kb (h.2 q) H locs ls hW hS hL)
  · exact lv_if_lt hx hb hd ht (fun q => ka (h.1 q) H locs ls hW hS hL) (fun q => kb (h.2 q) H locs ls hW hS hL)
  · exact lv_if_ge hx hb hd ht (fun q => ka (h.1 q) H locs ls hW hS hL) (fun q => kb (h.2 q) H locs ls hW hS hL)
  · exact lv_if_gt hx hb hd ht (fun q => ka (h.1 q) H locs ls hW hS hL) (fun q => kb (h.2 q) H locs ls hW hS hL)
  · exact lv_if_le hx hb hd ht (fun q => ka (h.1 q) H locs ls hW hS hL) (fun q => kb (h.2 q) H locs ls hW hS hL)
theorem jk_icmp (X : jX E own Ts cl tb nL ini cc M) {pc tg : Nat} {cd : Jvm.ClassFile.Cond} {z : Int} (hd : decode cc pc = .ok (.if_icmp cd z, 3)) (ht : (pc : Int) + z = (tg : Int)) {lv : List (Option jv)} {r : List jv} {σ : Nat → jcell} {x y : Int32} {A B : Prop} (h : jbr cd x y A B) (ka : A → jJ E cl nL M Q n cells slots tg lv r σ) (kb : B → jJ E cl nL M Q n cells slots (pc + 3) lv r σ) : jJ E cl nL M Q n cells slots pc lv (.inl y :: .inl x :: r) σ := by
  obtain ⟨hx, hb, -⟩ := X
  intro H locs ls hW hS hL
  cases cd
  · exact lv_icmp_eq hx hb hd ht (fun q => ka (h.1 q) H locs ls hW hS hL) (fun q => kb (h.2 q) H locs ls hW hS hL)
  · exact lv_icmp_ne hx hb hd ht (fun q => ka (h.1 q) H locs ls hW hS hL) (fun q => kb (h.2 q) H locs ls hW hS hL)
  · exact lv_icmp_lt hx hb hd ht (fun q => ka (h.1 q) H locs ls hW hS hL) (fun q => kb (h.2 q) H locs ls hW hS hL)
  · exact lv_icmp_ge hx hb hd ht (fun q => ka (h.1 q) H locs ls hW hS hL) (fun q => kb (h.2 q) H locs ls hW hS hL)
  · exact lv_icmp_gt hx hb hd ht (fun q => ka (h.1 q) H locs ls hW hS hL) (fun q => kb (h.2 q) H locs ls hW hS hL)
  · exact lv_icmp_le hx hb hd ht (fun q => ka (h.1 q) H locs ls hW hS hL) (fun q => kb (h.2 q) H locs ls hW hS hL)
theorem jk_goto (X : jX E own Ts cl tb nL ini cc M) {pc tg : Nat} {z : Int} (hd : decode cc pc = .ok (.goto z, 3)) (ht : (pc : Int) + z = (tg : Int)) {lv : List (Option jv)} {r : List jv} {σ : Nat → jcell} (k : jJ E cl nL M Q n cells slots tg lv r σ) : jJ E cl nL M Q n cells slots pc lv r σ := by
  obtain ⟨hx, hb, -⟩ := X
  exact fun H locs ls hW hS hL => lv_goto hx hb hd ht (k H locs ls hW hS hL)
theorem jk_ifnull (X : jX E own Ts cl tb nL ini cc M) {pc tg : Nat} {z : Int} (hd : decode cc pc = .ok (.ifnull z, 3)) (ht : (pc : Int) + z = (tg : Int)) {lv : List (Option jv)} {r : List jv} {σ : Nat → jcell} {x : Option (Nat ⊕ Nat)} (ka : x = none → jJ E cl nL M Q n cells slots tg lv r σ) (kb : ¬ x = none → jJ E cl nL M Q n cells slots (pc + 3) lv r σ) : jJ E cl nL M Q n cells slots pc lv (.inr (.inr x) :: r) σ := by
  obtain ⟨hx, hb, -⟩ := X
  intro H locs ls hW hS hL
  rcases x with _ | a | a
  · exact lv_ifnullN hx hb hd ht (ka rfl H locs ls hW hS hL)
  · exact lv_ifnull hx hb hd (kb (fun q => by cases q) H locs ls hW hS hL)
  · exact lv_ifnull hx hb hd (kb (fun q => by cases q) H locs ls hW hS hL)
theorem jk_ifnonnull (X : jX E own Ts cl tb nL ini cc M) {pc tg : Nat} {z : Int} (hd : decode cc pc = .ok (.ifnonnull z, 3)) (ht : (pc : Int) + z = (tg : Int)) {lv : List (Option jv)} {r : List jv} {σ : Nat → jcell} {x : Option (Nat ⊕ Nat)} (ka : ¬ x = none → jJ E cl nL M Q n cells slots tg lv r σ) (kb : x = none → jJ E cl nL M Q n cells slots (pc + 3) lv r σ) : jJ E cl nL M Q n cells slots pc lv (.inr (.inr x) :: r) σ := by
  obtain ⟨hx, hb, -⟩ := X
  intro H locs ls hW hS hL
  rcases x with _ | a | a
  · exact lv_ifnonnullN hx hb hd (kb rfl H locs ls hW hS hL)
  · exact lv_ifnonnull hx hb hd ht (ka (fun q => by cases q) H locs ls hW hS hL)
  · exact lv_ifnonnull hx hb hd ht (ka (fun q => by cases q) H locs ls hW hS hL)
theorem jk_iald (X : jX E own Ts cl tb nL ini cc M) {pc : Nat} (hd : decode cc pc = .ok (.iaload, 1)) {lv : List (Option jv)} {r : List jv} {σ : Nat → jcell} {i : Int32} {a len : Nat} {g : Nat → Int32} (ha : a < n) (he : σ a = .inl (.int, len, .inl g)) (hin : vp_in i len) (k : jJ E cl nL M Q n cells slots (pc + 1) lv (.inl (g i.toNatClampNeg) :: r) σ) : jJ E cl nL M Q n cells slots pc lv (.inl i :: .inr (.inr (some (.inl a))) :: r) σ := by
  obtain ⟨hx, hb, -, -, -, ⟨hK, -⟩, -⟩ := X
  intro H locs ls hW hS hL
  have hP := jW_one hW ha (by rw [he]; simp only [jkn]; first | done | decide | assumption)
  rw [he] at hP
  obtain ⟨t0, ht0⟩ := jty_in (E := E) (t := .int) (by decide)
  exact va_iald hx hb hK hP 0 t0 rfl ht0 hin hd (k H locs ls hW hS hL)
theorem jk_ialdT (X : jX E own Ts cl tb nL ini cc M) {pc : Nat} (hd : decode cc pc = .ok (.iaload, 1)) {lv : List (Option jv)} {r : List jv} {σ : Nat → jcell} {i : Int32} {j len : Nat} {g : Nat → Int32} {s1 s2 s3 : String} (he : tb j = some (s1, s2, s3, .int, len, g)) (hin : vp_in i len) (k : jJ E cl nL M Q n cells slots (pc + 1) lv (.inl (g i.toNatClampNeg) :: r) σ) : jJ E cl nL M Q n cells slots pc lv (.inl i :: .inr (.inr (some (.inr j))) :: r) σ := by
  obtain ⟨hx, hb, -, -, -, ⟨-, hT, -⟩, -⟩ := X
  exact fun H locs ls hW hS hL => va_ti hx hb (hT j _ he).2 hS hin rfl hd (k H locs ls hW hS hL)
theorem jk_bald (X : jX E own Ts cl tb nL ini cc M) {pc : Nat} (hd : decode cc pc = .ok (.baload, 1)) {lv : List (Option jv)} {r : List jv} {σ : Nat → jcell} {i : Int32} {a len : Nat} {g : Nat → Int32} (ha : a < n) (he : σ a = .inl (.byte, len, .inl g)) (hin : vp_in i len) (k : jJ E cl nL M Q n cells slots (pc + 1) lv (.inl (g i.toNatClampNeg) :: r) σ) : jJ E cl nL M Q n cells slots pc lv (.inl i :: .inr (.inr (some (.inl a))) :: r) σ := by
  obtain ⟨hx, hb, -, -, -, ⟨hK, -⟩, -⟩ := X
  intro H locs ls hW hS hL
  have hP := jW_one hW ha (by rw [he]; simp only [jkn]; first | done | decide | assumption)
  rw [he] at hP
  obtain ⟨t0, ht0⟩ := jty_in (E := E) (t := .byte) (by decide)
  exact va_bald hx hb hK hP 0 t0 rfl ht0 hin hd (k H locs ls hW hS hL)
theorem jk_baldT (X : jX E own Ts cl tb nL ini cc M) {pc : Nat} (hd : decode cc pc = .ok (.baload, 1)) {lv : List (Option jv)} {r : List jv} {σ : Nat → jcell} {i : Int32} {j len : Nat} {g : Nat → Int32} {s1 s2 s3 : String} (he : tb j = some (s1, s2, s3, .byte, len, g)) (hin : vp_in i len) (k : jJ E cl nL M Q n cells slots (pc + 1) lv (.inl (g i.toNatClampNeg) :: r) σ) : jJ E cl nL M Q n cells slots pc lv (.inl i :: .inr (.inr (some (.inr j))) :: r) σ := by
  obtain ⟨hx, hb, -, -, -, ⟨-, hT, -⟩, -⟩ := X
  exact fun H locs ls hW hS hL => va_tb hx hb (hT j _ he).2 hS hin rfl hd (k H locs ls hW hS hL)
theorem jk_zald (X : jX E own Ts cl tb nL ini cc M) {pc : Nat} (hd : decode cc pc = .ok (.baload, 1)) {lv : List (Option jv)} {r : List jv} {σ : Nat → jcell} {i : Int32} {a len : Nat} {g : Nat → Int32} (ha : a < n) (he : σ a = .inl (.boolean, len, .inl g)) (hin : vp_in i len) (k : jJ E cl nL M Q n cells slots (pc + 1) lv (.inl (g i.toNatClampNeg) :: r) σ) : jJ E cl nL M Q n cells slots pc lv (.inl i :: .inr (.inr (some (.inl a))) :: r) σ := by
  obtain ⟨hx, hb, -, -, -, ⟨hK, -⟩, -⟩ := X
  intro H locs ls hW hS hL
  have hP := jW_one hW ha (by rw [he]; simp only [jkn]; first | done | decide | assumption)
  rw [he] at hP
  obtain ⟨t0, ht0⟩ := jty_in (E := E) (t := .boolean) (by decide)
  exact va_zald hx hb hK hP 0 t0 rfl ht0 hin hd (k H locs ls hW hS hL)
theorem jk_zaldT (X : jX E own Ts cl tb nL ini cc M) {pc : Nat} (hd : decode cc pc = .ok (.baload, 1)) {lv : List (Option jv)} {r : List jv} {σ : Nat → jcell} {i : Int32} {j len : Nat} {g : Nat → Int32} {s1 s2 s3 : String} (he : tb j = some (s1, s2, s3, .boolean, len, g)) (hin : vp_in i len) (k : jJ E cl nL M Q n cells slots (pc + 1) lv (.inl (g i.toNatClampNeg) :: r) σ) : jJ E cl nL M Q n cells slots pc lv (.inl i :: .inr (.inr (some (.inr j))) :: r) σ := by
  obtain ⟨hx, hb, -, -, -, ⟨-, hT, -⟩, -⟩ := X
  exact fun H locs ls hW hS hL => va_tz hx hb (hT j _ he).2 hS hin rfl hd (k H locs ls hW hS hL)
theorem jk_cald (X : jX E own Ts cl tb nL ini cc M) {pc : Nat} (hd : decode cc pc = .ok (.caload, 1)) {lv : List (Option jv)} {r : List jv} {σ : Nat → jcell} {i : Int32} {a len : Nat} {g : Nat → Int32} (ha : a < n) (he : σ a = .inl (.char, len, .inl g)) (hin : vp_in i len) (k : jJ E cl nL M Q n cells slots (pc + 1) lv (.inl (g i.toNatClampNeg) :: r) σ) : jJ E cl nL M Q n cells slots pc lv (.inl i :: .inr (.inr (some (.inl a))) :: r) σ := by
  obtain ⟨hx, hb, -, -, -, ⟨hK, -⟩, -⟩ := X
  intro H locs ls hW hS hL
  have hP := jW_one hW ha (by rw [he]; simp only [jkn]; first | done | decide | assumption)
  rw [he] at hP
  obtain ⟨t0, ht0⟩ := jty_in (E := E) (t := .char) (by decide)
  exact va_cald hx hb hK hP 0 t0 rfl ht0 hin hd (k H locs ls hW hS hL)
theorem jk_caldT (X : jX E own Ts cl tb nL ini cc M) {pc : Nat} (hd : decode cc pc = .ok (.caload, 1)) {lv : List (Option jv)} {r : List jv} {σ : Nat → jcell} {i : Int32} {j len : Nat} {g : Nat → Int32} {s1 s2 s3 : String} (he : tb j = some (s1, s2, s3, .char, len, g)) (hin : vp_in i len) (k : jJ E cl nL M Q n cells slots (pc + 1) lv (.inl (g i.toNatClampNeg) :: r) σ) : jJ E cl nL M Q n cells slots pc lv (.inl i :: .inr (.inr (some (.inr j))) :: r) σ := by
  obtain ⟨hx, hb, -, -, -, ⟨-, hT, -⟩, -⟩ := X
  exact fun H locs ls hW hS hL => va_tc hx hb (hT j _ he).2 hS hin rfl hd (k H locs ls hW hS hL)
theorem jk_iast (X : jX E own Ts cl tb nL ini cc M) {pc : Nat} (hd : decode cc pc = .ok (.iastore, 1)) {lv : List (Option jv)} {r : List jv} {σ : Nat → jcell} {i x : Int32} {a len : Nat} {g : Nat → Int32} (ha : a < n) (he : σ a = .inl (.int, len, .inl g)) (hin : vp_in i len) (k : jJ E cl nL M Q n cells slots (pc + 1) lv r (jup σ a (.inl (.int, len, .inl (upd g i.toNatClampNeg (vp_nar .int x)))))) : jJ E cl nL M Q n cells slots pc lv (.inl x :: .inl i :: .inr (.inr (some (.inl a))) :: r) σ := by
  obtain ⟨hx, hb, -, -, -, ⟨hK, -⟩, -⟩ := X
  intro H locs ls hW hS hL
  have hP := hW.2 a ha (by rw [he]; simp only [jkn]; first | done | decide | assumption)
  rw [he] at hP
  obtain ⟨t0, ht0⟩ := jty_in (E := E) (t := .int) (by decide)
  refine W.iast hx hb hP ((hK.2 t0 _ ht0).1 len (fun j => .int (g j))) (fun q => by cases q) (by show ¬ (i < 0 ∨ (arrV _ _ _).slots.size ≤ _); rw [arrV_size]; exact hin) rfl rfl hd fun H1 e z oq => ?_
  refine k H1 _ ls (jW_set hW z oq ?_) (jS_put hS z oq) hL
  show H1[_]? = some (vp_cell _ _)
  rw [e]
  show some ((vp_cell _ (len, .inl g)).setSlot _ _) = _
  rw [vp_cell_i, vp_cell_i, arrV_store]
  congr 2
  funext q
  by_cases hq : q = i.toNatClampNeg
  · subst hq
    simp [updV, upd, vp_nar]
    try rfl
  · simp [updV, upd, hq]
theorem jk_bast (X : jX E own Ts cl tb nL ini cc M) {pc : Nat} (hd : decode cc pc = .ok (.bastore, 1)) {lv : List (Option jv)} {r : List jv} {σ : Nat → jcell} {i x : Int32} {a len : Nat} {g : Nat → Int32} (ha : a < n) (he : σ a = .inl (.byte, len, .inl g)) (hin : vp_in i len) (k : jJ E cl nL M Q n cells slots (pc + 1) lv r (jup σ a (.inl (.byte, len, .inl (upd g i.toNatClampNeg (vp_nar .byte x)))))) : jJ E cl nL M Q n cells slots pc lv (.inl x :: .inl i :: .inr (.inr (some (.inl a))) :: r) σ := by
  obtain ⟨hx, hb, -, -, -, ⟨hK, -⟩, -⟩ := X
  intro H locs ls hW hS hL
  have hP := hW.2 a ha (by rw [he]; simp only [jkn]; first | done | decide | assumption)
  rw [he] at hP
  obtain ⟨t0, ht0⟩ := jty_in (E := E) (t := .byte) (by decide)
  refine W.bast hx hb hP ((hK.2 t0 _ ht0).1 len (fun j => .int (g j))) (fun q => by cases q) (by show ¬ (i < 0 ∨ (arrV _ _ _).slots.size ≤ _); rw [arrV_size]; exact hin) rfl rfl hd fun H1 e z oq => ?_
  refine k H1 _ ls (jW_set hW z oq ?_) (jS_put hS z oq) hL
  show H1[_]? = some (vp_cell _ _)
  rw [e]
  show some ((vp_cell _ (len, .inl g)).setSlot _ _) = _
  rw [vp_cell_i, vp_cell_i, arrV_store]
  congr 2
  funext q
  by_cases hq : q = i.toNatClampNeg
  · subst hq
    simp [updV, upd, vp_nar]
    try rfl
  · simp [updV, upd, hq]
theorem jk_zast (X : jX E own Ts cl tb nL ini cc M) {pc : Nat} (hd : decode cc pc = .ok (.bastore, 1)) {lv : List (Option jv)} {r : List jv} {σ : Nat → jcell} {i x : Int32} {a len : Nat} {g : Nat → Int32} (ha : a < n) (he : σ a = .inl (.boolean, len, .inl g)) (hin : vp_in i len) (k : jJ E cl nL M Q n cells slots (pc + 1) lv r (jup σ a (.inl (.boolean, len, .inl (upd g i.toNatClampNeg (vp_nar .boolean x)))))) : jJ E cl nL M Q n cells slots pc lv (.inl x :: .inl i :: .inr (.inr (some (.inl a))) :: r) σ := by
  obtain ⟨hx, hb, -, -, -, ⟨hK, -⟩, -⟩ := X
  intro H locs ls hW hS hL
  have hP := hW.2 a ha (by rw [he]; simp only [jkn]; first | done | decide | assumption)
  rw [he] at hP
  obtain ⟨t0, ht0⟩ := jty_in (E := E) (t := .boolean) (by decide)
  refine W.zast hx hb hP ((hK.2 t0 _ ht0).1 len (fun j => .int (g j))) (fun q => by cases q) (by show ¬ (i < 0 ∨ (arrV _ _ _).slots.size ≤ _); rw [arrV_size]; exact hin) rfl rfl hd fun H1 e z oq => ?_
  refine k H1 _ ls (jW_set hW z oq ?_) (jS_put hS z oq) hL
  show H1[_]? = some (vp_cell _ _)
  rw [e]
  show some ((vp_cell _ (len, .inl g)).setSlot _ _) = _
  rw [vp_cell_i, vp_cell_i, arrV_store]
  congr 2
  funext q
  by_cases hq : q = i.toNatClampNeg
  · subst hq
    simp [updV, upd, vp_nar]
    try rfl
  · simp [updV, upd, hq]
theorem jk_cast (X : jX E own Ts cl tb nL ini cc M) {pc : Nat} (hd : decode cc pc = .ok (.castore, 1)) {lv : List (Option jv)} {r : List jv} {σ : Nat → jcell} {i x : Int32} {a len : Nat} {g : Nat → Int32} (ha : a < n) (he : σ a = .inl (.char, len, .inl g)) (hin : vp_in i len) (k : jJ E cl nL M Q n cells slots (pc + 1) lv r (jup σ a (.inl (.char, len, .inl (upd g i.toNatClampNeg (vp_nar .char x)))))) : jJ E cl nL M Q n cells slots pc lv (.inl x :: .inl i :: .inr (.inr (some (.inl a))) :: r) σ := by
  obtain ⟨hx, hb, -, -, -, ⟨hK, -⟩, -⟩ := X
  intro H locs ls hW hS hL
  have hP := hW.2 a ha (by rw [he]; simp only [jkn]; first | done | decide | assumption)
  rw [he] at hP
  obtain ⟨t0, ht0⟩ := jty_in (E := E) (t := .char) (by decide)
  refine W.cast hx hb hP ((hK.2 t0 _ ht0).1 len (fun j => .int (g j))) (fun q => by cases q) (by show ¬ (i < 0 ∨ (arrV _ _ _).slots.size ≤ _); rw [arrV_size]; exact hin) rfl rfl hd fun H1 e z oq => ?_
  refine k H1 _ ls (jW_set hW z oq ?_) (jS_put hS z oq) hL
  show H1[_]? = some (vp_cell _ _)
  rw [e]
  show some ((vp_cell _ (len, .inl g)).setSlot _ _) = _
  rw [vp_cell_i, vp_cell_i, arrV_store]
  congr 2
  funext q
  by_cases hq : q = i.toNatClampNeg
  · subst hq
    simp [updV, upd, vp_nar]
    try rfl
  · simp [updV, upd, hq]
theorem jk_lald (X : jX E own Ts cl tb nL ini cc M) {pc : Nat} (hd : decode cc pc = .ok (.laload, 1)) {lv : List (Option jv)} {r : List jv} {σ : Nat → jcell} {i : Int32} {a len : Nat} {g : Nat → Int64} (ha : a < n) (he : σ a = .inl (.long, len, .inr (.inl g))) (hin : vp_in i len) (k : jJ E cl nL M Q n cells slots (pc + 1) lv (.inr (.inl (g i.toNatClampNeg)) :: r) σ) : jJ E cl nL M Q n cells slots pc lv (.inl i :: .inr (.inr (some (.inl a))) :: r) σ := by
  obtain ⟨hx, hb, -, -, -, ⟨hK, -⟩, -⟩ := X
  intro H locs ls hW hS hL
  have hP := jW_one hW ha (by rw [he]; simp only [jkn]; first | done | decide | assumption)
  rw [he] at hP
  obtain ⟨t0, ht0⟩ := jty_in (E := E) (t := .long) (by decide)
  exact va_lald hx hb hK hP 0 t0 rfl ht0 hin hd (k H locs ls hW hS hL)
theorem jk_last (X : jX E own Ts cl tb nL ini cc M) {pc : Nat} (hd : decode cc pc = .ok (.lastore, 1)) {lv : List (Option jv)} {r : List jv} {σ : Nat → jcell} {i : Int32} {x : Int64} {a len : Nat} {g : Nat → Int64} (ha : a < n) (he : σ a = .inl (.long, len, .inr (.inl g))) (hin : vp_in i len) (k : jJ E cl nL M Q n cells slots (pc + 1) lv r (jup σ a (.inl (.long, len, .inr (.inl (vp_updL g i.toNatClampNeg x)))))) : jJ E cl nL M Q n cells slots pc lv (.inr (.inl x) :: .inl i :: .inr (.inr (some (.inl a))) :: r) σ := by
  obtain ⟨hx, hb, -, -, -, ⟨hK, -⟩, -⟩ := X
  intro H locs ls hW hS hL
  have hP := hW.2 a ha (by rw [he]; simp only [jkn]; first | done | decide | assumption)
  rw [he] at hP
  obtain ⟨t0, ht0⟩ := jty_in (E := E) (t := .long) (by decide)
  refine W.last hx hb hP ((hK.2 t0 _ ht0).1 len (fun j => .long (g j))) (fun q => by cases q) (by show ¬ (i < 0 ∨ (arrV _ _ _).slots.size ≤ _); rw [arrV_size]; exact hin) rfl rfl hd fun H1 e z oq => ?_
  refine k H1 _ ls (jW_set hW z oq ?_) (jS_put hS z oq) hL
  show H1[_]? = some (vp_cell _ _)
  rw [e]
  show some ((vp_cell _ (len, .inr (.inl g))).setSlot _ _) = _
  rw [vp_cell_l, vp_cell_l, arrV_store]
  congr 2
  funext q
  by_cases hq : q = i.toNatClampNeg
  · subst hq
    simp [updV, vp_updL]
  · simp [updV, vp_updL, hq]
theorem jk_alen (X : jX E own Ts cl tb nL ini cc M) {pc : Nat} (hd : decode cc pc = .ok (.arraylength, 1)) {lv : List (Option jv)} {r : List jv} {σ : Nat → jcell} {a : Nat} {t : FieldType} {y : vp_A} (ha : a < n) (he : σ a = .inl (t, y)) (ht : t ∈ jtys) (k : jJ E cl nL M Q n cells slots (pc + 1) lv (.inl (Int32.ofNat y.1) :: r) σ) : jJ E cl nL M Q n cells slots pc lv (.inr (.inr (some (.inl a))) :: r) σ := by
  obtain ⟨hx, hb, -, -, -, ⟨hK, -⟩, -⟩ := X
  intro H locs ls hW hS hL
  have hP := jW_one hW ha (by rw [he]; simp only [jkn]; first | done | decide | assumption)
  rw [he] at hP
  obtain ⟨t0, ht0⟩ := jty_in (E := E) ht
  exact va_alen hx hb hK hP 0 t0 rfl ht0 rfl hd (k H locs ls hW hS hL)
theorem jk_alenT (X : jX E own Ts cl tb nL ini cc M) {pc : Nat} (hd : decode cc pc = .ok (.arraylength, 1)) {lv : List (Option jv)} {r : List jv} {σ : Nat → jcell} {j len : Nat} {t : FieldType} {g : Nat → Int32} {s1 s2 s3 : String} (he : tb j = some (s1, s2, s3, t, len, g)) (k : jJ E cl nL M Q n cells slots (pc + 1) lv (.inl (Int32.ofNat len) :: r) σ) : jJ E cl nL M Q n cells slots pc lv (.inr (.inr (some (.inr j))) :: r) σ := by
  obtain ⟨hx, hb, -, -, -, ⟨-, hT, -⟩, -⟩ := X
  exact fun H locs ls hW hS hL => va_tlen hx hb (hT j _ he).2 hS rfl hd (k H locs ls hW hS hL)
theorem jk_gets (X : jX E own Ts cl tb nL ini cc M) {pc i wi j : Nat} (hd : decode cc pc = .ok (.getstatic i, 3)) {lv : List (Option jv)} {r : List jv} {σ : Nat → jcell} {q : String × String × String × FieldType × Nat × (Nat → Int32)} (he : tb j = some q) (hw : Ts[wi]? = some (Jvm.Cond.fieldLink own i q.1 q.2.1 q.2.2.1)) (k : jJ E cl nL M Q n cells slots (pc + 3) lv (.inr (.inr (some (.inr j))) :: r) σ) : jJ E cl nL M Q n cells slots pc lv r σ := by
  obtain ⟨hx, hb, -, ho, hts, ⟨-, hT, -⟩, -⟩ := X
  exact fun H locs ls hW hS hL => va_gets hx hb (hT j _ he).1 hS ho (hts _ (jTA_in hw rfl)) (fun _ h9 => h9) hd (k H locs ls hW hS hL)
theorem jk_get (hC : jCl Ts cl) (X : jX E own Ts cl tb nL ini cc M) {pc i wi ci f : Nat} (hd : decode cc pc = .ok (.getfield i, 3)) {q : vw_C} (hq : cl[ci]? = some q) (hf : f < q.2.2) (hw : jlk Ts wi own i (q.2.1 f).1 (q.2.1 f).2.1 (q.2.1 f).2.2.1 = true) {lv : List (Option jv)} {r : List jv} {σ : Nat → jcell} {a : Nat} {fs : List jv} {v : jv} (ha : a < n) (he : σ a = .inr (ci, fs)) (hv : fs[f]? = some v) (k : jJ E cl nL M Q n cells slots (pc + 3) lv (v :: r) σ) : jJ E cl nL M Q n cells slots pc lv (.inr (.inr (some (.inl a))) :: r) σ := by
  obtain ⟨hx, hb, -, ho, hts, ⟨hK, -, -, hN⟩, -⟩ := X
  intro H locs ls hW hS hL
  have hP := jW_one hW ha (by rw [he]; simp only [jkn]; first | done | decide | assumption)
  rw [he] at hP
  rcases jlk_or hw with h8 | ⟨host, h8⟩
  · exact va_get (C := q.1) (T := q.2.1) (N := q.2.2) hx hb hts (hC ci q hq).1 ho hK hP 0 rfl hq f hf (hts _ h8) (fun _ h9 => h9) (by rw [List.getElem?_map, hv]; rfl) hd (k H locs ls hW hS hL)
  · exact va_getN (C := q.1) (T := q.2.1) (N := q.2.2) (host := host) hx hb hts (hC ci q hq).1 ho hK hP 0 rfl hq f hf (va_Nw.use rfl (hN _ h8)) (fun _ h9 => h9) (by rw [List.getElem?_map, hv]; rfl) hd (k H locs ls hW hS hL)
theorem jk_put (hC : jCl Ts cl) (X : jX E own Ts cl tb nL ini cc M) {pc i wi ci f kd : Nat} (hd : decode cc pc = .ok (.putfield i, 3)) {q : vw_C} (hq : cl[ci]? = some q) (hf : f < q.2.2) (hw : jlk Ts wi own i (q.2.1 f).1 (q.2.1 f).2.1 (q.2.1 f).2.2.1 = true) (hfin : (q.2.1 f).2.2.2 = true → ini = true ∧ (q.2.1 f).1 = own ∧ Jvm.Cond.fieldLink own i (q.2.1 f).1 (q.2.1 f).2.1 (q.2.1 f).2.2.1 ∈ jTA Ts) (hkd : jkd (parseFieldDescriptor (q.2.1 f).2.2.1) = kd) {lv : List (Option jv)} {r : List jv} {σ : Nat → jcell} {a : Nat} {fs : List jv} {v : jv} (ha : a < n) (he : σ a = .inr (ci, fs)) (hl : f < fs.length) (hv : jfit kd v) (k : jJ E cl nL M Q n cells slots (pc + 3) lv r (jup σ a (.inr (ci, fs.set f v)))) : jJ E cl nL M Q n cells slots pc lv (v :: .inr (.inr (some (.inl a))) :: r) σ := by
  obtain ⟨hx, hb, -, ho, hts, ⟨hK, -, -, hN⟩, -, hini⟩ := X
  intro H locs ls hW hS hL
  obtain ⟨hin, ⟨ty0, hty⟩, hnm⟩ := hC ci q hq
  have hap := va_apart (own := own) hts hin ty0 hty hnm hK hq
  have hP := hW.2 a ha (by rw [he]; simp only [jkn]; first | done | decide | assumption)
  rw [he] at hP
  obtain ⟨r0, h1, cell, q1, q2, q3, q4⟩ := hP
  have hr : r0 = q := Option.some.inj (h1.symm.trans hq)
  subst hr
  obtain ⟨hSl, hfc, kC, hkC, hkind⟩ := hK.1 ci _ hq
  obtain ⟨cf, kf, fi, fd, hi, hsl⟩ := hSl f hf
  obtain ⟨ty, hpty, hnw, hft⟩ := jfit_n (E := E) hv hkd
  have hlay := hts _ (hin _ (u_in_lay hf))
  have hst := (u_facts hfc hkC (u_lays hts hin hf) hi).1
  have hlen : f < (fs.map (jc E)).length := by rw [List.length_map]; exact hl
  have hend : ∀ H' : Heap, H'[E.2.2.2 + a]? = some (cell.setSlot fd.slot (jc E v)) → H'.size = H.size → (∀ z, z ≠ E.2.2.2 + a → H'[z]? = H[z]?) → jW E cl (jup σ a (.inr (ci, fs.set f v))) n H' := by
    intro H' e1 e2 e3
    refine jW_set hW e2 e3 ⟨_, hq, ?_⟩
    rw [hsl] at e1
    refine t_OB.to (V := updV (vp_V (fs.map (jc E))) f (jc E v)) ⟨_, e1, q2, q3, t_set q4 hap hf _⟩ (fun j _ => ?_)
    rw [vp_updV_set hlen]
    show vp_V ((fs.map (jc E)).set f (jc E v)) j = vp_V ((fs.set f v).map (jc E)) j
    rw [List.map_set]
  by_cases hfn : (r0.2.1 f).2.2.2 = true
  · unfold u_lay at hlay
    rw [if_pos hfn] at hlay
    obtain ⟨hi1, hi2, h8⟩ := hfin hfn
    have hcf : M.2.2.2.2.2.1.cls = cf := by
      obtain ⟨_, _, c', _, _, _, -, -, hf', -, -, -, hown2, -⟩ := Cond.laysFinal_spec hlay
      have e1 : c' = cf := by have := hi.symm.trans hf'; simp at this; exact this.1.symm
      rw [hi2] at hown2
      rw [← e1]; exact Option.some.inj (ho.symm.trans hown2)
    have h6 := u_fits hfc hkC hkind (Or.inr hlay) hi hpty hnw hft
    exact W.putFinK hx hb ho (hts _ h8) hi hst hcf (hini hi1) (by rw [q2]; exact h6) q1 q3 (by rw [hsl]; exact k2_hasslot (q4 f hf)) rfl rfl hd fun H' e1 e2 e3 => k H' _ ls (hend H' e1 e2 e3) (jS_put hS e2 e3) hL
  · unfold u_lay at hlay
    rw [if_neg hfn] at hlay
    have h6 := u_store hfc hkC hkind hlay hi hpty hnw hft
    rcases jlk_or hw with h8 | ⟨host, h8⟩
    · exact W.putK hx hb (f := fd) ⟨ho, hts _ h8, ⟨_, _, _, hi⟩, hst⟩ (by rw [q2]; exact h6) q1 q3 (by rw [hsl]; exact k2_hasslot (q4 f hf)) rfl rfl hd fun H' e1 e2 e3 => k H' _ ls (hend H' e1 e2 e3) (jS_put hS e2 e3) hL
    · exact va_WputK hx hb (f := fd) ho (va_Nw.use rfl (hN _ h8)) hi hst (by rw [q2]; exact h6) q1 q3 (by rw [hsl]; exact k2_hasslot (q4 f hf)) rfl rfl hd fun H' e1 e2 e3 => k H' _ ls (hend H' e1 e2 e3) (jS_put hS e2 e3) hL
set_option maxHeartbeats 4000000 in
/-- one instruction: what 'jstep' asks is enough -/
theorem jstep_ok (hC : jCl Ts cl) (X : jX E own Ts cl tb nL ini cc M) {pc : Nat} {I : Instr} {ln : Nat} {py : jP} (hk : jok own Ts cl tb nL ini cc pc (I, ln, py) = true) {lv : List (Option jv)} {st : List jv} {σ : Nat → jcell} {nx lf : jN} (h : jstep tb n I ln py pc lv st σ nx lf)
    (hn : ∀ lv' st' σ', nx (pc + ln) lv' st' σ' → jJ E cl nL M Q n cells slots (pc + ln) lv' st' σ') (hl : ∀ pc' lv' st' σ', lf pc' lv' st' σ' → jJ E cl nL M Q n cells slots pc' lv' st' σ') : jJ E cl nL M Q n cells slots pc lv st σ := by
  unfold jok at hk
  rw [Bool.and_eq_true, decide_eq_true_eq] at hk
  obtain ⟨hd, hk⟩ := hk
  dsimp only at hd hk
  cases I
  case aconst_null =>
    simp only [jok1, Bool.and_eq_true, decide_eq_true_eq] at hk
    simp only [jstep] at h
    subst hk; exact jk_anull X hd (hn _ _ _ h)
  case iconst z =>
    simp only [jok1, Bool.and_eq_true, decide_eq_true_eq] at hk
    simp only [jstep] at h
    obtain ⟨rfl, hv⟩ := hk; exact jk_iconst X hd hv (hn _ _ _ h)
  case bipush z =>
    simp only [jok1, Bool.and_eq_true, decide_eq_true_eq] at hk
    simp only [jstep] at h
    obtain ⟨rfl, hv⟩ := hk; exact jk_bipush X hd hv (hn _ _ _ h)
  case sipush z =>
    simp only [jok1, Bool.and_eq_true, decide_eq_true_eq] at hk
    simp only [jstep] at h
    obtain ⟨rfl, hv⟩ := hk; exact jk_sipush X hd hv (hn _ _ _ h)
  case lconst z =>
    simp only [jok1, Bool.and_eq_true, decide_eq_true_eq] at hk
    simp only [jstep] at h
    obtain ⟨rfl, hv⟩ := hk; exact jk_lconst X hd hv (hn _ _ _ h)
  case ldc z =>
    simp only [jok1, Bool.and_eq_true, decide_eq_true_eq] at hk
    simp only [jstep] at h
    obtain ⟨rfl, hv⟩ := hk; exact jk_ldc X hd hv (hn _ _ _ h)
  case ldc2_w z =>
    simp only [jok1, Bool.and_eq_true, decide_eq_true_eq] at hk
    simp only [jstep] at h
    obtain ⟨rfl, hv⟩ := hk; exact jk_ldc2 X hd hv (hn _ _ _ h)
  case iload_n z =>
    simp only [jok1, Bool.and_eq_true, decide_eq_true_eq] at hk
    simp only [jstep] at h
    obtain ⟨rfl, hv⟩ := hk
    rw [← hv] at h
    unfold jldi at h
    split at h
    next hx => exact jk_iload_n X hd hx (hn _ _ _ h)
    next => exact h.elim
  case iload z =>
    simp only [jok1, Bool.and_eq_true, decide_eq_true_eq] at hk
    simp only [jstep] at h
    subst hk
    unfold jldi at h
    split at h
    next hx => exact jk_iload X hd hx (hn _ _ _ h)
    next => exact h.elim
  case lload_n z =>
    simp only [jok1, Bool.and_eq_true, decide_eq_true_eq] at hk
    simp only [jstep] at h
    obtain ⟨rfl, hv⟩ := hk
    rw [← hv] at h
    unfold jldl at h
    split at h
    next hx => exact jk_lload_n X hd hx (hn _ _ _ h)
    next => exact h.elim
  case lload z =>
    simp only [jok1, Bool.and_eq_true, decide_eq_true_eq] at hk
    simp only [jstep] at h
    subst hk
    unfold jldl at h
    split at h
    next hx => exact jk_lload X hd hx (hn _ _ _ h)
    next => exact h.elim
  case aload_n z =>
    simp only [jok1, Bool.and_eq_true, decide_eq_true_eq] at hk
    simp only [jstep] at h
    obtain ⟨rfl, hv⟩ := hk
    rw [← hv] at h
    unfold jlda at h
    split at h
    next hx => exact jk_aload_n X hd hx (hn _ _ _ h)
    next => exact h.elim
  case aload z =>
    simp only [jok1, Bool.and_eq_true, decide_eq_true_eq] at hk
    simp only [jstep] at h
    subst hk
    unfold jlda at h
    split at h
    next hx => exact jk_aload X hd hx (hn _ _ _ h)
    next => exact h.elim
  case istore_n z =>
    simp only [jok1, Bool.and_eq_true, decide_eq_true_eq] at hk
    simp only [jstep] at h
    obtain ⟨⟨rfl, hi⟩, hv⟩ := hk
    rw [← hv] at h
    unfold j1 at h
    split at h
    next => exact jk_istore_n X hd hi (hn _ _ _ h)
    next => exact h.elim
  case istore z =>
    simp only [jok1, Bool.and_eq_true, decide_eq_true_eq] at hk
    simp only [jstep] at h
    obtain ⟨rfl, hi⟩ := hk
    unfold j1 at h
    split at h
    next => exact jk_istore X hd hi (hn _ _ _ h)
    next => exact h.elim
  case lstore_n z =>
    simp only [jok1, Bool.and_eq_true, decide_eq_true_eq] at hk
    simp only [jstep] at h
    obtain ⟨⟨rfl, hi⟩, hv⟩ := hk
    rw [← hv] at h
    unfold jl1 at h
    split at h
    next => exact jk_lstore_n X hd hi (hn _ _ _ h)
    next => exact h.elim
  case lstore z =>
    simp only [jok1, Bool.and_eq_true, decide_eq_true_eq] at hk
    simp only [jstep] at h
    obtain ⟨rfl, hi⟩ := hk
    unfold jl1 at h
    split at h
    next => exact jk_lstore X hd hi (hn _ _ _ h)
    next => exact h.elim
  case astore_n z =>
    simp only [jok1, Bool.and_eq_true, decide_eq_true_eq] at hk
    simp only [jstep] at h
    obtain ⟨⟨rfl, hi⟩, hv⟩ := hk
    rw [← hv] at h
    unfold ja1 at h
    split at h
    next => exact jk_astore_n X hd hi (hn _ _ _ h)
    next => exact h.elim
  case astore z =>
    simp only [jok1, Bool.and_eq_true, decide_eq_true_eq] at hk
    simp only [jstep] at h
    obtain ⟨rfl, hi⟩ := hk
    unfold ja1 at h
    split at h
    next => exact jk_astore X hd hi (hn _ _ _ h)
    next => exact h.elim
  case iinc z w =>
    simp only [jok1, Bool.and_eq_true, decide_eq_true_eq] at hk
    simp only [jstep] at h
    obtain ⟨⟨rfl, hi⟩, hv⟩ := hk
    unfold jldi at h
    split at h
    next hx => exact jk_iinc X hd hi hv hx (hn _ _ _ h)
    next => exact h.elim
  case iadd =>
    simp only [jok1, Bool.and_eq_true, decide_eq_true_eq] at hk
    simp only [jstep] at h
    subst hk
    unfold j2 at h
    split at h
    next => exact jk_iadd X hd (hn _ _ _ h)
    next => exact h.elim
  case isub =>
    simp only [jok1, Bool.and_eq_true, decide_eq_true_eq] at hk
    simp only [jstep] at h
    subst hk
    unfold j2 at h
    split at h
    next => exact jk_isub X hd (hn _ _ _ h)
    next => exact h.elim
  case imul =>
    simp only [jok1, Bool.and_eq_true, decide_eq_true_eq] at hk
    simp only [jstep] at h
    subst hk
    unfold j2 at h
    split at h
    next => exact jk_imul X hd (hn _ _ _ h)
    next => exact h.elim
  case iand =>
    simp only [jok1, Bool.and_eq_true, decide_eq_true_eq] at hk
    simp only [jstep] at h
    subst hk
    unfold j2 at h
    split at h
    next => exact jk_iand X hd (hn _ _ _ h)
    next => exact h.elim
  case ior =>
    simp only [jok1, Bool.and_eq_true, decide_eq_true_eq] at hk
    simp only [jstep] at h
    subst hk
    unfold j2 at h
    split at h
    next => exact jk_ior X hd (hn _ _ _ h)
    next => exact h.elim
  case ixor =>
    simp only [jok1, Bool.and_eq_true, decide_eq_true_eq] at hk
    simp only [jstep] at h
    subst hk
    unfold j2 at h
    split at h
    next => exact jk_ixor X hd (hn _ _ _ h)
    next => exact h.elim
  case ishl =>
    simp only [jok1, Bool.and_eq_true, decide_eq_true_eq] at hk
    simp only [jstep] at h
    subst hk
    unfold j2 at h
    split at h
    next => exact jk_ishl X hd (hn _ _ _ h)
    next => exact h.elim
  case ishr =>
    simp only [jok1, Bool.and_eq_true, decide_eq_true_eq] at hk
    simp only [jstep] at h
    subst hk
    unfold j2 at h
    split at h
    next => exact jk_ishr X hd (hn _ _ _ h)
    next => exact h.elim
  case iushr =>
    simp only [jok1, Bool.and_eq_true, decide_eq_true_eq] at hk
    simp only [jstep] at h
    subst hk
    unfold j2 at h
    split at h
    next => exact jk_iushr X hd (hn _ _ _ h)
    next => exact h.elim
  case idiv =>
    simp only [jok1, Bool.and_eq_true, decide_eq_true_eq] at hk
    simp only [jstep] at h
    subst hk
    unfold j2 at h
    split at h
    next => exact jk_idiv X hd h.1 (hn _ _ _ h.2)
    next => exact h.elim
  case irem =>
    simp only [jok1, Bool.and_eq_true, decide_eq_true_eq] at hk
    simp only [jstep] at h
    subst hk
    unfold j2 at h
    split at h
    next => exact jk_irem X hd h.1 (hn _ _ _ h.2)
    next => exact h.elim
  case ineg =>
    simp only [jok1, Bool.and_eq_true, decide_eq_true_eq] at hk
    simp only [jstep] at h
    subst hk
    unfold j1 at h
    split at h
    next => exact jk_ineg X hd (hn _ _ _ h)
    next => exact h.elim
  case ladd =>
    simp only [jok1, Bool.and_eq_true, decide_eq_true_eq] at hk
    simp only [jstep] at h
    subst hk
    unfold jl2 at h
    split at h
    next => exact jk_ladd X hd (hn _ _ _ h)
    next => exact h.elim
  case lsub =>
    simp only [jok1, Bool.and_eq_true, decide_eq_true_eq] at hk
    simp only [jstep] at h
    subst hk
    unfold jl2 at h
    split at h
    next => exact jk_lsub X hd (hn _ _ _ h)
    next => exact h.elim
  case lmul =>
    simp only [jok1, Bool.and_eq_true, decide_eq_true_eq] at hk
    simp only [jstep] at h
    subst hk
    unfold jl2 at h
    split at h
    next => exact jk_lmul X hd (hn _ _ _ h)
    next => exact h.elim
  case land =>
    simp only [jok1, Bool.and_eq_true, decide_eq_true_eq] at hk
    simp only [jstep] at h
    subst hk
    unfold jl2 at h
    split at h
    next => exact jk_land X hd (hn _ _ _ h)
    next => exact h.elim
  case lor =>
    simp only [jok1, Bool.and_eq_true, decide_eq_true_eq] at hk
    simp only [jstep] at h
    subst hk
    unfold jl2 at h
    split at h
    next => exact jk_lor X hd (hn _ _ _ h)
    next => exact h.elim
  case lxor =>
    simp only [jok1, Bool.and_eq_true, decide_eq_true_eq] at hk
    simp only [jstep] at h
    subst hk
    unfold jl2 at h
    split at h
    next => exact jk_lxor X hd (hn _ _ _ h)
    next => exact h.elim
  case lcmp =>
    simp only [jok1, Bool.and_eq_true, decide_eq_true_eq] at hk
    simp only [jstep] at h
    subst hk
    unfold jl2 at h
    split at h
    next => exact jk_lcmp X hd (hn _ _ _ h)
    next => exact h.elim
  case ldiv =>
    simp only [jok1, Bool.and_eq_true, decide_eq_true_eq] at hk
    simp only [jstep] at h
    subst hk
    unfold jl2 at h
    split at h
    next => exact jk_ldiv X hd h.1 (hn _ _ _ h.2)
    next => exact h.elim
  case lrem =>
    simp only [jok1, Bool.and_eq_true, decide_eq_true_eq] at hk
    simp only [jstep] at h
    subst hk
    unfold jl2 at h
    split at h
    next => exact jk_lrem X hd h.1 (hn _ _ _ h.2)
    next => exact h.elim
  case lneg =>
    simp only [jok1, Bool.and_eq_true, decide_eq_true_eq] at hk
    simp only [jstep] at h
    subst hk
    unfold jl1 at h
    split at h
    next => exact jk_lneg X hd (hn _ _ _ h)
    next => exact h.elim
  case lshl =>
    simp only [jok1, Bool.and_eq_true, decide_eq_true_eq] at hk
    simp only [jstep] at h
    subst hk
    unfold jli at h
    split at h
    next => exact jk_lshl X hd (hn _ _ _ h)
    next => exact h.elim
  case lshr =>
    simp only [jok1, Bool.and_eq_true, decide_eq_true_eq] at hk
    simp only [jstep] at h
    subst hk
    unfold jli at h
    split at h
    next => exact jk_lshr X hd (hn _ _ _ h)
    next => exact h.elim
  case lushr =>
    simp only [jok1, Bool.and_eq_true, decide_eq_true_eq] at hk
    simp only [jstep] at h
    subst hk
    unfold jli at h
    split at h
    next => exact jk_lushr X hd (hn _ _ _ h)
    next => exact h.elim
  case i2l =>
    simp only [jok1, Bool.and_eq_true, decide_eq_true_eq] at hk
    simp only [jstep] at h
    subst hk
    unfold j1 at h
    split at h
    next => exact jk_i2l X hd (hn _ _ _ h)
    next => exact h.elim
  case i2b =>
    simp only [jok1, Bool.and_eq_true, decide_eq_true_eq] at hk
    simp only [jstep] at h
    subst hk
    unfold j1 at h
    split at h
    next => exact jk_i2b X hd (hn _ _ _ h)
    next => exact h.elim
  case i2c =>
    simp only [jok1, Bool.and_eq_true, decide_eq_true_eq] at hk
    simp only [jstep] at h
    subst hk
    unfold j1 at h
    split at h
    next => exact jk_i2c X hd (hn _ _ _ h)
    next => exact h.elim
  case l2i =>
    simp only [jok1, Bool.and_eq_true, decide_eq_true_eq] at hk
    simp only [jstep] at h
    subst hk
    unfold jl1 at h
    split at h
    next => exact jk_l2i X hd (hn _ _ _ h)
    next => exact h.elim
  case dup =>
    simp only [jok1, Bool.and_eq_true, decide_eq_true_eq] at hk
    simp only [jstep] at h
    subst hk
    unfold jdup at h
    split at h
    next => exact jk_dup X hd h.1 (hn _ _ _ h.2)
    next => exact h.elim
  case pop =>
    simp only [jok1, Bool.and_eq_true, decide_eq_true_eq] at hk
    simp only [jstep] at h
    subst hk
    unfold jdup at h
    split at h
    next => exact jk_pop X hd h.1 (hn _ _ _ h.2)
    next => exact h.elim
  case dup_x1 =>
    simp only [jok1, Bool.and_eq_true, decide_eq_true_eq] at hk
    simp only [jstep] at h
    subst hk
    unfold jdupx at h
    split at h
    next => exact jk_dup_x1 X hd h.1 h.2.1 (hn _ _ _ h.2.2)
    next => exact h.elim
  case dup_x2 =>
    simp only [jok1, Bool.and_eq_true, decide_eq_true_eq] at hk
    simp only [jstep] at h
    subst hk
    unfold jdupx2 at h
    split at h
    next => exact jk_dup_x2 X hd h.1 h.2.1 h.2.2.1 (hn _ _ _ h.2.2.2)
    next => exact h.elim
  case dup2 =>
    simp only [jok1, Bool.and_eq_true, decide_eq_true_eq] at hk
    simp only [jstep] at h
    subst hk
    unfold jdup2 at h
    split at h
    next => exact jk_dup2_2 X hd (hn _ _ _ h)
    next => exact jk_dup2_11 X hd h.1 h.2.1 (hn _ _ _ h.2.2)
    next => exact h.elim
  case ifCond z w =>
    simp only [jok1, Bool.and_eq_true, decide_eq_true_eq] at hk
    simp only [jstep] at h
    obtain ⟨rfl, ht⟩ := hk
    unfold j1 at h
    split at h
    next => exact jk_if X hd ht h (hl _ _ _ _) (hn _ _ _)
    next => exact h.elim
  case if_icmp z w =>
    simp only [jok1, Bool.and_eq_true, decide_eq_true_eq] at hk
    simp only [jstep] at h
    obtain ⟨rfl, ht⟩ := hk
    unfold j2 at h
    split at h
    next => exact jk_icmp X hd ht h (hl _ _ _ _) (hn _ _ _)
    next => exact h.elim
  case ifnull w =>
    simp only [jok1, Bool.and_eq_true, decide_eq_true_eq] at hk
    simp only [jstep] at h
    obtain ⟨rfl, ht⟩ := hk
    unfold ja1 at h
    split at h
    next => exact jk_ifnull X hd ht (fun q => hl _ _ _ _ (h.1 q)) (fun q => hn _ _ _ (h.2 q))
    next => exact h.elim
  case ifnonnull w =>
    simp only [jok1, Bool.and_eq_true, decide_eq_true_eq] at hk
    simp only [jstep] at h
    obtain ⟨rfl, ht⟩ := hk
    unfold ja1 at h
    split at h
    next => exact jk_ifnonnull X hd ht (fun q => hl _ _ _ _ (h.1 q)) (fun q => hn _ _ _ (h.2 q))
    next => exact h.elim
  case goto w =>
    simp only [jok1, Bool.and_eq_true, decide_eq_true_eq] at hk
    simp only [jstep] at h
    obtain ⟨rfl, ht⟩ := hk; exact jk_goto X hd ht (hl _ _ _ _ h)
  case iaload =>
    simp only [jok1, Bool.and_eq_true, decide_eq_true_eq] at hk
    simp only [jstep] at h
    subst hk
    unfold jald at h
    split at h
    next =>
      obtain ⟨ha, h⟩ := h
      split at h
      next he => obtain ⟨rfl, hin, h⟩ := h; exact jk_iald X hd ha he hin (hn _ _ _ h)
      next => exact h.elim
    next =>
      split at h
      next he => obtain ⟨rfl, hin, h⟩ := h; exact jk_ialdT X hd he hin (hn _ _ _ h)
      next => exact h.elim
    next => exact h.elim
  case caload =>
    simp only [jok1, Bool.and_eq_true, decide_eq_true_eq] at hk
    simp only [jstep] at h
    subst hk
    unfold jald at h
    split at h
    next =>
      obtain ⟨ha, h⟩ := h
      split at h
      next he => obtain ⟨rfl, hin, h⟩ := h; exact jk_cald X hd ha he hin (hn _ _ _ h)
      next => exact h.elim
    next =>
      split at h
      next he => obtain ⟨rfl, hin, h⟩ := h; exact jk_caldT X hd he hin (hn _ _ _ h)
      next => exact h.elim
    next => exact h.elim
  case baload =>
    simp only [jok1, Bool.and_eq_true, decide_eq_true_eq] at hk
    simp only [jstep] at h
    subst hk
    unfold jald at h
    split at h
    next =>
      obtain ⟨ha, h⟩ := h
      split at h
      next he =>
        obtain ⟨ht, hin, h⟩ := h
        split at ht
        · subst ht; exact jk_bald X hd ha he hin (hn _ _ _ h)
        · subst ht; exact jk_zald X hd ha he hin (hn _ _ _ h)
      next => exact h.elim
    next =>
      split at h
      next he =>
        obtain ⟨ht, hin, h⟩ := h
        split at ht
        · subst ht; exact jk_baldT X hd he hin (hn _ _ _ h)
        · subst ht; exact jk_zaldT X hd he hin (hn _ _ _ h)
      next => exact h.elim
    next => exact h.elim
  case laload =>
    simp only [jok1, Bool.and_eq_true, decide_eq_true_eq] at hk
    simp only [jstep] at h
    subst hk
    unfold jlald at h
    split at h
    next =>
      obtain ⟨ha, h⟩ := h
      split at h
      next he => obtain ⟨rfl, hin, h⟩ := h; exact jk_lald X hd ha he hin (hn _ _ _ h)
      next => exact h.elim
    next => exact h.elim
  case iastore =>
    simp only [jok1, Bool.and_eq_true, decide_eq_true_eq] at hk
    simp only [jstep] at h
    subst hk
    unfold jast at h
    split at h
    next =>
      obtain ⟨ha, h⟩ := h
      split at h
      next he => obtain ⟨rfl, hin, h⟩ := h; exact jk_iast X hd ha he hin (hn _ _ _ h)
      next => exact h.elim
    next => exact h.elim
  case castore =>
    simp only [jok1, Bool.and_eq_true, decide_eq_true_eq] at hk
    simp only [jstep] at h
    subst hk
    unfold jast at h
    split at h
    next =>
      obtain ⟨ha, h⟩ := h
      split at h
      next he => obtain ⟨rfl, hin, h⟩ := h; exact jk_cast X hd ha he hin (hn _ _ _ h)
      next => exact h.elim
    next => exact h.elim
  case bastore =>
    simp only [jok1, Bool.and_eq_true, decide_eq_true_eq] at hk
    simp only [jstep] at h
    subst hk
    unfold jast at h
    split at h
    next =>
      obtain ⟨ha, h⟩ := h
      split at h
      next he =>
        obtain ⟨ht, hin, h⟩ := h
        by_cases hz : py.1 = 0
        · rw [if_pos hz] at ht h; subst ht; exact jk_bast X hd ha he hin (hn _ _ _ h)
        · rw [if_neg hz] at ht h; subst ht; exact jk_zast X hd ha he hin (hn _ _ _ h)
      next => exact h.elim
    next => exact h.elim
  case lastore =>
    simp only [jok1, Bool.and_eq_true, decide_eq_true_eq] at hk
    simp only [jstep] at h
    subst hk
    unfold jlast at h
    split at h
    next =>
      obtain ⟨ha, h⟩ := h
      split at h
      next he => obtain ⟨rfl, hin, h⟩ := h; exact jk_last X hd ha he hin (hn _ _ _ h)
      next => exact h.elim
    next => exact h.elim
  case arraylength =>
    simp only [jok1, Bool.and_eq_true, decide_eq_true_eq] at hk
    simp only [jstep] at h
    subst hk
    unfold jalen at h
    split at h
    next =>
      obtain ⟨ha, h⟩ := h
      split at h
      next he => exact jk_alen X hd ha he h.1 (hn _ _ _ h.2)
      next => exact h.elim
    next =>
      split at h
      next he => exact jk_alenT X hd he (hn _ _ _ h)
      next => exact h.elim
    next => exact h.elim
  case getstatic i =>
    simp only [jok1, Bool.and_eq_true, decide_eq_true_eq] at hk
    simp only [jstep] at h
    obtain ⟨rfl, hs⟩ := hk
    unfold jokS at hs
    split at hs
    next he => exact jk_gets X hd he (of_decide_eq_true hs) (hn _ _ _ h)
    next => cases hs
  case getfield i =>
    simp only [jok1, Bool.and_eq_true, decide_eq_true_eq] at hk
    simp only [jstep] at h
    obtain ⟨rfl, hs⟩ := hk
    unfold jokF at hs
    split at hs
    next hq =>
      rw [Bool.and_eq_true, decide_eq_true_eq] at hs
      unfold jget at h
      split at h
      next =>
        obtain ⟨ha, h⟩ := h
        split at h
        next he =>
          obtain ⟨rfl, h⟩ := h
          split at h
          next hv => exact jk_get hC X hd hq hs.1 hs.2 ha he hv (hn _ _ _ h)
          next => exact h.elim
        next => exact h.elim
      next => exact h.elim
    next => cases hs
  case putfield i =>
    simp only [jok1, Bool.and_eq_true, decide_eq_true_eq] at hk
    simp only [jstep] at h
    obtain ⟨⟨rfl, hs⟩, hs2⟩ := hk
    unfold jokF at hs
    unfold jokW at hs2
    split at hs
    next q hq =>
      rw [Bool.and_eq_true, decide_eq_true_eq] at hs
      rw [hq] at hs2
      simp only [Bool.and_eq_true, decide_eq_true_eq, Bool.or_eq_true] at hs2
      unfold jput at h
      split at h
      next =>
        obtain ⟨ha, h⟩ := h
        split at h
        next he =>
          obtain ⟨rfl, hlt, hft, h⟩ := h
          exact jk_put hC X hd hq hs.1 hs.2 (fun hf => by
            rcases hs2.1 with h9 | h9
            · rw [hf] at h9; cases h9
            · exact ⟨h9.1.1, h9.1.2, jTA_in h9.2 rfl⟩) hs2.2 ha he hlt hft (hn _ _ _ h)
        next => exact h.elim
      next => exact h.elim
    next => cases hs
  all_goals exact False.elim h
/-- a row of instructions: what 'jrun' asks is enough -/
theorem jrun_ok (hC : jCl Ts cl) (X : jX E own Ts cl tb nL ini cc M) : ∀ (is : List jI) (pc : Nat) (lv : List (Option jv)) (st : List jv) (σ : Nat → jcell), jokL own Ts cl tb nL ini cc pc is = true → jrun tb n is pc lv st σ (jJ E cl nL M Q n cells slots) → jJ E cl nL M Q n cells slots pc lv st σ
  | [], _, _, _, _, _, h => h
  | i :: r, pc, lv, st, σ, hk, h => by
    have hk2 : jok own Ts cl tb nL ini cc pc i = true ∧ jokL own Ts cl tb nL ini cc (pc + i.2.1) r = true := by
      have h9 := hk
      unfold jokL at h9
      rwa [Bool.and_eq_true] at h9
    exact jstep_ok (I := i.1) (ln := i.2.1) (py := i.2.2) hC X hk2.1 h (fun lv' st' σ' h' => jrun_ok hC X r (pc + i.2.1) lv' st' σ' hk2.2 h') (fun _ _ _ _ h' => h')
end JST
end
section
/-! contracts over pictures -/
abbrev jPo : Type := Option jv → (Nat → jcell) → Nat → Prop
abbrev jY : Type := MethodName × ByteArray × Nat × Option FieldType
def jPc (E : jE) (cl : List vw_C) (tb : jTb) (Ts : List Jvm.Cond) (vals : List jv) (σ : Nat → jcell) (n : Nat) : Array Value → State → Prop := fun v U => v = (vals.map (jc E)).toArray ∧ jW E cl σ n U.heap ∧ jK E cl tb Ts U
def jQc (E : jE) (cl : List vw_C) (post : jPo) : Array Value → State → Outcome → State → Prop := fun _ s o t => (∃ (r : Option jv) (σ' : Nat → jcell) (n' : Nat), o = .returned (r.map (jc E)) ∧ post r σ' n' ∧ jW E cl σ' n' t.heap) ∧ va_F (jA E) s t
def jws (Ts : List Jvm.Cond) (Y : jY) : List Jvm.Cond := Jvm.Cond.code Y.1 Y.2.1 Y.2.2.1 Y.2.2.2 :: jTA Ts
def jMet (l : Launch) (E : jE) (cl : List vw_C) (tb : jTb) (Ts : List Jvm.Cond) (Y : jY) (rm : Room) (vals : List jv) (σ : Nat → jcell) (n : Nat) (post : jPo) : Prop := Met l Y.1 (jws Ts Y) rm (jPc E cl tb Ts vals σ n) (jQc E cl post) rm.cells rm.slots (jA E)
def jQ (E : jE) (cl : List vw_C) (M : jM) (post : jPo) (mc ms : Nat) : State → Prop := MQ M.2.2.2.2.2.2.2.1 (jQc E cl post) M.2.2.2.2.2.2.1 M.2.2.2.2.1 mc ms (jA E)
def jar : List jv → List (Option jv)
  | [] => []
  | v :: r => if jcat v = 2 then some v :: none :: jar r else some v :: jar r
def jent (vals : List jv) (nL : Nat) : List (Option jv) := jar vals ++ List.replicate (nL - (jar vals).length) none
theorem jar_in {E : jE} : ∀ (vals : List jv) (i j : Nat) (v : jv), (jar vals)[j]? = some (some v) → (i + j, jc E v) ∈ lv_args i (vals.map (jc E))
  | [], _, _, _, h => by simp [jar] at h
  | w :: r, i, j, v, h => by
    unfold jar at h
    rw [List.map_cons]
    unfold lv_args
    rw [jc_cat]
    by_cases hc : jcat w = 2
    · rw [if_pos hc] at h
      rw [if_pos hc]
      match j, h with
      | 0, h => have hw : w = v := by simpa using h
                subst hw; exact List.mem_cons_self
      | 1, h => simp at h
      | j + 2, h =>
        have h1 := jar_in (E := E) r (i + 2) j v (by simpa using h)
        rw [show i + 2 + j = i + (j + 2) by omega] at h1
        exact List.mem_cons_of_mem _ h1
    · rw [if_neg hc] at h
      rw [if_neg hc]
      match j, h with
      | 0, h => have hw : w = v := by simpa using h
                subst hw; exact List.mem_cons_self
      | j + 1, h =>
        have h1 := jar_in (E := E) r (i + 1) j v (by simpa using h)
        rw [show i + 1 + j = i + (j + 1) by omega] at h1
        exact List.mem_cons_of_mem _ h1
theorem jent_at {vals : List jv} {nL i : Nat} {v : jv} (h : (jent vals nL)[i]? = some (some v)) : (jar vals)[i]? = some (some v) := by
  unfold jent at h
  by_cases hi : i < (jar vals).length
  · rwa [List.getElem?_append_left hi] at h
  · rw [List.getElem?_append_right (by omega)] at h
    rw [List.getElem?_replicate] at h
    split at h <;> simp at h
section JMT
variable {l : Launch} {E : jE} {cl : List vw_C} {tb : jTb} {Ts : List Jvm.Cond}
theorem jMet_of {Y : jY} {own nm ds : String} {cc : ByteArray} {nL : Nat} {ret : Option FieldType} {rm : Room} {vals : List jv} {σ : Nat → jcell} {n : Nat} {post : jPo} (hY : Y = (⟨own, nm, ds⟩, cc, nL, ret)) (ini : Bool) (hini : ini = true → nm = "<init>") (hy : plainName own = true) (hlen : (lg_sl (vals.map (jc E))).length ≤ nL) (lv0 : List (Option jv)) (hlv : jent vals nL = lv0)
    (body : ∀ M : jM, M.2.1 = l → M.2.2.2.1 = rm → jX E own Ts cl tb nL ini cc M → M.2.2.2.2.2.2.2.2.1.sig.returnType = ret → jJ E cl nL M (jQ E cl M post rm.cells rm.slots) n 0 0 0 lv0 [] σ) : jMet l E cl tb Ts Y rm vals σ n post := by
  subst hlv
  subst hY
  refine Met.ofW (cc := cc) (maxL := nL) (ret := ret) hy rfl ?_
  intro p e s m args below meth c s₁ B hml hv
  obtain ⟨rfl, hW, hK⟩ := hv
  have h := body (p, l, e, rm, s, m, (vals.map (jc E)).toArray, below, meth, c) rfl rfl
    ⟨B.exec, B.bytes, hml, findClass_of_methodNamed B.named, fun w hw => atoms_spec (ws := jws Ts (⟨own, nm, ds⟩, cc, nL, ret)) B.pre w (List.mem_cons_of_mem _ hw), hK, B.notSynchronized, fun hi => by
      have hn := (name_of_methodNamed B.named B.method).1
      rw [hn]
      exact hini hi⟩ B.returns
  have hl := lv_entry (vals.map (jc E)) (n := nL) hlen
  rw [lg_entry_eq]
  exact h s.heap [] _ hW va_S.rf ⟨hl.1, hl.2.1, fun i v hi => by
    have h1 := jar_in (E := E) vals 0 i v (jent_at hi)
    rw [Nat.zero_add] at h1
    exact hl.2.2 _ h1⟩
theorem jSt_go {U V : State} {H : Heap} (h : jSt E tb U) (hvm : U.vm.Alike V.vm) (hH : V.heap = H) (hq : ∀ a : Nat, a < U.heap.size → ¬ jA E a → H[a]? = U.heap[a]?) : jSt E tb V := by
  intro j x hx
  obtain ⟨h1, h2⟩ := h j x hx
  subst hH
  exact ⟨(h1.kept hq).moved hvm, (h2.kept hq).moved hvm⟩
theorem jNw_warm {w : Jvm.Cond} {s U : State} (hW : s.WarmedH U.vm) (hn : jnest w = true) (h : va_Nw w s) : va_Nw w U := by
  unfold jnest at hn
  split at hn
  · exact va_Nw.warmF hW h
  · exact va_Nw.warmM hW h
  · cases hn
theorem jnest_tb {w : Jvm.Cond} (hn : jnest w = true) : w.onTables = true := by
  unfold jnest at hn
  split at hn
  · rfl
  · rfl
  · cases hn
theorem jK_go {s U : State} {H : Heap} {locs : List Loc} (h : jK E cl tb Ts s) (hS : va_S (jA E) s.heap H locs) (hU : U.heap = H) (hW : s.WarmedH U.vm) : jK E cl tb Ts U := by
  obtain ⟨h1, h2, h3, h4⟩ := h
  refine ⟨h1.moved hW.alike, jSt_go h2 hW.alike hU (fun a ha hA => hS.2.1 a ha hA), ?_, fun w hw => jNw_warm hW (List.mem_filter.mp hw).2 (h4 w hw)⟩
  rw [hU]
  exact Nat.le_trans h3 hS.1
theorem jPc_blind {vals : List jv} {σ : Nat → jcell} {n : Nat} : FrameBlind (jPc E cl tb Ts vals σ n) := by
  intro a U g mk ⟨q0, q1, q2, q3, q4, q5⟩
  refine ⟨q0, q1, va_K.moved (u := U) (U := U.calling g mk a) (Vm.Alike.refl U.vm) q2, jSt_go (U := U) (V := U.calling g mk a) (H := U.heap) q3 (Vm.Alike.refl U.vm) rfl (fun _ _ _ => rfl), q4, fun w hw => va_Nw.same (u := U) (U := U.calling g mk a) (jnest_tb (List.mem_filter.mp hw).2) rfl (q5 w hw)⟩
end JMT
section JAF
variable {p : Program} {l : Launch} {e : Env} {R : Room} {s : State} {m : MethodId} {args : Array Value} {below : List Frame} {meth : Method} {c : Code} {H : Heap} {locs : List Loc} {cells slots : Nat} {Q : State → Prop}
theorem jk_after {E : jE} {cl : List vw_C} {post : jPo} {pc mc ms : Nat} {ls : Array Slot} {rest st0 : List Value} {a : Array Value} (hr : va_Run p l e R s m args below meth c H locs cells slots mc ms (F0 m pc ls st0) rest (jQc E cl post a) (jA E)) (hS : va_S (jA E) s.heap H locs)
    (kk : ∀ (r : Option jv) (σ' : Nat → jcell) (n' : Nat), post r σ' n' → ∀ (H1 : Heap) (locs1 : List Loc), jW E cl σ' n' H1 → va_S (jA E) s.heap H1 locs1 → W p l e R s m args below meth c H1 locs1 (cells + mc) (slots + ms) Q (F0 m (pc + 3) ls ((r.map (jc E)).toList ++ rest))) : W p l e R s m args below meth c H locs cells slots Q (F0 m pc ls st0) := by
  intro T hT X
  obtain ⟨v, st₀, t, T', L, h0, X', hL, e1, e2, ⟨⟨r, σ', n', hv, hp, hb⟩, hz, hk⟩, st⟩ := hr T hT X
  have hv' : v = r.map (jc E) := Outcome.returned.inj hv
  subst hv'
  rw [h0] at hz hk
  obtain ⟨t2, a1, b1⟩ := kk r σ' n' hp T'.heap (locs ++ L) (by rw [e1]; exact hb)
    ⟨Nat.le_trans hS.1 (by rw [e1]; exact hz), fun q h1 h2 => by rw [e1, hk q (Nat.lt_of_lt_of_le h1 hS.1) h2]; exact hS.2.1 q h1 h2, fun q hq => by
      rcases List.mem_append.mp hq with h | h
      · exact hS.2.2 q h
      · exact hL q h⟩ T' rfl X'
  exact ⟨t2, st t2 a1, b1⟩
end JAF
/-- what the tables say of a method that is called -/
def jmth (Ts : List Jvm.Cond) (Y : jY) (k : Nat) : Prop := Jvm.Cond.code Y.1 Y.2.1 Y.2.2.1 Y.2.2.2 ∈ jTA Ts ∧ Jvm.Cond.initialized Y.1.cls ∈ jTA Ts ∧ Y.1.cls ≠ "java/lang/invoke/MethodHandle" ∧ Y.1.cls ≠ "java/lang/invoke/VarHandle" ∧ (parseMethodDescriptor Y.1.desc).map (fun d => d.parameters.length) = some k
def jlm (Ts : List Jvm.Cond) (wi : Nat) (own : String) (i : Nat) (y : MethodName) : Bool := match Ts[wi]? with
  | some (Jvm.Cond.methodLink a b c) => decide (a = own) && decide (b = i) && decide (c = y)
  | some (Jvm.Cond.methodLinkNest a b c _) => decide (a = own) && decide (b = i) && decide (c = y)
  | _ => false
theorem jlm_or {Ts : List Jvm.Cond} {wi : Nat} {own : String} {i : Nat} {y : MethodName} (h : jlm Ts wi own i y = true) : Jvm.Cond.methodLink own i y ∈ jTA Ts ∨ ∃ host, Jvm.Cond.methodLinkNest own i y host ∈ jNW Ts := by
  unfold jlm at h
  split at h
  next hw =>
    simp only [Bool.and_eq_true, decide_eq_true_eq] at h
    obtain ⟨⟨rfl, rfl⟩, rfl⟩ := h
    exact Or.inl (jTA_in hw rfl)
  next hw =>
    simp only [Bool.and_eq_true, decide_eq_true_eq] at h
    obtain ⟨⟨rfl, rfl⟩, rfl⟩ := h
    exact Or.inr ⟨_, List.mem_filter.mpr ⟨List.mem_of_getElem? hw, rfl⟩⟩
  next => cases h
theorem jgood_or {w : Jvm.Cond} (h : jgood w = true) : (w.onTables && w.keeps) = true ∨ ∃ ty, w = .arrayClass ty := by
  unfold jgood at h
  rw [Bool.or_eq_true] at h
  rcases h with h | h
  · exact Or.inl h
  · split at h
    next ty => exact Or.inr ⟨ty, rfl⟩
    next => cases h
theorem jws_in {Ts : List Jvm.Cond} {Y : jY} (h : Jvm.Cond.code Y.1 Y.2.1 Y.2.2.1 Y.2.2.2 ∈ jTA Ts) : GoodIn (jTA Ts) (jws Ts Y) := by
  intro w hw
  rcases List.mem_cons.mp hw with rfl | hw
  · exact ⟨h, jgood_or (List.mem_filter.mp h).2⟩
  · exact ⟨hw, jgood_or (List.mem_filter.mp hw).2⟩
section JCA
variable {E : jE} {own : String} {Ts : List Jvm.Cond} {cl : List vw_C} {tb : jTb} {nL : Nat} {ini : Bool} {cc : ByteArray} {M : jM} {Q : State → Prop} {n cells slots : Nat}
theorem jcat_sum (E : jE) (r : List jv) : ((r.map (jc E)).map fun v => v.category).sum = (r.map jcat).sum := by
  rw [List.map_map]
  congr 1
  exact List.map_congr_left fun v _ => jc_cat E v
/-- a static method is called -/
theorem jk_callS (X : jX E own Ts cl tb nL ini cc M) {rm rc : Room} (hR : M.2.2.2.1 = rm) {pc i wi k : Nat} {Y : jY} (hd : decode cc pc = .ok (.invokestatic i, 3)) (hw : jlm Ts wi own i Y.1 = true) (hm : jmth Ts Y k) (hst : Jvm.Cond.static Y.1 ∈ jTA Ts) {lv : List (Option jv)} {r vals : List jv} {σ : Nat → jcell} {post : jPo} (hM : jMet M.2.1 E cl tb Ts Y rc vals σ n post) {st : List jv} (hs : st = vals.reverse ++ r) (hk : vals.length = k)
    (hf : rc.frames + 1 ≤ rm.frames ∧ 8 + (Y.2.2.1 + 11) + rc.locals ≤ rm.locals) (hc : cells + rc.cells ≤ rm.cells ∧ slots + rc.slots ≤ rm.slots) (hz : (r.map jcat).sum ≤ 8)
    (kk : ∀ (v : Option jv) (σ' : Nat → jcell) (n' : Nat), post v σ' n' → jJ E cl nL M Q n' (cells + rc.cells) (slots + rc.slots) (pc + 3) lv (v.toList ++ r) σ') : jJ E cl nL M Q n cells slots pc lv st σ := by
  subst hs
  obtain ⟨p, l, e, R, s, m, args, below, meth, c⟩ := M
  dsimp only at hR
  subst hR
  have X0 := X
  obtain ⟨hx, hb, hml, ho, hts, hK, -, -⟩ := X
  obtain ⟨h1, h2, h3, h4, h5⟩ := hm
  intro H locs ls hW hS hL
  have hpre : PreS s H (jPc E cl tb Ts vals σ n) (vals.map (jc E)) := ⟨jPc_blind, fun U hU hWm => ⟨rfl, by rw [hU]; exact hW, jK_go hK hS hU hWm⟩⟩
  have hstk : ((vals.reverse ++ r).map (jc E)) = (vals.map (jc E)).reverse ++ r.map (jc E) := by rw [List.map_append, List.map_reverse]
  have hgo : ∀ (v : Option jv) (σ' : Nat → jcell) (n' : Nat), post v σ' n' → ∀ (H1 : Heap) (locs1 : List Loc), jW E cl σ' n' H1 → va_S (jA E) s.heap H1 locs1 → W p l e R s m args below meth c H1 locs1 (cells + rc.cells) (slots + rc.slots) Q (F0 m (pc + 3) ls ((v.map (jc E)).toList ++ r.map (jc E))) := by
    intro v σ' n' hp H1 locs1 hW1 hS1
    have h := kk v σ' n' hp H1 locs1 ls hW1 hS1 hL
    have e1 : (v.toList ++ r).map (jc E) = (v.map (jc E)).toList ++ r.map (jc E) := by cases v <;> simp
    rw [e1] at h
    exact h
  rcases jlm_or hw with h8 | ⟨host, h8⟩
  · refine jk_after (va_runS (As := vals.map (jc E)) (rest := r.map (jc E)) (Ts := jTA Ts) ⟨hx, hb, hml, ho, hts⟩ hM (callB_of k hts (jws_in h1) rfl rfl rfl (hts _ h2) (hts _ h8) ⟨h3, h4, h5⟩ hf |> fun q => ⟨q, hts _ hst⟩) hpre rfl (by rw [List.length_map]; exact hk) hL.1 hstk (lv_room (by rw [jcat_sum]; exact hz)) hd hc) hS hgo
  · refine jk_after (va_runSN (As := vals.map (jc E)) (rest := r.map (jc E)) (host := host) (Ts := jTA Ts) ⟨hx, hb, hml, ho, hts⟩ hM ⟨va_cnB k hts (jws_in h1) rfl rfl rfl (hK.2.2.2 _ h8) (hts _ h2) ⟨h3, h4, h5⟩ hf, hts _ hst, trivial⟩ hpre rfl (by rw [List.length_map]; exact hk) hL.1 hstk (lv_room (by rw [jcat_sum]; exact hz)) hd hc) hS hgo
/-- a method of an object of ours is called -/
theorem jk_callV (X : jX E own Ts cl tb nL ini cc M) {rm rc : Room} (hR : M.2.2.2.1 = rm) {pc i wi k ci a : Nat} {Y : jY} (hd : decode cc pc = .ok (.invokevirtual i, 3)) (hw : jlm Ts wi own i Y.1 = true) (hm : jmth Ts Y k) (hin : Jvm.Cond.instanceMethod Y.1 ∈ jTA Ts) (hse : Jvm.Cond.selects Y.1.cls Y.1 Y.1 ∈ jTA Ts) {q : vw_C} (hq : cl[ci]? = some q) (hqc : q.1 = Y.1.cls) {lv : List (Option jv)} {r vals : List jv} {σ : Nat → jcell} {fs : List jv} (ha : a < n) (he : σ a = .inr (ci, fs)) {post : jPo} (hM : jMet M.2.1 E cl tb Ts Y rc (.inr (.inr (some (.inl a))) :: vals) σ n post) {st : List jv} (hs : st = vals.reverse ++ .inr (.inr (some (.inl a))) :: r) (hk : vals.length = k)
    (hf : rc.frames + 1 ≤ rm.frames ∧ 8 + (Y.2.2.1 + 11) + rc.locals ≤ rm.locals) (hc : cells + rc.cells ≤ rm.cells ∧ slots + rc.slots ≤ rm.slots) (hz : (r.map jcat).sum ≤ 8)
    (kk : ∀ (v : Option jv) (σ' : Nat → jcell) (n' : Nat), post v σ' n' → jJ E cl nL M Q n' (cells + rc.cells) (slots + rc.slots) (pc + 3) lv (v.toList ++ r) σ') : jJ E cl nL M Q n cells slots pc lv st σ := by
  subst hs
  obtain ⟨p, l, e, R, s, m, args, below, meth, c⟩ := M
  dsimp only at hR
  subst hR
  obtain ⟨hx, hb, hml, ho, hts, hK, -, -⟩ := X
  obtain ⟨h1, h2, h3, h4, h5⟩ := hm
  intro H locs ls hW hS hL
  have hP1 := jW_one hW ha (by rw [he]; simp only [jkn]; first | done | decide | assumption)
  rw [he] at hP1
  obtain ⟨cellB, hcB, hoB, hclB⟩ := va_recv hK.1 hP1 hq (q0 := 0) rfl
  rw [hqc] at hclB
  have hpre : PreV s H Y.1.cls (E.2.2.2 + a) (jPc E cl tb Ts (.inr (.inr (some (.inl a))) :: vals) σ n) (vals.map (jc E)) := ⟨jPc_blind, ⟨cellB, hcB, hoB, hclB⟩, fun U hU hWm => ⟨rfl, by rw [hU]; exact hW, jK_go hK hS hU hWm⟩⟩
  have hstk : ((vals.reverse ++ .inr (.inr (some (.inl a))) :: r).map (jc E)) = (vals.map (jc E)).reverse ++ .ref (E.2.2.2 + a) :: r.map (jc E) := by rw [List.map_append, List.map_reverse]; rfl
  have hgo : ∀ (v : Option jv) (σ' : Nat → jcell) (n' : Nat), post v σ' n' → ∀ (H1 : Heap) (locs1 : List Loc), jW E cl σ' n' H1 → va_S (jA E) s.heap H1 locs1 → W p l e R s m args below meth c H1 locs1 (cells + rc.cells) (slots + rc.slots) Q (F0 m (pc + 3) ls ((v.map (jc E)).toList ++ r.map (jc E))) := by
    intro v σ' n' hp H1 locs1 hW1 hS1
    have h := kk v σ' n' hp H1 locs1 ls hW1 hS1 hL
    have e1 : (v.toList ++ r).map (jc E) = (v.map (jc E)).toList ++ r.map (jc E) := by cases v <;> simp
    rw [e1] at h
    exact h
  rcases jlm_or hw with h8 | ⟨host, h8⟩
  · refine jk_after (va_runV (C := Y.1.cls) (b := E.2.2.2 + a) (As := vals.map (jc E)) (rest := r.map (jc E)) (Ts := jTA Ts) ⟨hx, hb, hml, ho, hts⟩ hM ⟨callB_of k hts (jws_in h1) rfl rfl rfl (hts _ h2) (hts _ h8) ⟨h3, h4, h5⟩ hf, hts _ hin, hts _ hse⟩ hpre rfl (by rw [List.length_map]; exact hk) hL.1 hstk (lv_room (by rw [jcat_sum]; exact hz)) hd hc) hS hgo
  · refine jk_after (va_runVN (C := Y.1.cls) (b := E.2.2.2 + a) (As := vals.map (jc E)) (rest := r.map (jc E)) (host := host) (Ts := jTA Ts) ⟨hx, hb, hml, ho, hts⟩ hM ⟨va_cnB k hts (jws_in h1) rfl rfl rfl (hK.2.2.2 _ h8) (hts _ h2) ⟨h3, h4, h5⟩ hf, hts _ hin, hts _ hse⟩ hpre rfl (by rw [List.length_map]; exact hk) hL.1 hstk (lv_room (by rw [jcat_sum]; exact hz)) hd hc) hS hgo
/-- a constructor is called -/
theorem jk_callI (X : jX E own Ts cl tb nL ini cc M) {rm rc : Room} (hR : M.2.2.2.1 = rm) {pc i wi k a : Nat} {Y : jY} (hd : decode cc pc = .ok (.invokespecial i, 3)) (hw : jlm Ts wi own i Y.1 = true) (hm : jmth Ts Y k) (hin : Jvm.Cond.instanceMethod Y.1 ∈ jTA Ts) (hnm : Y.1.name = "<init>") (hret : Y.2.2.2 = none) {lv : List (Option jv)} {r vals : List jv} {σ : Nat → jcell} {post : jPo} (hM : jMet M.2.1 E cl tb Ts Y rc (.inr (.inr (some (.inl a))) :: vals) σ n post) {st : List jv} (hs : st = vals.reverse ++ .inr (.inr (some (.inl a))) :: r) (hk : vals.length = k)
    (hf : rc.frames + 1 ≤ rm.frames ∧ 8 + (Y.2.2.1 + 11) + rc.locals ≤ rm.locals) (hc : cells + rc.cells ≤ rm.cells ∧ slots + rc.slots ≤ rm.slots) (hz : (r.map jcat).sum ≤ 8)
    (kk : ∀ (v : Option jv) (σ' : Nat → jcell) (n' : Nat), post v σ' n' → jJ E cl nL M Q n' (cells + rc.cells) (slots + rc.slots) (pc + 3) lv (v.toList ++ r) σ') : jJ E cl nL M Q n cells slots pc lv st σ := by
  subst hs
  obtain ⟨p, l, e, R, s, m, args, below, meth, c⟩ := M
  dsimp only at hR
  subst hR
  obtain ⟨y, bytes, maxL, ret⟩ := Y
  dsimp only at hret hnm
  subst hret
  obtain ⟨hx, hb, hml, ho, hts, hK, -, -⟩ := X
  obtain ⟨h1, h2, h3, h4, h5⟩ := hm
  intro H locs ls hW hS hL
  have hpre : PreS s H (jPc E cl tb Ts (.inr (.inr (some (.inl a))) :: vals) σ n) (.ref (E.2.2.2 + a) :: vals.map (jc E)) := ⟨jPc_blind, fun U hU hWm => ⟨rfl, by rw [hU]; exact hW, jK_go hK hS hU hWm⟩⟩
  have hstk : ((vals.reverse ++ .inr (.inr (some (.inl a))) :: r).map (jc E)) = (vals.map (jc E)).reverse ++ .ref (E.2.2.2 + a) :: r.map (jc E) := by rw [List.map_append, List.map_reverse]; rfl
  have hgo : ∀ (v : Option jv) (σ' : Nat → jcell) (n' : Nat), post v σ' n' → ∀ (H1 : Heap) (locs1 : List Loc), jW E cl σ' n' H1 → va_S (jA E) s.heap H1 locs1 → W p l e R s m args below meth c H1 locs1 (cells + rc.cells) (slots + rc.slots) Q (F0 m (pc + 3) ls ((v.map (jc E)).toList ++ r.map (jc E))) := by
    intro v σ' n' hp H1 locs1 hW1 hS1
    have h := kk v σ' n' hp H1 locs1 ls hW1 hS1 hL
    have e1 : (v.toList ++ r).map (jc E) = (v.map (jc E)).toList ++ r.map (jc E) := by cases v <;> simp
    rw [e1] at h
    exact h
  rcases jlm_or hw with h8 | ⟨host, h8⟩
  · refine jk_after (va_runI (b := E.2.2.2 + a) (As := vals.map (jc E)) (rest := r.map (jc E)) (Ts := jTA Ts) ⟨hx, hb, hml, ho, hts⟩ hM ⟨callB_of k hts (jws_in h1) rfl rfl rfl (hts _ h2) (hts _ h8) ⟨h3, h4, h5⟩ hf, hnm, hts _ hin⟩ hpre rfl (by rw [List.length_map]; exact hk) hL.1 hstk (lv_room (by rw [jcat_sum]; exact hz)) hd hc) hS hgo
  · refine jk_after (va_runIN (b := E.2.2.2 + a) (As := vals.map (jc E)) (rest := r.map (jc E)) (host := host) (Ts := jTA Ts) ⟨hx, hb, hml, ho, hts⟩ hM ⟨va_cnB k hts (jws_in h1) rfl rfl rfl (hK.2.2.2 _ h8) (hts _ h2) ⟨h3, h4, h5⟩ hf, hnm, hts _ hin⟩ hpre rfl (by rw [List.length_map]; exact hk) hL.1 hstk (lv_room (by rw [jcat_sum]; exact hz)) hd hc) hS hgo
/-- Object() -/
theorem jk_objInit (X : jX E own Ts cl tb nL ini cc M) {rm : Room} (hR : M.2.2.2.1 = rm) {pc i w1 w2 w3 : Nat} (hd : decode cc pc = .ok (.invokespecial i, 3)) (h1 : Ts[w1]? = some (Jvm.Cond.methodLink own i Lib.objectInit)) (h2 : Ts[w2]? = some (Jvm.Cond.instanceMethod Lib.objectInit)) (h3 : Ts[w3]? = some (Jvm.Cond.code Lib.objectInit ⟨#[0xb1]⟩ 1 none)) {lv : List (Option jv)} {r : List jv} {σ : Nat → jcell} {a : Nat} (hf : 1 ≤ rm.frames) (hz : (r.map jcat).sum + 12 ≤ rm.locals)
    (kk : jJ E cl nL M Q n cells slots (pc + 3) lv r σ) : jJ E cl nL M Q n cells slots pc lv (.inr (.inr (some (.inl a))) :: r) σ := by
  obtain ⟨p, l, e, R, s, m, args, below, meth, c⟩ := M
  dsimp only at hR
  subst hR
  obtain ⟨hx, hb, hml, ho, hts, hK, -, -⟩ := X
  intro H locs ls hW hS hL
  refine W.objInit hx hb ho (hts _ (jTA_in h1 rfl)) (hts _ (jTA_in h2 rfl)) (hts _ (jTA_in h3 rfl)) rfl (by rw [hml]; exact hL.1) rfl hd hf ?_ (kk H locs ls hW hS hL)
  have e1 : (F0 m pc ls ((Sum.inr (Sum.inr (some (Sum.inl a))) :: r).map (jc E))).monitorRoom = 0 := rfl
  rw [e1, jcat_sum]
  dsimp only at hz ⊢
  omega
def jdef (kd : Nat) : jv := match kd with
  | 2 => .inr (.inl 0)
  | 3 => .inr (.inr none)
  | _ => .inl 0
def jnew (q : vw_C) : List jv := (List.range q.2.2).map fun j => jdef (jkd (parseFieldDescriptor (q.2.1 j).2.2.1))
theorem jdef_ok {E : jE} {t : FieldType} (h : jkd (some t) ≠ 9) : defaultValue t = jc E (jdef (jkd (some t))) := by
  cases t <;> first | rfl | exact absurd rfl h
/-- a new object -/
theorem jk_new (hC : jCl Ts cl) (X : jX E own Ts cl tb nL ini cc M) {rm : Room} (hR : M.2.2.2.1 = rm) {pc i w1 w2 w3 ci : Nat} (hd : decode cc pc = .ok (.new i, 3)) {q : vw_C} (hq : cl[ci]? = some q) (h1 : Ts[w1]? = some (Jvm.Cond.classLink own i q.1)) (h2 : Ts[w2]? = some (Jvm.Cond.instantiable q.1 q.2.2)) (h3 : Ts[w3]? = some (Jvm.Cond.initialized q.1)) (h9 : ((List.range q.2.2).all fun j => decide (jkd (parseFieldDescriptor (q.2.1 j).2.2.1) ≠ 9)) = true) {fs : List jv} (hfs : jnew q = fs) {lv : List (Option jv)} {r : List jv} {σ : Nat → jcell} (hc : cells + 1 ≤ rm.cells ∧ slots + q.2.2 ≤ rm.slots)
    (kk : jJ E cl nL M Q (n + 1) (cells + 1) (slots + q.2.2) (pc + 3) lv (.inr (.inr (some (.inl n))) :: r) (jup σ n (.inr (ci, fs)))) : jJ E cl nL M Q n cells slots pc lv r σ := by
  obtain ⟨p, l, e, R, s, m, args, below, meth, c⟩ := M
  dsimp only at hR
  subst hR
  obtain ⟨hx, hb, hml, ho, hts, hK, -, -⟩ := X
  intro H locs ls hW hS hL
  have hKn := hK.1.1 ci _ hq
  refine W.newcK hx hb ho (hts _ (jTA_in h1 rfl)) (hts _ (jTA_in h2 rfl)) (hts _ (jTA_in h3 rfl)) rfl hd hc.1 hc.2 hKn.2.1 hW.1 fun H1 kC hkC e1 z1 o1 => ?_
  refine kk H1 locs ls ⟨by omega, fun k hk hkk => ?_⟩ ⟨by have h7 := hS.1; have h8 := hW.1; dsimp only at h7 ⊢; omega, fun x q1 q2 => (o1 x (by have h7 := hS.1; have h8 := hW.1; dsimp only at h7 q1; omega)).trans (hS.2.1 x q1 q2), hS.2.2⟩ hL
  by_cases hkn : k = n
  · subst hkn
    rw [jup_s]
    obtain ⟨hin, ⟨ty, hty⟩, hnm⟩ := hC ci q hq
    refine ⟨_, hq, (u_born ty hts hin hKn hkC e1 hty).to fun j hj => ?_⟩
    subst hfs
    have hj9 := List.all_eq_true.mp h9 j (List.mem_range.mpr hj)
    rw [decide_eq_true_eq, hty j hj] at hj9
    rw [jdef_ok (E := E) hj9]
    show _ = vp_V ((jnew q).map (jc E)) j
    simp [vp_V, jnew, hj, hty j hj]
  · rw [jup_n hkn] at hkk ⊢
    exact (hW.2 k (by omega) hkk).kept (o1 _ (by show E.2.2.2 + k < _; omega))
def jzero (t : ArrayType) (N : Nat) : vp_A := match t with
  | .long => (N, .inr (.inl fun _ => 0))
  | _ => (N, .inl fun _ => 0)
/-- a new array of numbers -/
theorem jk_newa (X : jX E own Ts cl tb nL ini cc M) {rm : Room} (hR : M.2.2.2.1 = rm) {pc w1 N : Nat} {at1 : ArrayType} (hd : decode cc pc = .ok (.newarray at1, 2)) (h1 : Ts[w1]? = some (Jvm.Cond.arrayClass (newarray.typeOf at1))) (hty : newarray.typeOf at1 ∈ jtys) {lv : List (Option jv)} {r : List jv} {σ : Nat → jcell} {k : Int32} (hk : ¬ k < 0) (hN : k.toNatClampNeg = N) (hby : N * 8 ≤ 536870912) (hc : cells + 1 ≤ rm.cells ∧ slots + N ≤ rm.slots)
    (kk : jJ E cl nL M Q (n + 1) (cells + 1) (slots + N) (pc + 2) lv (.inr (.inr (some (.inl n))) :: r) (jup σ n (.inl (newarray.typeOf at1, jzero at1 N)))) : jJ E cl nL M Q n cells slots pc lv (.inl k :: r) σ := by
  obtain ⟨p, l, e, R, s, m, args, below, meth, c⟩ := M
  dsimp only at hR
  subst hR
  obtain ⟨hx, hb, hml, ho, hts, hK, -, -⟩ := X
  intro H locs ls hW hS hL
  have hcb : componentBytes (newarray.typeOf at1) ≤ 8 := by cases at1 <;> decide
  refine va_newaK hx hb (hts _ (jTA_in h1 rfl)) rfl hd rfl hk hN (Nat.le_trans (Nat.mul_le_mul_left _ hcb) hby) hc.1 hc.2 hW.1 fun H1 cA e1 z1 o1 hAr hNm => ?_
  have hcA : cA = E.2.1 (newarray.typeOf at1) := by
    obtain ⟨t0, ht0⟩ := jty_in (E := E) hty
    have h5 := (hK.1.2 t0 _ ht0).2
    have h6 : s.vm.findClass ("[" ++ (newarray.typeOf at1).toString) = some (E.2.1 (newarray.typeOf at1)) := by
      cases at1 <;> exact h5
    exact Option.some.inj (hNm.symm.trans h6)
  refine kk H1 locs ls ⟨by omega, fun j hj hkk => ?_⟩ ⟨by have h7 := hS.1; have h8 := hW.1; dsimp only at h7 ⊢; omega, fun x q1 q2 => (o1 x (by have h7 := hS.1; have h8 := hW.1; dsimp only at h7 q1; omega)).trans (hS.2.1 x q1 q2), hS.2.2⟩ hL
  by_cases hjn : j = n
  · subst hjn
    rw [jup_s]
    show H1[_]? = some (vp_cell (E.2.1 (newarray.typeOf at1)) (jzero at1 N))
    rw [e1, hcA]
    cases at1 <;> first | rfl | exact absurd hty (by decide)
  · rw [jup_n hjn] at hkk ⊢
    exact (hW.2 j (by omega) hkk).kept (o1 _ (by show E.2.2.2 + j < _; omega))
/-- the ends of a method -/
theorem jk_vret (X : jX E own Ts cl tb nL ini cc M) {pc mc ms : Nat} (hd : decode cc pc = .ok (.return_, 1)) (hr : M.2.2.2.2.2.2.2.2.1.sig.returnType = none) {lv : List (Option jv)} {σ : Nat → jcell} {post : jPo} (hc : cells ≤ mc) (hs : slots ≤ ms) (hp : post none σ n) : jJ E cl nL M (jQ E cl M post mc ms) n cells slots pc lv [] σ := by
  obtain ⟨p, l, e, R, s, m, args, below, meth, c⟩ := M
  obtain ⟨hx, hb, hml, ho, hts, hK, hlk, -⟩ := X
  intro H locs ls hW hS hL
  exact W.widen hc hs (W.vret hx hb hr (fun t ht _ => ⟨⟨none, σ, n, rfl, hp, by rw [ht]; exact hW⟩, hS.F ht⟩) hS.2.2 hd hlk)
theorem jk_iret (X : jX E own Ts cl tb nL ini cc M) {pc mc ms : Nat} (hd : decode cc pc = .ok (.ireturn, 1)) {ty : FieldType} (hr : M.2.2.2.2.2.2.2.2.1.sig.returnType = some ty) {v : Int32} (hn : narrow ty (.int v) = .int v) {lv : List (Option jv)} {σ : Nat → jcell} {post : jPo} (hc : cells ≤ mc) (hs : slots ≤ ms) (hp : post (some (.inl v)) σ n) : jJ E cl nL M (jQ E cl M post mc ms) n cells slots pc lv [.inl v] σ := by
  obtain ⟨p, l, e, R, s, m, args, below, meth, c⟩ := M
  obtain ⟨hx, hb, hml, ho, hts, hK, hlk, -⟩ := X
  intro H locs ls hW hS hL
  exact W.widen hc hs (W.zret hx hb hr hn (fun t ht _ => ⟨⟨some (.inl v), σ, n, rfl, hp, by rw [ht]; exact hW⟩, hS.F ht⟩) hS.2.2 hd hlk)
theorem jk_lret (X : jX E own Ts cl tb nL ini cc M) {pc mc ms : Nat} (hd : decode cc pc = .ok (.lreturn, 1)) (hr : M.2.2.2.2.2.2.2.2.1.sig.returnType = some .long) {v : Int64} {lv : List (Option jv)} {σ : Nat → jcell} {post : jPo} (hc : cells ≤ mc) (hs : slots ≤ ms) (hp : post (some (.inr (.inl v))) σ n) : jJ E cl nL M (jQ E cl M post mc ms) n cells slots pc lv [.inr (.inl v)] σ := by
  obtain ⟨p, l, e, R, s, m, args, below, meth, c⟩ := M
  obtain ⟨hx, hb, hml, ho, hts, hK, hlk, -⟩ := X
  intro H locs ls hW hS hL
  exact W.widen hc hs (W.lret hx hb hr (fun t ht _ => ⟨⟨some (.inr (.inl v)), σ, n, rfl, hp, by rw [ht]; exact hW⟩, hS.F ht⟩) hS.2.2 hd hlk)
/-- weaker is enough -/
theorem jJ_widen {c2 s2 pc : Nat} {lv : List (Option jv)} {st : List jv} {σ : Nat → jcell} (hc : cells ≤ c2) (hs : slots ≤ s2) (h : jJ E cl nL M Q n c2 s2 pc lv st σ) : jJ E cl nL M Q n cells slots pc lv st σ := fun H locs ls hW hS hL => W.widen hc hs (h H locs ls hW hS hL)
/-- locals that nobody needs may be forgotten -/
theorem jJ_lv {pc : Nat} {lv lv' : List (Option jv)} {st : List jv} {σ : Nat → jcell} (hl : ∀ (i : Nat) (v : jv), lv'[i]? = some (some v) → lv[i]? = some (some v)) (h : jJ E cl nL M Q n cells slots pc lv' st σ) : jJ E cl nL M Q n cells slots pc lv st σ := fun H locs ls hW hS hL => h H locs ls hW hS ⟨hL.1, hL.2.1, fun i v hi => hL.2.2 i v (hl i v hi)⟩
end JCA
theorem jMet_post {l : Launch} {E : jE} {cl : List vw_C} {tb : jTb} {Ts : List Jvm.Cond} {Y : jY} {rm : Room} {vals : List jv} {σ : Nat → jcell} {n : Nat} {post post' : jPo} (h : jMet l E cl tb Ts Y rm vals σ n post) (hp : ∀ r σ' n', post r σ' n' → post' r σ' n') : jMet l E cl tb Ts Y rm vals σ n post' := by
  intro p e ha hc hk s m args below hf hs hP hK'
  obtain ⟨n', o, h1, h2, h3, ⟨⟨⟨r, σ', n2, q1, q2, q3⟩, q4⟩, q5⟩⟩ := h p e ha hc hk s m args below hf hs hP hK'
  exact ⟨n', o, h1, h2, h3, ⟨⟨⟨r, σ', n2, q1, hp _ _ _ q2, q3⟩, q4⟩, q5⟩⟩
end
section
/-! shorter rows for calls: an answer that is a number and leaves all as it was; and the general ones with their sums said -/
section JCB
variable {E : jE} {own : String} {Ts : List Jvm.Cond} {cl : List vw_C} {tb : jTb} {nL : Nat} {ini : Bool} {cc : ByteArray} {M : jM} {Q : State → Prop} {n cells slots : Nat}
theorem jk_Si (X : jX E own Ts cl tb nL ini cc M) {rm rc : Room} (hR : M.2.2.2.1 = rm) {pc i wi k : Nat} {Y : jY} (hd : decode cc pc = .ok (.invokestatic i, 3)) (hw : jlm Ts wi own i Y.1 = true) (hm : jmth Ts Y k) (hst : Jvm.Cond.static Y.1 ∈ jTA Ts) {lv : List (Option jv)} {r vals : List jv} {σ : Nat → jcell} {v : Int32} (hM : jMet M.2.1 E cl tb Ts Y rc vals σ n (fun q σ' n' => q = some (.inl v) ∧ σ' = σ ∧ n' = n)) {st : List jv} (hs : st = vals.reverse ++ r) (hk : vals.length = k)
    (hf : rc.frames + 1 ≤ rm.frames ∧ 8 + (Y.2.2.1 + 11) + rc.locals ≤ rm.locals) (h0 : rc.cells = 0 ∧ rc.slots = 0) (hc : cells ≤ rm.cells ∧ slots ≤ rm.slots) (hz : (r.map jcat).sum ≤ 8) {pc' : Nat} (hp : pc + 3 = pc')
    (kk : jJ E cl nL M Q n cells slots pc' lv (.inl v :: r) σ) : jJ E cl nL M Q n cells slots pc lv st σ := by
  refine jk_callS X hR hd hw hm hst hM hs hk hf (by rw [h0.1, h0.2]; exact hc) hz ?_
  rintro _ _ _ ⟨rfl, rfl, rfl⟩
  rw [h0.1, h0.2, hp]
  exact kk
theorem jk_Vi (X : jX E own Ts cl tb nL ini cc M) {rm rc : Room} (hR : M.2.2.2.1 = rm) {pc i wi k ci a : Nat} {Y : jY} (hd : decode cc pc = .ok (.invokevirtual i, 3)) (hw : jlm Ts wi own i Y.1 = true) (hm : jmth Ts Y k) (hin : Jvm.Cond.instanceMethod Y.1 ∈ jTA Ts) (hse : Jvm.Cond.selects Y.1.cls Y.1 Y.1 ∈ jTA Ts) {q : vw_C} (hq : cl[ci]? = some q) (hqc : q.1 = Y.1.cls) {lv : List (Option jv)} {r vals : List jv} {σ : Nat → jcell} {fs : List jv} (ha : a < n) (he : σ a = .inr (ci, fs)) {v : Int32} (hM : jMet M.2.1 E cl tb Ts Y rc (.inr (.inr (some (.inl a))) :: vals) σ n (fun q σ' n' => q = some (.inl v) ∧ σ' = σ ∧ n' = n)) {st : List jv} (hs : st = vals.reverse ++ .inr (.inr (some (.inl a))) :: r) (hk : vals.length = k)
    (hf : rc.frames + 1 ≤ rm.frames ∧ 8 + (Y.2.2.1 + 11) + rc.locals ≤ rm.locals) (h0 : rc.cells = 0 ∧ rc.slots = 0) (hc : cells ≤ rm.cells ∧ slots ≤ rm.slots) (hz : (r.map jcat).sum ≤ 8) {pc' : Nat} (hp : pc + 3 = pc')
    (kk : jJ E cl nL M Q n cells slots pc' lv (.inl v :: r) σ) : jJ E cl nL M Q n cells slots pc lv st σ := by
  refine jk_callV X hR hd hw hm hin hse hq hqc ha he hM hs hk hf (by rw [h0.1, h0.2]; exact hc) hz ?_
  rintro _ _ _ ⟨rfl, rfl, rfl⟩
  rw [h0.1, h0.2, hp]
  exact kk
/-- a call without an answer, or whose answer the post tells -/
theorem jk_Sg (X : jX E own Ts cl tb nL ini cc M) {rm rc : Room} (hR : M.2.2.2.1 = rm) {pc i wi k : Nat} {Y : jY} (hd : decode cc pc = .ok (.invokestatic i, 3)) (hw : jlm Ts wi own i Y.1 = true) (hm : jmth Ts Y k) (hst : Jvm.Cond.static Y.1 ∈ jTA Ts) {lv : List (Option jv)} {r vals : List jv} {σ : Nat → jcell} {post : jPo} (hM : jMet M.2.1 E cl tb Ts Y rc vals σ n post) {st : List jv} (hs : st = vals.reverse ++ r) (hk : vals.length = k)
    (hf : rc.frames + 1 ≤ rm.frames ∧ 8 + (Y.2.2.1 + 11) + rc.locals ≤ rm.locals) {c' s' : Nat} (hc' : cells + rc.cells = c') (hs' : slots + rc.slots = s') (hc : c' ≤ rm.cells ∧ s' ≤ rm.slots) (hz : (r.map jcat).sum ≤ 8) {pc' : Nat} (hp : pc + 3 = pc')
    (kk : ∀ (v : Option jv) (σ' : Nat → jcell) (n' : Nat), post v σ' n' → jJ E cl nL M Q n' c' s' pc' lv (v.toList ++ r) σ') : jJ E cl nL M Q n cells slots pc lv st σ := by
  subst hc'; subst hs'; subst hp
  exact jk_callS X hR hd hw hm hst hM hs hk hf hc hz kk
theorem jk_Vg (X : jX E own Ts cl tb nL ini cc M) {rm rc : Room} (hR : M.2.2.2.1 = rm) {pc i wi k ci a : Nat} {Y : jY} (hd : decode cc pc = .ok (.invokevirtual i, 3)) (hw : jlm Ts wi own i Y.1 = true) (hm : jmth Ts Y k) (hin : Jvm.Cond.instanceMethod Y.1 ∈ jTA Ts) (hse : Jvm.Cond.selects Y.1.cls Y.1 Y.1 ∈ jTA Ts) {q : vw_C} (hq : cl[ci]? = some q) (hqc : q.1 = Y.1.cls) {lv : List (Option jv)} {r vals : List jv} {σ : Nat → jcell} {fs : List jv} (ha : a < n) (he : σ a = .inr (ci, fs)) {post : jPo} (hM : jMet M.2.1 E cl tb Ts Y rc (.inr (.inr (some (.inl a))) :: vals) σ n post) {st : List jv} (hs : st = vals.reverse ++ .inr (.inr (some (.inl a))) :: r) (hk : vals.length = k)
    (hf : rc.frames + 1 ≤ rm.frames ∧ 8 + (Y.2.2.1 + 11) + rc.locals ≤ rm.locals) {c' s' : Nat} (hc' : cells + rc.cells = c') (hs' : slots + rc.slots = s') (hc : c' ≤ rm.cells ∧ s' ≤ rm.slots) (hz : (r.map jcat).sum ≤ 8) {pc' : Nat} (hp : pc + 3 = pc')
    (kk : ∀ (v : Option jv) (σ' : Nat → jcell) (n' : Nat), post v σ' n' → jJ E cl nL M Q n' c' s' pc' lv (v.toList ++ r) σ') : jJ E cl nL M Q n cells slots pc lv st σ := by
  subst hc'; subst hs'; subst hp
  exact jk_callV X hR hd hw hm hin hse hq hqc ha he hM hs hk hf hc hz kk
theorem jk_Ig (X : jX E own Ts cl tb nL ini cc M) {rm rc : Room} (hR : M.2.2.2.1 = rm) {pc i wi k a : Nat} {Y : jY} (hd : decode cc pc = .ok (.invokespecial i, 3)) (hw : jlm Ts wi own i Y.1 = true) (hm : jmth Ts Y k) (hin : Jvm.Cond.instanceMethod Y.1 ∈ jTA Ts) (hnm : Y.1.name = "<init>") (hret : Y.2.2.2 = none) {lv : List (Option jv)} {r vals : List jv} {σ : Nat → jcell} {post : jPo} (hM : jMet M.2.1 E cl tb Ts Y rc (.inr (.inr (some (.inl a))) :: vals) σ n post) {st : List jv} (hs : st = vals.reverse ++ .inr (.inr (some (.inl a))) :: r) (hk : vals.length = k)
    (hf : rc.frames + 1 ≤ rm.frames ∧ 8 + (Y.2.2.1 + 11) + rc.locals ≤ rm.locals) {c' s' : Nat} (hc' : cells + rc.cells = c') (hs' : slots + rc.slots = s') (hc : c' ≤ rm.cells ∧ s' ≤ rm.slots) (hz : (r.map jcat).sum ≤ 8) {pc' : Nat} (hp : pc + 3 = pc')
    (kk : ∀ (v : Option jv) (σ' : Nat → jcell) (n' : Nat), post v σ' n' → jJ E cl nL M Q n' c' s' pc' lv (v.toList ++ r) σ') : jJ E cl nL M Q n cells slots pc lv st σ := by
  subst hc'; subst hs'; subst hp
  exact jk_callI X hR hd hw hm hin hnm hret hM hs hk hf hc hz kk
theorem jk_oi (X : jX E own Ts cl tb nL ini cc M) {rm : Room} (hR : M.2.2.2.1 = rm) {pc i w1 w2 w3 : Nat} (hd : decode cc pc = .ok (.invokespecial i, 3)) (h1 : Ts[w1]? = some (Jvm.Cond.methodLink own i Lib.objectInit)) (h2 : Ts[w2]? = some (Jvm.Cond.instanceMethod Lib.objectInit)) (h3 : Ts[w3]? = some (Jvm.Cond.code Lib.objectInit ⟨#[0xb1]⟩ 1 none)) {lv : List (Option jv)} {r : List jv} {σ : Nat → jcell} {a : Nat} (hf : 1 ≤ rm.frames) (hz : (r.map jcat).sum + 12 ≤ rm.locals) {pc' : Nat} (hp : pc + 3 = pc')
    (kk : jJ E cl nL M Q n cells slots pc' lv r σ) : jJ E cl nL M Q n cells slots pc lv (.inr (.inr (some (.inl a))) :: r) σ := by
  subst hp
  exact jk_objInit X hR hd h1 h2 h3 hf hz kk
theorem jk_nw (hC : jCl Ts cl) (X : jX E own Ts cl tb nL ini cc M) {rm : Room} (hR : M.2.2.2.1 = rm) {pc i w1 w2 w3 ci : Nat} (hd : decode cc pc = .ok (.new i, 3)) {q : vw_C} (hq : cl[ci]? = some q) (h1 : Ts[w1]? = some (Jvm.Cond.classLink own i q.1)) (h2 : Ts[w2]? = some (Jvm.Cond.instantiable q.1 q.2.2)) (h3 : Ts[w3]? = some (Jvm.Cond.initialized q.1)) (h9 : ((List.range q.2.2).all fun j => decide (jkd (parseFieldDescriptor (q.2.1 j).2.2.1) ≠ 9)) = true) {fs : List jv} (hfs : jnew q = fs) {lv : List (Option jv)} {r : List jv} {σ : Nat → jcell} {n' c' s' : Nat} (hn' : n + 1 = n') (hc' : cells + 1 = c') (hs' : slots + q.2.2 = s') (hc : c' ≤ rm.cells ∧ s' ≤ rm.slots) {pc' : Nat} (hp : pc + 3 = pc')
    (kk : jJ E cl nL M Q n' c' s' pc' lv (.inr (.inr (some (.inl n))) :: r) (jup σ n (.inr (ci, fs)))) : jJ E cl nL M Q n cells slots pc lv r σ := by
  subst hn'; subst hc'; subst hs'; subst hp
  exact jk_new hC X hR hd hq h1 h2 h3 h9 hfs hc kk
theorem jk_na (X : jX E own Ts cl tb nL ini cc M) {rm : Room} (hR : M.2.2.2.1 = rm) {pc w1 : Nat} {at1 : ArrayType} (hd : decode cc pc = .ok (.newarray at1, 2)) {ty : FieldType} (hty : newarray.typeOf at1 = ty) (h1 : Ts[w1]? = some (Jvm.Cond.arrayClass ty)) (hin : ty ∈ jtys) {lv : List (Option jv)} {r : List jv} {σ : Nat → jcell} {k : Int32} (hk : ¬ k < 0) (N : Nat) (hN : k.toNatClampNeg = N) (hby : N * 8 ≤ 536870912) {z : vp_A} (hz : jzero at1 N = z) {n' c' s' : Nat} (hn' : n + 1 = n') (hc' : cells + 1 = c') (hs' : slots + N = s') (hc : c' ≤ rm.cells ∧ s' ≤ rm.slots) {pc' : Nat} (hp : pc + 2 = pc')
    (kk : jJ E cl nL M Q n' c' s' pc' lv (.inr (.inr (some (.inl n))) :: r) (jup σ n (.inl (ty, z)))) : jJ E cl nL M Q n cells slots pc lv (.inl k :: r) σ := by
  subst hn'; subst hc'; subst hs'; subst hp; subst hz; subst hty
  exact jk_newa X hR hd h1 hin hk hN hby hc kk
end JCB
end
section
/-! pictures of what a constructor has made: its object at a, and the cells that came behind n -/
def jz : jcell := .inl (.int, 0, .inl fun _ => 0)
def jmk (σ : Nat → jcell) (a n : Nat) (o : jcell) (cs : List jcell) : Nat → jcell := fun p => if p = a then o else if p < n then σ p else cs.getD (p - n) jz
theorem jmk_a {σ : Nat → jcell} {a n : Nat} {o : jcell} {cs : List jcell} : jmk σ a n o cs a = o := if_pos rfl
theorem jmk_put {σ : Nat → jcell} {a n : Nat} {o x : jcell} {cs : List jcell} : jup (jmk σ a n o cs) a x = jmk σ a n x cs := by
  funext p
  by_cases h : p = a
  · subst h
    rw [jup_s, jmk_a]
  · rw [jup_n h]
    unfold jmk
    rw [if_neg h, if_neg h]
theorem jmk_lo {σ : Nat → jcell} {a n p : Nat} {o : jcell} {cs : List jcell} (h : p < n) (hp : p ≠ a) : jmk σ a n o cs p = σ p := by
  unfold jmk
  rw [if_neg hp, if_pos h]
theorem jmk_at {σ : Nat → jcell} {a n k : Nat} {o c : jcell} {cs : List jcell} (ha : a < n) (h : cs[k]? = some c) : jmk σ a n o cs (n + k) = c := by
  unfold jmk
  rw [if_neg (by omega), if_neg (by omega), Nat.add_sub_cancel_left]
  simp [List.getD, h]
theorem jmk_add {σ : Nat → jcell} {a n k : Nat} {o c : jcell} {cs : List jcell} (ha : a < n) (hk : n + cs.length = k) : jup (jmk σ a n o cs) k c = jmk σ a n o (cs ++ [c]) := by
  subst hk
  funext p
  by_cases h : p = n + cs.length
  · subst h
    rw [jup_s, jmk_at (c := c) ha (by simp)]
  · rw [jup_n h]
    unfold jmk
    by_cases h1 : p = a
    · rw [if_pos h1, if_pos h1]
    · rw [if_neg h1, if_neg h1]
      by_cases h2 : p < n
      · rw [if_pos h2, if_pos h2]
      · rw [if_neg h2, if_neg h2]
        simp only [List.getD]
        by_cases h3 : p - n < cs.length
        · rw [List.getElem?_append_left h3]
        · rw [List.getElem?_eq_none (by omega), List.getElem?_eq_none (by simp; omega)]
theorem jmk_nest {σ : Nat → jcell} {a n b m : Nat} {o x y : jcell} {cs ds : List jcell} (ha : a < n) (hb : n + cs.length = b) (hm : b + 1 = m) : jmk (jmk σ a n o (cs ++ [x])) b m y ds = jmk σ a n o (cs ++ y :: ds) := by
  subst hb; subst hm
  funext p
  by_cases h : p = n + cs.length
  · subst h
    rw [jmk_a, jmk_at (c := y) ha (by simp)]
  · by_cases h1 : p < n + cs.length
    · rw [jmk_lo (by omega) h]
      unfold jmk
      by_cases h2 : p = a
      · rw [if_pos h2, if_pos h2]
      · rw [if_neg h2, if_neg h2]
        by_cases h3 : p < n
        · rw [if_pos h3, if_pos h3]
        · rw [if_neg h3, if_neg h3]
          simp only [List.getD]
          rw [List.getElem?_append_left (by omega), List.getElem?_append_left (by omega)]
    · have e1 : jmk (jmk σ a n o (cs ++ [x])) (n + cs.length) (n + cs.length + 1) y ds p = ds.getD (p - (n + cs.length + 1)) jz := by
        conv => lhs; unfold jmk
        rw [if_neg h, if_neg (by omega)]
      rw [e1]
      unfold jmk
      rw [if_neg (by omega), if_neg (by omega)]
      simp only [List.getD]
      rw [List.getElem?_append_right (by omega)]
      rw [show p - n - cs.length = (p - (n + cs.length + 1)) + 1 by omega, List.getElem?_cons_succ]
section JMK
variable {E : jE} {own : String} {Ts : List Jvm.Cond} {cl : List vw_C} {tb : jTb} {nL : Nat} {ini : Bool} {cc : ByteArray} {M : jM} {Q : State → Prop} {n cells slots : Nat}
theorem jJ_congr {pc : Nat} {lv : List (Option jv)} {st : List jv} {σ σ2 : Nat → jcell} (h : ∀ k, k < n → σ k = σ2 k) (hj : jJ E cl nL M Q n cells slots pc lv st σ2) : jJ E cl nL M Q n cells slots pc lv st σ := fun H locs ls hW hS hL => hj H locs ls ⟨hW.1, fun k hk hq => by rw [← h k hk]; exact hW.2 k hk (by rw [h k hk]; exact hq)⟩ hS hL
theorem jmk_in {pc a : Nat} {lv : List (Option jv)} {st : List jv} {σ : Nat → jcell} {o : jcell} (h : σ a = o) (hj : jJ E cl nL M Q n cells slots pc lv st (jmk σ a n o [])) : jJ E cl nL M Q n cells slots pc lv st σ := jJ_congr (fun k hk => by
  by_cases hka : k = a
  · subst hka; rw [jmk_a]; exact h
  · rw [jmk_lo hk hka]) hj
theorem jc_na (X : jX E own Ts cl tb nL ini cc M) {rm : Room} (hR : M.2.2.2.1 = rm) {pc w1 : Nat} {at1 : ArrayType} (hd : decode cc pc = .ok (.newarray at1, 2)) {ty : FieldType} (hty : newarray.typeOf at1 = ty) (h1 : Ts[w1]? = some (Jvm.Cond.arrayClass ty)) (hin : ty ∈ jtys) {lv : List (Option jv)} {r : List jv} {σ : Nat → jcell} {k : Int32} (hk : ¬ k < 0) (N : Nat) (hN : k.toNatClampNeg = N) (hby : N * 8 ≤ 536870912) {z : vp_A} (hz : jzero at1 N = z) {a n0 : Nat} {o : jcell} {cs : List jcell} (cs' : List jcell) (ha : a < n0) (hcs : cs ++ [.inl (ty, z)] = cs') (hn : n0 + cs.length = n) {n' c' s' : Nat} (hn' : n + 1 = n') (hc' : cells + 1 = c') (hs' : slots + N = s') (hc : c' ≤ rm.cells ∧ s' ≤ rm.slots) {pc' : Nat} (hp : pc + 2 = pc')
    (kk : jJ E cl nL M Q n' c' s' pc' lv (.inr (.inr (some (.inl n))) :: r) (jmk σ a n0 o cs')) : jJ E cl nL M Q n cells slots pc lv (.inl k :: r) (jmk σ a n0 o cs) := by
  refine jk_na X hR hd hty h1 hin hk N hN hby hz hn' hc' hs' hc hp ?_
  rw [jmk_add ha hn, hcs]
  exact kk
theorem jc_nw (hC : jCl Ts cl) (X : jX E own Ts cl tb nL ini cc M) {rm : Room} (hR : M.2.2.2.1 = rm) {pc i w1 w2 w3 ci : Nat} (hd : decode cc pc = .ok (.new i, 3)) {q : vw_C} (hq : cl[ci]? = some q) (h1 : Ts[w1]? = some (Jvm.Cond.classLink own i q.1)) (h2 : Ts[w2]? = some (Jvm.Cond.instantiable q.1 q.2.2)) (h3 : Ts[w3]? = some (Jvm.Cond.initialized q.1)) (h9 : ((List.range q.2.2).all fun j => decide (jkd (parseFieldDescriptor (q.2.1 j).2.2.1) ≠ 9)) = true) {fs : List jv} (hfs : jnew q = fs) {lv : List (Option jv)} {r : List jv} {σ : Nat → jcell} {a n0 : Nat} {o : jcell} {cs : List jcell} (ha : a < n0) (hn : n0 + cs.length = n) {n' c' s' : Nat} (hn' : n + 1 = n') (hc' : cells + 1 = c') (hs' : slots + q.2.2 = s') (hc : c' ≤ rm.cells ∧ s' ≤ rm.slots) {pc' : Nat} (hp : pc + 3 = pc')
    (kk : jJ E cl nL M Q n' c' s' pc' lv (.inr (.inr (some (.inl n))) :: r) (jmk σ a n0 o (cs ++ [.inr (ci, fs)]))) : jJ E cl nL M Q n cells slots pc lv r (jmk σ a n0 o cs) := by
  refine jk_nw hC X hR hd hq h1 h2 h3 h9 hfs hn' hc' hs' hc hp ?_
  rw [jmk_add ha hn]
  exact kk
end JMK
end
